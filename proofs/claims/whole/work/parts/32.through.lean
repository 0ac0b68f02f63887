/-! Walk.goThrough. -/
def FW (w : Nat) (h h' : HP) : Prop := Fr (fun q => w ≤ q ∧ q ≤ w + 32) (fun q => q = 4 ∨ q = 5 ∨ (w ≤ q ∧ q ≤ w + 32)) h h'
def RunC (h : HP) (w : Nat) (R : RUT) : Prop := hI h w 7 = 1 ∧ RunS h w R ∧ RunT h w R
theorem RunC_fr {SI SJ : Nat → Prop} {h h1 : HP} (f : Fr SI SJ h h1) {w : Nat} {R : RUT} (hm : um R ≤ 12) (hI' : ∀ q, w ≤ q → q ≤ w + 32 → ¬ SI q) (hJ' : ∀ q, w ≤ q → q ≤ w + 32 → ¬ SJ q) (c : RunC h w R) : RunC h1 w R := by
  obtain ⟨c1, ⟨s1, s2, s3, s4⟩, t1, t2, t3, t4⟩ := c
  have e : ∀ i, hI h1 w i = hI h w i := f.2.2.1 w (hI' w (by omega) (by omega))
  refine ⟨by rw [e]; exact c1, ⟨by rw [e]; exact s1, by rw [e]; exact s2, fun i hi => SA_fr f (hI' _ (by omega) (by omega)) (hJ' _ (by omega) (by omega)) (s3 i hi), fun i hi => by rw [f.2.2.1 _ (hI' _ (by omega) (by omega))]; exact s4 i hi⟩, fun q => ?_, fun q => by rw [e]; exact t2 q, fun q => ?_, fun q => by rw [e]; exact t4 q⟩
  · obtain ⟨q1, q2, q3, q4⟩ := t1 q
    exact ⟨by rw [e]; exact q1, RA_fr f (hJ' _ (by omega) (by omega)) q2, RA_fr f (hJ' _ (by omega) (by omega)) q3, RA_fr f (hJ' _ (by omega) (by omega)) q4⟩
  · obtain ⟨q1, q2⟩ := t3 q
    exact ⟨by rw [e]; exact q1, RA_fr f (hJ' _ (by omega) (by omega)) q2⟩
section GO
variable {Q : Option Value → HP → Prop} {bc bs : Nat} {h : HP}
set_option maxHeartbeats 1000000 in
theorem go_loop {t : TBT} {w rg bg : Nat} {r : RGT} {s0 : PST} (hs : Str h) (tc : TC h t) (tg : TG t) (wk_ : WKs h w) (rk_ : RK h rg) (rr : RG h rg r) (rgd : RGood r) (sg : SG t s0) (w5 : 5 < w) (w139 : w + 32 < 139) (hrg : rg + 3 < w ∨ w + 32 < rg)
    (nx : ∀ h' x, FW w h h' → hI h' w 7 = 1 → RunS h' w (runOf t r s0) → X 36 Q bc bs 127 [.ref w, .ref rg, .ref bg, .ref 2, .int x] [] h') :
    ∀ (f i : Nat) (s : PST) (h' : HP), i + f = rn r → wk t r s0 i = some s → gol t r f i s = gol t r (rn r) 0 s0 → FW w h h' → hI h' w 7 = 1 → hI h' w 6 = nI i → hI h' w 8 = 0 → (∀ j, j ≤ i → SA h' (w + 7 + 2 * j) ((wk t r s0 j).getD s0)) → (∀ j, j < i → hI h' (w + 2) j = io (rk r j)) →
      X 36 Q bc bs 28 [.ref w, .ref rg, .ref bg, .ref 2, .int (nI i)] [] h' := by
  have h12 := rgd.1
  intro f
  induction f with
  | zero =>
    intro i s h' hi hw hg fw e7 e6 e8 hS hK
    have e : i = rn r := by omega
    have rr' := RG_fr fw (show ¬ (w ≤ rg ∧ rg ≤ w + 32) by omega) (show ¬ (w ≤ rg + 1 ∧ rg + 1 ≤ w + 32) by omega) (show ¬ (w ≤ rg + 2 ∧ rg + 2 ≤ w + 32) by omega) (show ¬ (w ≤ rg + 3 ∧ rg + 3 ≤ w + 32) by omega) rr
    refine b36_28 (RK_fr fw rk_).1.1 (fun _ => nx h' _ fw e7 ?_) (fun c => absurd ?_ c)
    · have hg' : i = gol t r (rn r) 0 s0 := hg
      refine ⟨by rw [e6, hg']; rfl, ?_, fun j hj => ?_, fun j hj => ?_⟩
      · rw [e8]
        show 0 = b2 (decide (gol t r (rn r) 0 s0 < rn r))
        rw [← hg', decide_eq_false (by omega)]
        rfl
      · have hj' : j ≤ gol t r (rn r) 0 s0 := hj
        exact hS j (by omega)
      · have hj' : j < gol t r (rn r) 0 s0 := hj
        exact hK j (by omega)
    · rw [rr'.1, nI_leI (by omega) (by omega)]
      omega
  | succ f ih =>
    intro i s h' hi hw hg fw e7 e6 e8 hS hK
    have rr' := RG_fr fw (show ¬ (w ≤ rg ∧ rg ≤ w + 32) by omega) (show ¬ (w ≤ rg + 1 ∧ rg + 1 ≤ w + 32) by omega) (show ¬ (w ≤ rg + 2 ∧ rg + 2 ≤ w + 32) by omega) (show ¬ (w ≤ rg + 3 ∧ rg + 3 ≤ w + 32) by omega) rr
    have rk' := RK_fr fw rk_
    obtain ⟨k1, k2, k3, k4, k5⟩ := WKs_fr fw wk_
    have c0 : (nI i).toNatClampNeg = i := nI_clamp (by omega)
    have c1 : (nI i + (1 : Int32)).toNatClampNeg = i + 1 := by rw [show nI i + (1 : Int32) = nI (i + 1) from nI_1 i]; exact nI_clamp (by omega)
    have k2' := Fr.kd' fw 2
    have kk2_ : kd h' 2 = 5 := by rw [k2']; exact hs.k 2 (by decide) (by decide)
    refine b36_28 rk'.1.1 (fun c => absurd c ?_) (fun _ => b36_37 (fun c => absurd c ?_) (fun _ => b36_44 k1.1 (fun c => absurd e8 c) (fun _ => ?_)))
    · rw [rr'.1, nI_leI (by omega) (by omega)]
      omega
    · rw [show (12 : Int32) = nI 12 from rfl, nI_leI (by omega) (by omega)]
      omega
    refine b36_51 (r1 := w + 2) (r2 := rg + 1) (r3 := w + 1) (r4 := w + 7 + 2 * i) (r5 := w + 7 + 2 * (i + 1)) k1.1 k1.2.2.1 rk'.1.1 rk'.1.2.1 rk'.2.1.1 (by rw [rk'.2.1.2]; exact vp_in_nI (by omega) (by omega)) k3.1 (by rw [k3.2]; exact vp_in_nI (by omega) (by omega)) k1.2.1 (by rw [k2.1]; decide) (by rw [k2.1]; decide) (by rw [k2.2]; exact vp_in_nI (by omega) (by omega)) (by rw [c0]; exact (k5 i (by omega)).1) (by rw [k2.2, show nI i + (1 : Int32) = nI (i + 1) from nI_1 i]; exact vp_in_nI (by omega) (by omega)) (by rw [c1]; exact (k5 (i + 1) (by omega)).1) kk2_ ?_
    rw [c0, (rr'.2 i (by omega)).1]
    have fw1 : FW w h (sI h' (w + 2) i (io (rk r i))) := Fr.sI' fw (show w ≤ w + 2 ∧ w + 2 ≤ w + 32 by omega)
    have tc1 := TC_fr fw1 (fun b q (e : w ≤ b ∧ b ≤ w + 32) => by omega) (fun (e : w ≤ 2 ∧ 2 ≤ w + 32) => by omega) tc
    have rr1 := RG_fr fw1 (show ¬ (w ≤ rg ∧ rg ≤ w + 32) by omega) (show ¬ (w ≤ rg + 1 ∧ rg + 1 ≤ w + 32) by omega) (show ¬ (w ≤ rg + 2 ∧ rg + 2 ≤ w + 32) by omega) (show ¬ (w ≤ rg + 3 ∧ rg + 3 ≤ w + 32) by omega) rr
    have hS1 : ∀ j, j ≤ i → SA (sI h' (w + 2) i (io (rk r i))) (w + 7 + 2 * j) ((wk t r s0 j).getD s0) := fun j hj => ⟨by rw [hI_sI, if_neg (by omega)]; exact (hS j hj).1, (hS j hj).2⟩
    have hK1 : ∀ j, j < i + 1 → hI (sI h' (w + 2) i (io (rk r i))) (w + 2) j = io (rk r j) := fun j hj => by
      rw [hI_sI, if_pos rfl]
      split
      · rename_i q
        rw [q]
      · exact hK j (by omega)
    have e7' : ∀ q, hI (sI h' (w + 2) i (io (rk r i))) w q = hI h' w q := fun q => by rw [hI_sI, if_neg (by omega)]
    have gi := rgd.2 i (by omega)
    have sx := hS1 i (Nat.le_refl _)
    rw [hw] at sx
    refine sp_passes (h := sI h' (w + 2) i (io (rk r i))) (s := s) (r := r) (fw1.str hs) tc1 tg (RK_fr fw1 rk_) rr1 (by omega) ⟨gi.1, gi.2.1, gi.2.2.1⟩ (gi.2.2.2 (by omega)) (k5 i (by omega)).2 sx (wk_good tg rgd sg i (by omega) s hw) (k5 (i + 1) (by omega)).2 (by omega) (by omega) (by omega) (by omega) (by omega) (fun h2 s' hst fr so => ?_) (fun h2 hst fr => ?_)
    · have fw2 : FW w h h2 := fw1.trans' (fr.weak (fun q (e : q = _) => by show w ≤ q ∧ q ≤ w + 32; omega) (fun q (e : q = 4 ∨ q = 5 ∨ q = _) => by show q = 4 ∨ q = 5 ∨ (w ≤ q ∧ q ≤ w + 32); omega))
      have ew : ∀ q, hI h2 w q = hI h' w q := fun q => by rw [fr.2.2.1 w (fun e => by omega), e7']
      have kw2 : kd h2 w = 7 := (WKs_fr fw2 wk_).1.1
      refine b36_89 (fun _ => b36_96 kw2 kw2 (fun _ => b36_116 kw2 ?_) (fun c => absurd (by simp [hI_sI]) c)) (fun c => absurd c (by decide))
      have e6' : hI (sI h2 w 8 0) w 6 + (1 : Int32) = nI (i + 1) := by
        rw [hI_sI, if_pos rfl, if_neg (by omega), ew, e6]
        exact nI_1 i
      rw [e6', show nI i + (1 : Int32) = nI (i + 1) from nI_1 i]
      have hw2 : wk t r s0 (i + 1) = some s' := by
        show (wk t r s0 i).bind (nxt t r i) = some s'
        rw [hw]
        exact hst
      have fw3 : FW w h (sI (sI h2 w 8 0) w 6 (nI (i + 1))) := Fr.sI' (Fr.sI' fw2 (show w ≤ w ∧ w ≤ w + 32 by omega)) (show w ≤ w ∧ w ≤ w + 32 by omega)
      refine ih (i + 1) s' _ (by omega) hw2 ?_ fw3 ?_ ?_ ?_ (fun j hj => ?_) (fun j hj => ?_)
      · rw [← hg]
        conv => rhs; unfold gol
        rw [show nxt t r i s = some s' from hst]
      · rw [hI_sI, if_pos rfl, if_neg (by omega), hI_sI, if_pos rfl, if_neg (by omega), ew]
        exact e7
      · rw [hI_sI, if_pos rfl, if_pos rfl]
      · rw [hI_sI, if_pos rfl, if_neg (by omega), hI_sI, if_pos rfl, if_pos rfl]
      · refine ⟨?_, ?_⟩
        · rw [hI_sI, if_neg (by omega), hI_sI, if_neg (by omega)]
          rcases Nat.lt_or_ge j (i + 1) with q | q
          · rw [fr.2.2.1 _ (fun e => by omega)]
            exact (hS1 j (by omega)).1
          · rw [show j = i + 1 by omega, hw2]
            exact so.1
        · show RA h2 _ _ _
          rcases Nat.lt_or_ge j (i + 1) with q | q
          · exact RA_fr fr (fun e => by omega) (hS1 j (by omega)).2
          · rw [show j = i + 1 by omega, hw2]
            exact so.2
      · rw [hI_sI, if_neg (by omega), hI_sI, if_neg (by omega), fr.2.2.1 _ (fun e => by omega)]
        exact hK1 j hj
    · have fw2 : FW w h h2 := fw1.trans' (fr.weak (fun q (e : q = _) => by show w ≤ q ∧ q ≤ w + 32; omega) (fun q (e : q = 4 ∨ q = 5 ∨ q = _) => by show q = 4 ∨ q = 5 ∨ (w ≤ q ∧ q ≤ w + 32); omega))
      have ew : ∀ q, hI h2 w q = hI h' w q := fun q => by rw [fr.2.2.1 w (fun e => by omega), e7']
      have kw2 : kd h2 w = 7 := (WKs_fr fw2 wk_).1.1
      refine b36_89 (fun c => absurd rfl c) (fun _ => b36_92 kw2 kw2 (fun c => absurd c (by simp [hI_sI])) (fun _ => b36_112 kw2 ?_))
      have e6' : hI (sI h2 w 8 1) w 6 + (0 : Int32) = nI i := by
        rw [hI_sI, if_pos rfl, if_neg (by omega), ew, e6]
        exact Int32.add_zero _
      rw [e6']
      have fw3 : FW w h (sI (sI h2 w 8 1) w 6 (nI i)) := Fr.sI' (Fr.sI' fw2 (show w ≤ w ∧ w ≤ w + 32 by omega)) (show w ≤ w ∧ w ≤ w + 32 by omega)
      have hgi : gol t r (rn r) 0 s0 = i := by
        rw [← hg]
        unfold gol
        rw [show nxt t r i s = none from hst]
      have fin : ∀ x, X 36 Q bc bs 127 [.ref w, .ref rg, .ref bg, .ref 2, .int x] [] (sI (sI h2 w 8 1) w 6 (nI i)) := fun x => by
        refine nx _ x fw3 ?_ ⟨?_, ?_, fun j hj => ?_, fun j hj => ?_⟩
        · rw [hI_sI, if_pos rfl, if_neg (by omega), hI_sI, if_pos rfl, if_neg (by omega), ew]
          exact e7
        · rw [hI_sI, if_pos rfl, if_pos rfl]
          show nI i = nI (gol t r (rn r) 0 s0)
          rw [hgi]
        · rw [hI_sI, if_pos rfl, if_neg (by omega), hI_sI, if_pos rfl, if_pos rfl]
          show 1 = b2 (decide (gol t r (rn r) 0 s0 < rn r))
          rw [hgi, decide_eq_true (by omega)]
          rfl
        · have hj' : j ≤ gol t r (rn r) 0 s0 := hj
          refine ⟨?_, ?_⟩
          · rw [hI_sI, if_neg (by omega), hI_sI, if_neg (by omega), fr.2.2.1 _ (fun e => by omega)]
            exact (hS1 j (by omega)).1
          · exact RA_fr fr (fun e => by omega) (hS1 j (by omega)).2
        · have hj' : j < gol t r (rn r) 0 s0 := hj
          rw [hI_sI, if_neg (by omega), hI_sI, if_neg (by omega), fr.2.2.1 _ (fun e => by omega)]
          exact hK1 j (by omega)
      refine b36_28 (RK_fr fw3 rk_).1.1 (fun _ => fin _) (fun _ => b36_37 (fun _ => fin _) (fun _ => b36_44 kw2 (fun _ => fin _) (fun c => absurd c ?_)))
      rw [hI_sI, if_pos rfl, if_neg (by omega), hI_sI, if_pos rfl, if_pos rfl]
      decide
/-- goThrough: the run of the ring r from s0 is what the walk at w holds -/
theorem sp_go {t : TBT} {w rg bg : Nat} {r : RGT} {s0 : PST} (hs : Str h) (tc : TC h t) (tg : TG t) (wk_ : WKs h w) (rk_ : RK h rg) (rr : RG h rg r) (rgd : RGood r) (kb : SK h bg) (sb : SA h bg s0) (sg : SG t s0) (w5 : 5 < w) (w139 : w + 32 < 139) (hrg : rg + 3 < w ∨ w + 32 < rg)
    (nx : ∀ h', FW w h h' → RunC h' w (runOf t r s0) → Q none h') : X 36 Q bc bs 0 [.ref w, .ref rg, .ref bg, .ref 2, UU] [] h := by
  obtain ⟨k1, k2, k3, k4, k5⟩ := wk_
  have k0 := k5 0 (by omega)
  refine b36_0 (r1 := w + 1) (r2 := w + 7) k1.1 k1.2.1 (by rw [k2.1]; decide) (by rw [k2.1]; decide) (by rw [k2.2]; exact vp_in_nI (n := 0) (by omega) (by omega)) k0.1 k0.2.1 (sp_scopy k0.2 kb sb (b36_10 k1.1 ?_))
  have f0 : FW w h (sI (sI (sI (wR (sI h (w + 7) 1 (nI s0.1)) (w + 7 + 1) s0.2.1 s0.2.2) w 7 1) w 6 0) w 8 0) := Fr.sI' (Fr.sI' (Fr.sI' (Fr.wR' (Fr.sI' Fr.rfl' (show w ≤ w + 7 ∧ w + 7 ≤ w + 32 by omega)) (show w + 7 + 1 = 4 ∨ w + 7 + 1 = 5 ∨ (w ≤ w + 7 + 1 ∧ w + 7 + 1 ≤ w + 32) by omega)) (show w ≤ w ∧ w ≤ w + 32 by omega)) (show w ≤ w ∧ w ≤ w + 32 by omega)) (show w ≤ w ∧ w ≤ w + 32 by omega)
  refine go_loop (h := h) hs tc tg ⟨k1, k2, k3, k4, k5⟩ rk_ rr rgd sg w5 w139 hrg (fun h' x fw e7 rs => ?_) (rn r) 0 s0 _ (by omega) rfl rfl f0 ?_ ?_ ?_ (fun j hj => ?_) (fun j hj => absurd hj (by omega))
  · have wk' := WKs_fr fw ⟨k1, k2, k3, k4, k5⟩
    refine b36_127 wk'.1.1 (sp_sum wk' rs tg (runOf_RW tg rgd sg) (fun h2 fs rs2 rt => b36_131 (nx h2 ?_ ⟨?_, rs2, rt⟩)))
    · exact fw.trans' (fs.1.weak (fun q (e : q = w) => by show w ≤ q ∧ q ≤ w + 32; omega) (fun q (e : w + 3 ≤ q ∧ q ≤ w + 6) => by show q = 4 ∨ q = 5 ∨ (w ≤ q ∧ q ≤ w + 32); omega))
    · rw [fs.2 7 (by omega) (by omega)]
      exact e7
  · rw [hI_sI, if_pos rfl, if_neg (by omega), hI_sI, if_pos rfl, if_neg (by omega), hI_sI, if_pos rfl, if_pos rfl]
  · rw [hI_sI, if_pos rfl, if_neg (by omega), hI_sI, if_pos rfl, if_pos rfl]
    rfl
  · rw [hI_sI, if_pos rfl, if_pos rfl]
  · have e : j = 0 := by omega
    subst e
    refine ⟨?_, RA_wR⟩
    rw [hI_sI, if_neg (by omega), hI_sI, if_neg (by omega), hI_sI, if_neg (by omega)]
    show hI (sI h (w + 7) 1 (nI s0.1)) (w + 7) 1 = nI s0.1
    rw [hI_sI, if_pos rfl, if_pos rfl]
end GO
