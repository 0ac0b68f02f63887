/-! The reference: runs. -/
section MOD4
variable {Q : Option Value → HP → Prop} {bc bs : Nat} {h : HP}
set_option maxHeartbeats 2000000 in
theorem rn_loop {t : TBT} {r : RGT} {s0 : PST} {x1 : Int32} {x2 x4 : Int64} (hs : Str h) (tm : TM h t) (tg : TG t) (rm : RM h r) (rgd : RGood r) (sg : SG t s0)
    (nx : ∀ h', MR h h' → RunM h' (runOf t r s0) → Q none h') :
    ∀ (f i : Nat) (s : PST) (h' : HP), i + f = rn r → wk t r s0 i = some s → gol t r f i s = gol t r (rn r) 0 s0 → MR h h' → hI h' 115 19 = nI i → hI h' 115 20 = nI (rn r) → (∀ j, j ≤ i → hI h' 126 j = nI ((wk t r s0 j).getD s0).1 ∧ hJ h' 127 j = jo ((wk t r s0 j).getD s0).2.1 ∧ hJ h' 128 j = jo ((wk t r s0 j).getD s0).2.2) → (∀ j, j < rn r → hI h' 129 j = io (rk r j)) →
      X 95 Q bc bs 82 [.ref 115, .int x1, .long x2, UU, .long x4, UU, .int (1 : Int32), UU] [] h' := by
  have h12 := rgd.1
  have h10 := tg.1
  intro f
  induction f with
  | zero =>
    intro i s h' hi hw hg mr e19 e20 hS hK
    have hs' := mr.str hs
    have rm' := mr.rm rm
    have hg' : i = gol t r (rn r) 0 s0 := hg
    refine b95_82 (fun c => absurd c (by decide)) (fun _ => b95_87 (hs'.k 115 (by decide) (by decide)) (fun _ => b95_265 (nx h' mr ⟨?_, ⟨rn r, e20, ?_, h12, ?_⟩, fun j hj => ?_, fun j hj => ?_⟩)) (fun c => absurd ?_ c))
    · rw [e19, hg']
      rfl
    · show gol t r (rn r) 0 s0 ≤ rn r
      omega
    · rfl
    · have hj' : j ≤ gol t r (rn r) 0 s0 := hj
      exact hS j (by omega)
    · have hj' : j < gol t r (rn r) 0 s0 := hj
      exact hK j (by omega)
    · rw [rm'.1, e19, nI_leI (by omega) (by omega)]
      omega
  | succ f ih =>
    intro i s h' hi hw hg mr e19 e20 hS hK
    have hs' := mr.str hs
    have rm' := mr.rm rm
    have tm' := mr.tm tm
    have k115 : kd h' 115 = 9 := hs'.k 115 (by decide) (by decide)
    have k123 : kd h' 123 = 10 := hs'.k 123 (by decide) (by decide)
    have z123 : zl h' 123 = 12 := hs'.z 123 (by decide) (by decide)
    have k124 : kd h' 124 = 10 := hs'.k 124 (by decide) (by decide)
    have z124 : zl h' 124 = 12 := hs'.z 124 (by decide) (by decide)
    have k126 : kd h' 126 = 10 := hs'.k 126 (by decide) (by decide)
    have z126 : zl h' 126 = 13 := hs'.z 126 (by decide) (by decide)
    have k127 : kd h' 127 = 11 := hs'.k 127 (by decide) (by decide)
    have z127 : zl h' 127 = 13 := hs'.z 127 (by decide) (by decide)
    have k128 : kd h' 128 = 11 := hs'.k 128 (by decide) (by decide)
    have z128 : zl h' 128 = 13 := hs'.z 128 (by decide) (by decide)
    have ci : (nI i).toNatClampNeg = i := nI_clamp (by omega)
    have c1 : (nI (i + 1)).toNatClampNeg = i + 1 := nI_clamp (by omega)
    have gi := rgd.2 i (by omega)
    have pg := gi.2.2.2 (by omega)
    have kb := PG_k pg
    have sgi := wk_good tg rgd sg i (by omega) s hw
    have sgj := SG_J tg sgi
    obtain ⟨a1, a2, a3⟩ := hS i (Nat.le_refl _)
    rw [hw] at a1 a2 a3
    have a1 : hI h' 126 i = nI s.1 := a1
    have a2 : hJ h' 127 i = jo s.2.1 := a2
    have a3 : hJ h' 128 i = jo s.2.2 := a3
    have stop : ∀ h2, MG h' h2 → nxt t r i s = none → Q none h2 := by
      intro h2 mg hn
      have hgi : gol t r (rn r) 0 s0 = i := by
        rw [← hg]
        unfold gol
        rw [hn]
      have f2 := mg.ff
      refine nx h2 (mr.trans' mg.mr) ⟨?_, ⟨rn r, ?_, ?_, h12, rfl⟩, fun j hj => ?_, fun j hj => ?_⟩
      · rw [f2.2.2.1 _ _ id, e19]
        show nI i = nI (gol t r (rn r) 0 s0)
        rw [hgi]
      · rw [f2.2.2.1 _ _ id, e20]
      · show gol t r (rn r) 0 s0 ≤ rn r
        omega
      · have hj' : j ≤ gol t r (rn r) 0 s0 := hj
        rw [f2.2.2.1 _ _ id, f2.2.2.2 127 _ (fun q => by omega), f2.2.2.2 128 _ (fun q => by omega)]
        exact hS j (by omega)
      · have hj' : j < gol t r (rn r) 0 s0 := hj
        rw [f2.2.2.1 _ _ id]
        exact hK j (by omega)
    have main : ∀ x7 : Int32, (∀ r', rawS t (rk r i) (ra r i) (rb r i) s = some r' → x7 = nI r'.1) → X 94 (fun v h1 => X 95 Q bc bs 169 [.ref 115, .int x1, .long x2, UU, .long x4, UU, .int (1 : Int32), .int x7] (v.toList ++ []) h1) 0 0 0 [.ref 115, .int (nI i), .int (nI s.1), .long (jo s.2.1), UU, .long (jo s.2.2), UU, UU, UU] [] h' := by
      intro x7 hx7
      have no : ∀ h2, MG h' h2 → nxt t r i s = none → X 95 Q bc bs 204 [.ref 115, .int x1, .long x2, UU, .long x4, UU, .int (1 : Int32), .int x7] [] h2 := fun h2 mg hn => b95_204 (fun c => absurd rfl c) (fun _ => b95_212 (b95_82 (fun _ => b95_265 (stop h2 mg hn)) (fun c => absurd rfl c)))
      refine sp_goes hs' tm' tg (by omega) (rm'.2 i (by omega)).1 (rm'.2 i (by omega)).2.1 (rm'.2 i (by omega)).2.2 pg sgi (fun h2 r' raw mg e9 e10 ju jw => b95_169 (fun c => absurd c (by decide)) (fun _ => ?_)) (fun h2 raw mg => b95_169 (fun _ => no h2 mg (stepS_none raw)) (fun c => absurd rfl c))
      have rg := raw_good tg pg sgi raw
      have hs2 := mg.1.str hs'
      have k2 : kd h2 115 = 9 := hs2.k 115 (by decide) (by decide)
      have j7 : JB 10000000 := by unfold JB; omega
      have x7e := hx7 r' raw
      refine b95_172 k2 (fun c => no h2 mg (stepS_bad raw (fun z => ?_))) (fun c => b95_183 k2 ?_)
      · rw [e10, lg_cmp_gt, show (10000000 : Int64) = jo 10000000 from rfl, jo_lt j7 jw] at c
        have := (okS_iff.mp z).1
        omega
      · rw [e10, lg_cmp_gt, show (10000000 : Int64) = jo 10000000 from rfl, jo_lt j7 jw] at c
        have rp := rg.2.1
        rw [e9, e10, x7e]
        refine sp_within hs2 (mg.mr.tm tm') tg rg.1 ju (by omega) (fun q => b95_197 (fun d => absurd d (by decide)) (fun _ => b95_200 (fun _ => ?_) (fun d => absurd d (by decide)))) (fun q => b95_197 (fun _ => x7e ▸ no h2 mg (stepS_bad raw (fun z => q ((okS_iff.mp z).2)))) (fun d => absurd rfl d))
        have hst : nxt t r i s = some r' := stepS_some raw (okS_iff.mpr ⟨by omega, q.1, q.2⟩)
        have hw2 : wk t r s0 (i + 1) = some r' := by
          show (wk t r s0 i).bind (nxt t r i) = some r'
          rw [hw]
          exact hst
        have f2 := mg.ff
        have e19' : hI h2 115 19 + (1 : Int32) = nI (i + 1) := by
          rw [f2.2.2.1 _ _ id, e19]
          exact nI_1 i
        refine b95_215 (r1 := 126) (r2 := 127) (r3 := 128) k2 (hs2.r 115 15 (by decide)) (hs2.k 126 (by decide) (by decide)) ?_ (hs2.r 115 16 (by decide)) (hs2.k 127 (by decide) (by decide)) ?_ (hs2.r 115 17 (by decide)) (hs2.k 128 (by decide) (by decide)) ?_ ?_
        · rw [e19', hI_sI, if_pos rfl, if_pos rfl, hs2.z 126 (c := 13) (by decide) (by decide)]
          exact vp_in_nI (by omega) (by omega)
        · rw [e19', hI_sI, if_neg (by decide), hI_sI, if_pos rfl, if_pos rfl, hs2.z 127 (c := 13) (by decide) (by decide)]
          exact vp_in_nI (by omega) (by omega)
        · rw [hI_sJ, e19', hI_sI, if_neg (by decide), hI_sI, if_pos rfl, if_pos rfl, hs2.z 128 (c := 13) (by decide) (by decide)]
          exact vp_in_nI (by omega) (by omega)
        · have E1 : ∀ v : Int32, hI (sI h2 115 19 v) 115 19 = v := fun v => by rw [hI_sI, if_pos rfl, if_pos rfl]
          have E2 : ∀ (v z : Int32) (j : Nat), hI (sI (sI h2 115 19 v) 126 j z) 115 19 = v := fun v z j => by rw [hI_sI, if_neg (by decide), E1]
          have E3 : ∀ (H : HP) (v : Int64) (j : Nat), hJ (sJ H 127 j v) 115 10 = hJ H 115 10 := fun H v j => by rw [hJ_sJ, if_neg (by decide)]
          rw [e19', E1, hI_sJ, E2, c1, E3, hJ_sI, hJ_sI, e9, e10]
          have f3 : MR h (sJ (sJ (sI (sI h2 115 19 (nI (i + 1))) 126 (i + 1) (nI r'.1)) 127 (i + 1) (jo r'.2.1)) 128 (i + 1) (jo r'.2.2)) := Ff.sJ' (Ff.sJ' (Ff.sI' (Ff.sI' (mr.trans' mg.mr) (Or.inl ⟨rfl, Or.inl rfl⟩)) (Or.inr (Or.inl rfl))) (Or.inr (Or.inl rfl))) (Or.inr (Or.inr rfl))
          refine ih (i + 1) r' _ (by omega) hw2 ?_ f3 ?_ ?_ (fun j hj => ⟨?_, ?_, ?_⟩) (fun j hj => ?_)
          · rw [← hg]
            conv => rhs; unfold gol
            rw [hst]
          · rw [hI_sJ, hI_sJ]
            exact E2 _ _ _
          · rw [hI_sJ, hI_sJ, hI_sI, if_neg (by decide), hI_sI, if_pos rfl, if_neg (by decide), f2.2.2.1 _ _ id, e20]
          · rw [hI_sJ, hI_sJ, hI_sI, if_pos rfl]
            split
            · rename_i e
              rw [e, hw2]
              rfl
            · rw [hI_sI, if_neg (by decide), f2.2.2.1 _ _ id]
              exact (hS j (by omega)).1
          · rw [hJ_sJ, if_neg (by decide), hJ_sJ, if_pos rfl]
            split
            · rename_i e
              rw [e, hw2]
              rfl
            · rw [hJ_sI, hJ_sI, f2.2.2.2 127 _ (fun q => by omega)]
              exact (hS j (by omega)).2.1
          · rw [hJ_sJ, if_pos rfl]
            split
            · rename_i e
              rw [e, hw2]
              rfl
            · rw [hJ_sJ, if_neg (by decide), hJ_sI, hJ_sI, f2.2.2.2 128 _ (fun q => by omega)]
              exact (hS j (by omega)).2.2
          · rw [hI_sJ, hI_sJ, hI_sI, if_neg (by decide), hI_sI, if_neg (by decide), f2.2.2.1 _ _ id]
            exact hK j hj
    refine b95_82 (fun c => absurd c (by decide)) (fun _ => b95_87 k115 (fun c => absurd c ?_) (fun _ => b95_98 (r1 := 123) k115 (hs'.r 115 12 (by decide)) k123 ?_ (fun c => ?_) (fun c => ?_)))
    · rw [rm'.1, e19, nI_leI (by omega) (by omega)]
      omega
    · rw [e19, z123]
      exact vp_in_nI (by omega) (by omega)
    · rw [e19, ci, (rm'.2 i (by omega)).1, show (2 : Int32) = io 2 from rfl, io_le (by unfold IB; omega) gi.1] at c
      refine b95_123 (r1 := 126) (r2 := 127) (r3 := 128) k115 (hs'.r 115 15 (by decide)) k126 (by rw [e19, z126]; exact vp_in_nI (by omega) (by omega)) (hs'.r 115 16 (by decide)) k127 (by rw [e19, z127]; exact vp_in_nI (by omega) (by omega)) (hs'.r 115 17 (by decide)) k128 (by rw [e19, z128]; exact vp_in_nI (by omega) (by omega)) ?_
      rw [e19, ci, a1, a2, a3]
      refine main _ (fun r' raw => ?_)
      have := raw_p raw
      rw [if_neg (by omega)] at this
      rw [show r'.1 = s.1 by omega]
    · rw [e19, ci, (rm'.2 i (by omega)).1, show (2 : Int32) = io 2 from rfl, io_le (by unfold IB; omega) gi.1] at c
      refine b95_111 (r1 := 124) (r2 := 126) (r3 := 127) (r4 := 128) k115 (hs'.r 115 13 (by decide)) k124 (by rw [e19, z124]; exact vp_in_nI (by omega) (by omega)) (hs'.r 115 15 (by decide)) k126 (by rw [e19, z126]; exact vp_in_nI (by omega) (by omega)) (hs'.r 115 16 (by decide)) k127 (by rw [e19, z127]; exact vp_in_nI (by omega) (by omega)) (hs'.r 115 17 (by decide)) k128 (by rw [e19, z128]; exact vp_in_nI (by omega) (by omega)) ?_
      rw [e19, ci, a1, a2, a3, (rm'.2 i (by omega)).2.1]
      refine main _ (fun r' raw => ?_)
      have := raw_p raw
      rw [if_pos (by omega)] at this
      rw [nI_io, this]
theorem rk_loop {t : TBT} {r : RGT} {x1 : Int32} {x2 x4 : Int64} (hs : Str h) (rm : RM h r) (h12 : rn r ≤ 12)
    (nx : ∀ h', Ff (fun b _ => b = 129) (fun _ _ => False) h h' → (∀ j, j < rn r → hI h' 129 j = io (rk r j)) → X 95 Q bc bs 82 [.ref 115, .int x1, .long x2, UU, .long x4, UU, .int (1 : Int32), UU] [] h') :
    ∀ (f i : Nat) (h' : HP), i + f = rn r → Ff (fun b _ => b = 129) (fun _ _ => False) h h' → (∀ j, j < i → hI h' 129 j = io (rk r j)) →
      X 95 Q bc bs 50 [.ref 115, .int x1, .long x2, UU, .long x4, UU, .int (nI i), UU] [] h' := by
  intro f
  induction f with
  | zero =>
    intro i h' hi mr hK
    have hs' := mr.str hs
    refine b95_50 (hs'.k 115 (by decide) (by decide)) (fun _ => b95_79 (nx h' mr (fun j hj => hK j (by omega)))) (fun c => absurd ?_ c)
    rw [mr.2.2.1 115 11 (by decide), rm.1, nI_leI (by omega) (by omega)]
    omega
  | succ f ih =>
    intro i h' hi mr hK
    have hs' := mr.str hs
    have ci : (nI i).toNatClampNeg = i := nI_clamp (by omega)
    refine b95_50 (hs'.k 115 (by decide) (by decide)) (fun c => absurd c ?_) (fun _ => b95_59 (r1 := 129) (r2 := 123) (hs'.k 115 (by decide) (by decide)) (hs'.r 115 18 (by decide)) (hs'.r 115 12 (by decide)) (hs'.k 123 (by decide) (by decide)) (by rw [hs'.z 123 (c := 12) (by decide) (by decide)]; exact vp_in_nI (by omega) (by omega)) (hs'.k 129 (by decide) (by decide)) (by rw [hs'.z 129 (c := 12) (by decide) (by decide)]; exact vp_in_nI (by omega) (by omega)) ?_)
    · rw [mr.2.2.1 115 11 (by decide), rm.1, nI_leI (by omega) (by omega)]
      omega
    · rw [ci, show nI i + (1 : Int32) = nI (i + 1) from nI_1 i, mr.2.2.1 123 _ (show ¬ 123 = 129 by decide), (rm.2 i (by omega)).1]
      refine ih (i + 1) _ (by omega) (Ff.sI' mr rfl) (fun j hj => ?_)
      rw [hI_sI, if_pos rfl]
      split
      · rename_i e
        rw [e]
      · exact hK j (by omega)
/-- runs(p, u, w): the run of the ring from the lowest form of u / w at p -/
theorem sp_runs {t : TBT} {r : RGT} {p : Nat} {u w : Int} (hs : Str h) (tm : TM h t) (tg : TG t) (rm : RM h r) (rgd : RGood r) (ju : JB u) (ju1 : -9223372036854775808 < u) (hw : 0 < w) (jw : JB w) (sg : SG t (p, rU u w, rL u w))
    (nx : ∀ h', MR h h' → RunM h' (runOf t r (p, rU u w, rL u w)) → Q none h') : X 95 Q bc bs 0 [.ref 115, .int (nI p), .long (jo u), UU, .long (jo w), UU, UU, UU] [] h := by
  have k115 : kd h 115 = 9 := hs.k 115 (by decide) (by decide)
  refine b95_0 k115 (sp_gets k115 ju ju1 hw jw ?_)
  have mg : MG h (gw h (rU u w) (rL u w)) := MG.gw' MG.rfl'
  have z0 : (0 : Int32).toNatClampNeg = 0 := by decide
  refine b95_7 (h := gw h (rU u w) (rL u w)) (r1 := 126) (r2 := 127) (r3 := 128) k115 (hs.r 115 15 (by decide)) (hs.k 126 (by decide) (by decide)) (by rw [(mg.1.str hs).z 126 (c := 13) (by decide) (by decide)]; exact vp_in_nI (n := 0) (by omega) (by omega)) (hs.r 115 16 (by decide)) (hs.k 127 (by decide) (by decide)) (by rw [(mg.1.str hs).z 127 (c := 13) (by decide) (by decide)]; exact vp_in_nI (n := 0) (by omega) (by omega)) (hs.r 115 17 (by decide)) (hs.k 128 (by decide) (by decide)) (by rw [(mg.1.str hs).z 128 (c := 13) (by decide) (by decide)]; exact vp_in_nI (n := 0) (by omega) (by omega)) ?_
  have E3 : ∀ (H : HP) (v : Int64) (j : Nat), hJ (sJ H 127 j v) 115 10 = hJ H 115 10 := fun H v j => by rw [hJ_sJ, if_neg (by decide)]
  have E4 : ∀ (H : HP) (v : Int32), hI (sI H 115 19 v) 115 11 = hI H 115 11 := fun H v => by rw [hI_sI, if_pos rfl, if_neg (by decide)]
  have E5 : ∀ (H : HP) (v : Int32) (j : Nat), hI (sI H 126 j v) 115 11 = hI H 115 11 := fun H v j => by rw [hI_sI, if_neg (by decide)]
  have e11 : hI (gw h (rU u w) (rL u w)) 115 11 = nI (rn r) := rm.1
  rw [z0, E3, hJ_sI, gw_9, gw_10, E4, hI_sJ, hI_sJ, E5, e11]
  have f3 : MR h (sI (sI (sJ (sJ (sI (gw h (rU u w) (rL u w)) 126 0 (nI p)) 127 0 (jo (rU u w))) 128 0 (jo (rL u w))) 115 19 0) 115 20 (nI (rn r))) := Ff.sI' (Ff.sI' (Ff.sJ' (Ff.sJ' (Ff.sI' mg.mr (Or.inr (Or.inl rfl))) (Or.inr (Or.inl rfl))) (Or.inr (Or.inr rfl))) (Or.inl ⟨rfl, Or.inl rfl⟩)) (Or.inl ⟨rfl, Or.inr rfl⟩)
  have a19 : hI (sI (sI (sJ (sJ (sI (gw h (rU u w) (rL u w)) 126 0 (nI p)) 127 0 (jo (rU u w))) 128 0 (jo (rL u w))) 115 19 0) 115 20 (nI (rn r))) 115 19 = nI 0 := by
    rw [hI_sI, if_pos rfl, if_neg (by decide), hI_sI, if_pos rfl, if_pos rfl]
    rfl
  have a20 : hI (sI (sI (sJ (sJ (sI (gw h (rU u w) (rL u w)) 126 0 (nI p)) 127 0 (jo (rU u w))) 128 0 (jo (rL u w))) 115 19 0) 115 20 (nI (rn r))) 115 20 = nI (rn r) := by
    rw [hI_sI, if_pos rfl, if_pos rfl]
  have a126 : hI (sI (sI (sJ (sJ (sI (gw h (rU u w) (rL u w)) 126 0 (nI p)) 127 0 (jo (rU u w))) 128 0 (jo (rL u w))) 115 19 0) 115 20 (nI (rn r))) 126 0 = nI p := by
    rw [hI_sI, if_neg (by decide), hI_sI, if_neg (by decide), hI_sJ, hI_sJ, hI_sI, if_pos rfl, if_pos rfl]
  have a127 : hJ (sI (sI (sJ (sJ (sI (gw h (rU u w) (rL u w)) 126 0 (nI p)) 127 0 (jo (rU u w))) 128 0 (jo (rL u w))) 115 19 0) 115 20 (nI (rn r))) 127 0 = jo (rU u w) := by
    rw [hJ_sI, hJ_sI, hJ_sJ, if_neg (by decide), hJ_sJ, if_pos rfl, if_pos rfl]
  have a128 : hJ (sI (sI (sJ (sJ (sI (gw h (rU u w) (rL u w)) 126 0 (nI p)) 127 0 (jo (rU u w))) 128 0 (jo (rL u w))) 115 19 0) 115 20 (nI (rn r))) 128 0 = jo (rL u w) := by
    rw [hJ_sI, hJ_sI, hJ_sJ, if_pos rfl, if_pos rfl]
  generalize sI (sI (sJ (sJ (sI (gw h (rU u w) (rL u w)) 126 0 (nI p)) 127 0 (jo (rU u w))) 128 0 (jo (rL u w))) 115 19 0) 115 20 (nI (rn r)) = h1 at f3 a19 a20 a126 a127 a128 ⊢
  refine rk_loop (t := t) (f3.str hs) (f3.rm rm) rgd.1 (fun h2 f4 hK => ?_) (rn r) 0 h1 (by omega) Ff.rfl' (fun j hj => absurd hj (by omega))
  have f5 : MR h h2 := f3.trans' (f4.weak (fun b i q => Or.inr (Or.inr q)) (fun _ _ q => absurd q id))
  refine rn_loop hs tm tg rm rgd sg nx (rn r) 0 _ h2 (by omega) rfl rfl f5 ?_ ?_ (fun j hj => ?_) hK
  · rw [f4.2.2.1 _ _ (by decide), a19]
  · rw [f4.2.2.1 _ _ (by decide), a20]
  · have e : j = 0 := by omega
    subst e
    rw [f4.2.2.1 _ _ (by decide), f4.2.2.2 _ _ id, f4.2.2.2 _ _ id]
    exact ⟨a126, a127, a128⟩
end MOD4
