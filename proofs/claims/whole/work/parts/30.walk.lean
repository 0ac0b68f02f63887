/-! Walk: State.copy, State.same, commonLower, comesRound. -/
def b2 (b : Bool) : Int32 := if b = true then 1 else 0
def WKs (h : HP) (w : Nat) : Prop := (kd h w = 7 ∧ hR h w 0 = some (w + 1) ∧ hR h w 1 = some (w + 2) ∧ hR h w 2 = some (w + 3) ∧ hR h w 3 = some (w + 4) ∧ hR h w 4 = some (w + 5) ∧ hR h w 5 = some (w + 6)) ∧ (kd h (w + 1) = 15 ∧ zl h (w + 1) = 13) ∧ (kd h (w + 2) = 10 ∧ zl h (w + 2) = 12) ∧ (kd h (w + 3) = 1 ∧ kd h (w + 4) = 1 ∧ kd h (w + 5) = 1 ∧ kd h (w + 6) = 1) ∧ ∀ i, i < 13 → hR h (w + 1) i = some (w + 7 + 2 * i) ∧ SK h (w + 7 + 2 * i)
theorem WKs_fr {SI SJ : Nat → Prop} {h h1 : HP} (f : Fr SI SJ h h1) {a : Nat} (c : WKs h a) : WKs h1 a := by
  unfold WKs SK at *
  simp only [f.kd', f.zl', f.hR']
  exact c
def RunS (h : HP) (w : Nat) (R : RUT) : Prop := hI h w 6 = nI (um R) ∧ hI h w 8 = b2 (us R) ∧ (∀ i, i ≤ um R → SA h (w + 7 + 2 * i) (uS R i)) ∧ ∀ i, i < um R → hI h (w + 2) i = io (uK R i)
theorem WKs_10 {h : HP} (hs : Str h) : WKs h 10 := by
  refine ⟨⟨hs.k 10 (by decide) (by decide), hs.r 10 0 (by decide), hs.r 10 1 (by decide), hs.r 10 2 (by decide), hs.r 10 3 (by decide), hs.r 10 4 (by decide), hs.r 10 5 (by decide)⟩, ⟨hs.k 11 (by decide) (by decide), hs.z 11 (by decide) (by decide)⟩, ⟨hs.k 12 (by decide) (by decide), hs.z 12 (by decide) (by decide)⟩, ⟨hs.k 13 (by decide) (by decide), hs.k 14 (by decide) (by decide), hs.k 15 (by decide) (by decide), hs.k 16 (by decide) (by decide)⟩, fun i hi => ?_⟩
  have e : ∀ i, i < 13 → (11, i, 17 + 2 * i) ∈ RT ∧ (17 + 2 * i, 0, 17 + 2 * i + 1) ∈ RT ∧ (K0.getD (17 + 2 * i) (99, 0)).1 = 4 ∧ (K0.getD (17 + 2 * i + 1) (99, 0)).1 = 1 := by decide +kernel
  obtain ⟨e1, e2, e3, e4⟩ := e i hi
  exact ⟨hs.r 11 i e1, hs.k _ e3 (by decide), hs.r _ 0 e2, hs.k _ e4 (by decide)⟩
theorem WKs_48 {h : HP} (hs : Str h) : WKs h 48 := by
  refine ⟨⟨hs.k 48 (by decide) (by decide), hs.r 48 0 (by decide), hs.r 48 1 (by decide), hs.r 48 2 (by decide), hs.r 48 3 (by decide), hs.r 48 4 (by decide), hs.r 48 5 (by decide)⟩, ⟨hs.k 49 (by decide) (by decide), hs.z 49 (by decide) (by decide)⟩, ⟨hs.k 50 (by decide) (by decide), hs.z 50 (by decide) (by decide)⟩, ⟨hs.k 51 (by decide) (by decide), hs.k 52 (by decide) (by decide), hs.k 53 (by decide) (by decide), hs.k 54 (by decide) (by decide)⟩, fun i hi => ?_⟩
  have e : ∀ i, i < 13 → (49, i, 55 + 2 * i) ∈ RT ∧ (55 + 2 * i, 0, 55 + 2 * i + 1) ∈ RT ∧ (K0.getD (55 + 2 * i) (99, 0)).1 = 4 ∧ (K0.getD (55 + 2 * i + 1) (99, 0)).1 = 1 := by decide +kernel
  obtain ⟨e1, e2, e3, e4⟩ := e i hi
  exact ⟨hs.r 49 i e1, hs.k _ e3 (by decide), hs.r _ 0 e2, hs.k _ e4 (by decide)⟩
theorem RK_of {h : HP} (hs : Str h) {b : Nat} (hb : b = 6 ∨ b = 44 ∨ b = 95 ∨ b = 102 ∨ b = 109) : RK h b := by
  rcases hb with rfl | rfl | rfl | rfl | rfl
  · exact ⟨⟨hs.k 6 (by decide) (by decide), hs.r 6 0 (by decide), hs.r 6 1 (by decide), hs.r 6 2 (by decide)⟩, ⟨hs.k 7 (by decide) (by decide), hs.z 7 (by decide) (by decide)⟩, ⟨hs.k 8 (by decide) (by decide), hs.z 8 (by decide) (by decide)⟩, hs.k 9 (by decide) (by decide), hs.z 9 (by decide) (by decide)⟩
  · exact ⟨⟨hs.k 44 (by decide) (by decide), hs.r 44 0 (by decide), hs.r 44 1 (by decide), hs.r 44 2 (by decide)⟩, ⟨hs.k 45 (by decide) (by decide), hs.z 45 (by decide) (by decide)⟩, ⟨hs.k 46 (by decide) (by decide), hs.z 46 (by decide) (by decide)⟩, hs.k 47 (by decide) (by decide), hs.z 47 (by decide) (by decide)⟩
  · exact ⟨⟨hs.k 95 (by decide) (by decide), hs.r 95 0 (by decide), hs.r 95 1 (by decide), hs.r 95 2 (by decide)⟩, ⟨hs.k 96 (by decide) (by decide), hs.z 96 (by decide) (by decide)⟩, ⟨hs.k 97 (by decide) (by decide), hs.z 97 (by decide) (by decide)⟩, hs.k 98 (by decide) (by decide), hs.z 98 (by decide) (by decide)⟩
  · exact ⟨⟨hs.k 102 (by decide) (by decide), hs.r 102 0 (by decide), hs.r 102 1 (by decide), hs.r 102 2 (by decide)⟩, ⟨hs.k 103 (by decide) (by decide), hs.z 103 (by decide) (by decide)⟩, ⟨hs.k 104 (by decide) (by decide), hs.z 104 (by decide) (by decide)⟩, hs.k 105 (by decide) (by decide), hs.z 105 (by decide) (by decide)⟩
  · exact ⟨⟨hs.k 109 (by decide) (by decide), hs.r 109 0 (by decide), hs.r 109 1 (by decide), hs.r 109 2 (by decide)⟩, ⟨hs.k 110 (by decide) (by decide), hs.z 110 (by decide) (by decide)⟩, ⟨hs.k 111 (by decide) (by decide), hs.z 111 (by decide) (by decide)⟩, hs.k 112 (by decide) (by decide), hs.z 112 (by decide) (by decide)⟩
section WALK
variable {Q : Option Value → HP → Prop} {bc bs : Nat} {h : HP}
theorem sp_scopy {a b : Nat} {s : PST} (ka : SK h a) (kb : SK h b) (sb : SA h b s) (nx : Q none (wR (sI h a 1 (nI s.1)) (a + 1) s.2.1 s.2.2)) : X 20 Q bc bs 0 [.ref a, .ref b] [] h := by
  refine b20_0 kb.1 ka.1 ka.2.1 kb.2.1 ka.2.2 ?_
  rw [sb.1]
  exact sp_copy ka.2.2 kb.2.2 sb.2 (b20_19 nx)
theorem sp_same {a b : Nat} {s s' : PST} (ka : SK h a) (kb : SK h b) (sa : SA h a s) (sb : SA h b s') (h1 : s.1 < 2 ^ 31) (h2 : s'.1 < 2 ^ 31) (j1 : JB s.2.1) (j2 : JB s.2.2) (j3 : JB s'.2.1) (j4 : JB s'.2.2) (y : s = s' → Q (some (.int (1 : Int32))) h) (n : ¬ s = s' → Q (some (.int (0 : Int32))) h) : X 21 Q bc bs 0 [.ref a, .ref b] [] h := by
  refine b21_0 ka.1 kb.1 (fun c => b21_51 (n ?_)) (fun c => b21_11 ka.1 ka.2.1 ka.2.2 kb.1 kb.2.1 kb.2.2 (fun d => b21_51 (n ?_)) (fun d => b21_29 ka.1 ka.2.1 ka.2.2 kb.1 kb.2.1 kb.2.2 (fun e => b21_51 (n ?_)) (fun e => b21_47 (y ?_))))
  · rintro rfl
    exact c (by rw [sa.1, sb.1])
  · rintro rfl
    exact d (by rw [lg_cmp_eq, sa.2.1, sb.2.1])
  · rintro rfl
    exact e (by rw [lg_cmp_eq, sa.2.2, sb.2.2])
  · rw [sa.1, sb.1, nI_eq h1 h2] at c
    rw [lg_cmp_eq, sa.2.1, sb.2.1, jo_eq j1 j3] at d
    rw [lg_cmp_eq, sa.2.2, sb.2.2, jo_eq j2 j4] at e
    exact Prod.ext c (Prod.ext d e)
theorem SG_J {t : TBT} (tg : TG t) {s : PST} (sg : SG t s) : JB s.2.1 ∧ JB s.2.2 ∧ s.1 < 2 ^ 31 := by
  have b := SG_b tg sg
  have := sg.2.1
  have := sg.2.2.1
  have := sg.1
  have := tg.1
  unfold JB
  omega
theorem sp_comes {t : TBT} {w : Nat} {R : RUT} (wk : WKs h w) (rs : RunS h w R) (tg : TG t) (rw_ : RW t R) (y : uRnd R → Q (some (.int (1 : Int32))) h) (n : ¬ uRnd R → Q (some (.int (0 : Int32))) h) : X 37 Q bc bs 0 [.ref w] [] h := by
  obtain ⟨k1, k2, k3, k4, k5⟩ := wk
  obtain ⟨r1, r2, r3, r4⟩ := rs
  have hm := rw_.1
  refine b37_0 k1.1 (fun c => b37_32 (n ?_)) (fun c => ?_)
  · rw [r2] at c
    intro q
    rw [q.1] at c
    exact c rfl
  · have hst : us R = false := by
      rw [r2] at c
      cases hu : us R with
      | false => rfl
      | true =>
        rw [hu] at c
        exact absurd c (by decide)
    refine b37_7 (r1 := w + 1) (r2 := w + 7 + 2 * 0) (r3 := w + 7 + 2 * um R) k1.1 k1.2.1 (by rw [k2.1]; decide) (by rw [k2.1]; decide) (by rw [k2.2]; exact vp_in_nI (n := 0) (by omega) (by omega)) (k5 0 (by omega)).1 (by rw [r1, k2.2]; exact vp_in_nI (by omega) (by omega)) (by rw [r1, nI_clamp (by omega)]; exact (k5 (um R) (by omega)).1) (k5 0 (by omega)).2.1 ?_
    have g0 := SG_J tg (rw_.2.1 0 (by omega))
    have g1 := SG_J tg (rw_.2.1 (um R) (by omega))
    refine sp_same (k5 0 (by omega)).2 (k5 (um R) (by omega)).2 (r3 0 (by omega)) (r3 (um R) (by omega)) g0.2.2 g1.2.2 g0.1 g0.2.1 g1.1 g1.2.1 (fun e => b37_25 (fun d => absurd d (by decide)) (fun _ => b37_28 (y ⟨hst, e⟩))) (fun e => b37_25 (fun _ => b37_32 (n (fun q => e q.2))) (fun d => absurd rfl d))
theorem cl_loop {w m : Nat} {S : Nat → PST} (wk : WKs h w) (hm : hI h w 6 = nI m) (m12 : m ≤ 12) (ss : ∀ i, i ≤ m → SA h (w + 7 + 2 * i) (S i)) (sg : ∀ i, i ≤ m → 0 < (S i).2.2 ∧ (S i).2.2 ≤ 10000000) (nx : Q (some (.long (lN (cmx S (m + 1))))) h) :
    ∀ (f i : Nat), i + f = m + 1 → X 39 Q bc bs 4 [.ref w, .long (lN (cmx S i)), UU, .int (nI i)] [] h := by
  obtain ⟨k1, k2, k3, k4, k5⟩ := wk
  intro f
  induction f with
  | zero =>
    intro i hi
    have e : i = m + 1 := by omega
    subst e
    refine b39_4 k1.1 (fun _ => b39_44 nx) (fun c => absurd ?_ c)
    rw [hm, nI_ltI (by omega) (by omega)]
    omega
  | succ f ih =>
    intro i hi
    have cl := cmx_le S i
    refine b39_4 k1.1 (fun c => absurd c ?_) (fun _ => b39_12 (fun c => b39_44 ?_) (fun c => ?_))
    · rw [hm, nI_ltI (by omega) (by omega)]
      omega
    · rw [lg_cmp_le, show (0 : Int64) = lN 0 from rfl, pk_lLE (by omega) (by omega)] at c
      have e : cmx S i = 0 := by omega
      have e2 := cmx_zero e (f + 1)
      rw [hi] at e2
      rw [e2] at nx
      rw [e]
      exact nx
    · rw [lg_cmp_le, show (0 : Int64) = lN 0 from rfl, pk_lLE (by omega) (by omega)] at c
      have sgi := sg i (by omega)
      refine b39_18 (r1 := w + 1) (r2 := w + 7 + 2 * i) (r3 := w + 7 + 2 * i + 1) k1.1 k1.2.1 (by rw [k2.1]; decide) (by rw [k2.1]; decide) (by rw [k2.2]; exact vp_in_nI (by omega) (by omega)) (by rw [nI_clamp (by omega)]; exact (k5 i (by omega)).1) (k5 i (by omega)).2.1 (k5 i (by omega)).2.2.1 (k5 i (by omega)).2.2.2 ?_
      rw [(ss i (by omega)).2.2, pos_lN (by omega), show (1000000000000 : Int64) = lN 1000000000000 from rfl]
      refine sp_common (by omega) (by omega) (by omega) (by omega) (by omega) (b39_37 ?_)
      rw [show nI i + (1 : Int32) = nI (i + 1) from nI_1 i]
      have e3 : (if Nat.lcm (cmx S i) (S i).2.2.natAbs ≤ 1000000000000 then Nat.lcm (cmx S i) (S i).2.2.natAbs else 0) = cmx S (i + 1) := by
        show _ = if cmx S i = 0 then 0 else _
        rw [if_neg (show ¬ cmx S i = 0 by omega)]
      rw [e3]
      exact ih (i + 1) (by omega)
end WALK
