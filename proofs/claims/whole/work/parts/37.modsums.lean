/-! The reference: isRound, sums, hasShare. -/
def MS (h h' : HP) : Prop := Ff (fun _ _ => False) (fun b i => b = 115 ∧ 22 ≤ i ∧ i ≤ 25) h h'
theorem RunM_ff {SI SJ : Nat → Nat → Prop} {h h1 : HP} (f : Ff SI SJ h h1) (h19 : ¬ SI 115 19) (h20 : ¬ SI 115 20) (h126 : ∀ i, ¬ SI 126 i) (h129 : ∀ i, ¬ SI 129 i) (h127 : ∀ i, ¬ SJ 127 i) (h128 : ∀ i, ¬ SJ 128 i) {R : RUT} (c : RunM h R) : RunM h1 R := by
  obtain ⟨c1, ⟨rp, c2, c3, c4, c5⟩, c6, c7⟩ := c
  refine ⟨by rw [f.2.2.1 _ _ h19]; exact c1, ⟨rp, by rw [f.2.2.1 _ _ h20]; exact c2, c3, c4, c5⟩, fun i hi => ?_, fun i hi => ?_⟩
  · rw [f.2.2.1 _ _ (h126 i), f.2.2.2 _ _ (h127 i), f.2.2.2 _ _ (h128 i)]
    exact c6 i hi
  · rw [f.2.2.1 _ _ (h129 i)]
    exact c7 i hi
theorem MS.run {h h1 : HP} (f : MS h h1) {R : RUT} (c : RunM h R) : RunM h1 R := RunM_ff f id id (fun _ => id) (fun _ => id) (fun _ q => by omega) (fun _ q => by omega) c
theorem lcm_eq' (a b : Nat) : a * (b / Nat.gcd a b) = Nat.lcm a b := by
  unfold Nat.lcm
  rw [Nat.mul_div_assoc _ (Nat.gcd_dvd_right a b)]
section MOD5
variable {Q : Option Value → HP → Prop} {bc bs : Nat} {h : HP}
theorem sp_isRound {t : TBT} {R : RUT} (hs : Str h) (rs : RunM h R) (tg : TG t) (rw_ : RW t R) (y : uRnd R → Q (some (.int (1 : Int32))) h) (n : ¬ uRnd R → Q (some (.int (0 : Int32))) h) : X 99 Q bc bs 0 [.ref 115] [] h := by
  obtain ⟨r1, ⟨rp, r2, r3, r4, r5⟩, r6, r7⟩ := rs
  have hm := rw_.1
  have k115 : kd h 115 = 9 := hs.k 115 (by decide) (by decide)
  have k126 : kd h 126 = 10 := hs.k 126 (by decide) (by decide)
  have z126 : zl h 126 = 13 := hs.z 126 (by decide) (by decide)
  have k127 : kd h 127 = 11 := hs.k 127 (by decide) (by decide)
  have z127 : zl h 127 = 13 := hs.z 127 (by decide) (by decide)
  have k128 : kd h 128 = 11 := hs.k 128 (by decide) (by decide)
  have z128 : zl h 128 = 13 := hs.z 128 (by decide) (by decide)
  have z0 : (0 : Int32).toNatClampNeg = 0 := by decide
  have zm : (nI (um R)).toNatClampNeg = um R := nI_clamp (by omega)
  have v0 : vp_in (0 : Int32) 13 := vp_in_nI (n := 0) (by omega) (by omega)
  have vm : vp_in (nI (um R)) 13 := vp_in_nI (by omega) (by omega)
  have g0 := SG_J tg (rw_.2.1 0 (by omega))
  have g1 := SG_J tg (rw_.2.1 (um R) (by omega))
  obtain ⟨a1, a2, a3⟩ := r6 0 (by omega)
  obtain ⟨b1, b2, b3⟩ := r6 (um R) (by omega)
  refine b99_0 k115 (fun c => b99_71 (n ?_)) (fun c => b99_11 (r1 := 126) k115 (hs.r 115 15 (by decide)) k126 (by rw [r1, z126]; exact vm) (by rw [z126]; exact v0) (fun d => b99_71 (n ?_)) (fun d => b99_29 (r1 := 127) k115 (hs.r 115 16 (by decide)) k127 (by rw [r1, z127]; exact vm) (by rw [z127]; exact v0) (fun e => b99_71 (n ?_)) (fun e => b99_48 (r1 := 128) k115 (hs.r 115 17 (by decide)) k128 (by rw [r1, z128]; exact vm) (by rw [z128]; exact v0) (fun g => b99_71 (n ?_)) (fun g => b99_67 (y ?_)))))
  · rw [r1, r2, nI_eq (by omega) (by omega)] at c
    intro q
    rw [q.1] at r5
    have := of_decide_eq_false r5.symm
    omega
  · rw [r1, zm, z0, b1, a1] at d
    intro q
    rw [q.2] at d
    exact d rfl
  · rw [r1, zm, z0, b2, a2, lg_cmp_eq] at e
    intro q
    rw [q.2] at e
    exact e rfl
  · rw [r1, zm, z0, b3, a3, lg_cmp_eq] at g
    intro q
    rw [q.2] at g
    exact g rfl
  · rw [r1, r2, nI_eq (by omega) (by omega)] at c
    rw [r1, zm, z0, b1, a1, nI_eq g1.2.2 g0.2.2] at d
    rw [r1, zm, z0, b2, a2, lg_cmp_eq, jo_eq g1.1 g0.1] at e
    rw [r1, zm, z0, b3, a3, lg_cmp_eq, jo_eq g1.2.1 g0.2.1] at g
    refine ⟨?_, Prod.ext d.symm (Prod.ext e.symm g.symm)⟩
    rw [r5]
    exact decide_eq_false (by omega)
theorem sm_loop {t : TBT} {R : RUT} (hs : Str h) (rs : RunM h R) (tg : TG t) (rw_ : RW t R) (hst : us R = false)
    (nx : ∀ h', MS h h' → 0 < uL R → hJ h' 115 22 = jo (uL R) → ∀ x, X 101 Q bc bs 80 [.ref 115, .int x, UU, UU] [] h')
    (n : ∀ h', MS h h' → ¬ 0 < uL R → Q (some (.int (0 : Int32))) h') :
    ∀ (f i : Nat) (h' : HP), i + f = um R + 1 → MS h h' → 0 < cmx (uS R) i → hJ h' 115 22 = lN (cmx (uS R) i) → X 101 Q bc bs 20 [.ref 115, .int (nI i), UU, UU] [] h' := by
  have hm := rw_.1
  have eL : uL R = cmx (uS R) (um R + 1) := by
    unfold uL
    rw [hst]
    rfl
  intro f
  induction f with
  | zero =>
    intro i h' hi ms hc e22
    have e : i = um R + 1 := by omega
    subst e
    have rs' := ms.run rs
    have hs' := ms.str hs
    refine b101_20 (hs'.k 115 (by decide) (by decide)) (fun _ => nx h' ms (by rw [eL]; exact hc) (by rw [e22, eL, lN_jo]) _) (fun c => absurd ?_ c)
    rw [rs'.1, nI_ltI (by omega) (by omega)]
    omega
  | succ f ih =>
    intro i h' hi ms hc e22
    have rs' := ms.run rs
    have hs' := ms.str hs
    have k115 : kd h' 115 = 9 := hs'.k 115 (by decide) (by decide)
    have cl := cmx_le (uS R) i
    have g := rw_.2.1 i (by omega)
    have w0 := g.2.1
    have w1 := g.2.2.1
    have a3 := (rs'.2.2.1 i (by omega)).2.2
    have ci : (nI i).toNatClampNeg = i := nI_clamp (by omega)
    refine b101_20 k115 (fun c => absurd c ?_) (fun _ => b101_28 (r1 := 128) k115 (hs'.r 115 17 (by decide)) (hs'.k 128 (by decide) (by decide)) (by rw [hs'.z 128 (c := 13) (by decide) (by decide)]; exact vp_in_nI (by omega) (by omega)) ?_)
    · rw [rs'.1, nI_ltI (by omega) (by omega)]
      omega
    rw [ci, a3, e22, lN_jo]
    have eg : Int.gcd ((cmx (uS R) i : Nat) : Int) (uS R i).2.2 = Nat.gcd (cmx (uS R) i) (uS R i).2.2.natAbs := rfl
    have gp : 0 < Nat.gcd (cmx (uS R) i) (uS R i).2.2.natAbs := Nat.gcd_pos_of_pos_left _ hc
    have gl : Nat.gcd (cmx (uS R) i) (uS R i).2.2.natAbs ≤ cmx (uS R) i := Nat.gcd_le_left _ hc
    have q1 : (uS R i).2.2.natAbs / Nat.gcd (cmx (uS R) i) (uS R i).2.2.natAbs ≤ (uS R i).2.2.natAbs := Nat.div_le_self _ _
    have q2 : 1000000000000 / cmx (uS R) i ≤ 1000000000000 := Nat.div_le_self _ _
    have ec : cmx (uS R) (i + 1) = if Nat.lcm (cmx (uS R) i) (uS R i).2.2.natAbs ≤ 1000000000000 then Nat.lcm (cmx (uS R) i) (uS R i).2.2.natAbs else 0 := by
      show (if cmx (uS R) i = 0 then 0 else _) = _
      rw [if_neg (show ¬ cmx (uS R) i = 0 by omega)]
    refine sp_gcd (by unfold JB; omega) (by omega) (by unfold JB; omega) (by omega) ?_
    rw [eg]
    have n0 : ∀ {x : Nat}, 0 < x → x < 2 ^ 63 → ¬ lN x = 0 := by
      intro x h1 h2
      rw [show (0 : Int64) = lN 0 from rfl, pk_lEQ h2 (by omega)]
      omega
    have hiff : (uS R i).2.2.natAbs / Nat.gcd (cmx (uS R) i) (uS R i).2.2.natAbs ≤ 1000000000000 / cmx (uS R) i ↔ Nat.lcm (cmx (uS R) i) (uS R i).2.2.natAbs ≤ 1000000000000 := by
      rw [Nat.le_div_iff_mul_le hc, Nat.mul_comm, lcm_eq']
    have cmp : lg_cmp (jo (uS R i).2.2 / lN (Nat.gcd (cmx (uS R) i) (uS R i).2.2.natAbs)) ((1000000000000 : Int64) / hJ h' 115 22) ≤ 0 ↔ Nat.lcm (cmx (uS R) i) (uS R i).2.2.natAbs ≤ 1000000000000 := by
      rw [e22, pos_lN (by omega), pk_lDiv (by omega) gp (by omega), show (1000000000000 : Int64) = lN 1000000000000 from rfl, pk_lDiv (by omega) hc (by omega), lg_cmp_le, pk_lLE (by omega) (by omega), hiff]
    refine b101_47 (n0 gp (by omega)) k115 (by rw [e22]; exact n0 hc (by omega)) (fun c => b101_64 k115 ?_) (fun c => b101_62 (n h' ms ?_))
    · rw [cmp] at c
      rw [if_pos c] at ec
      rw [e22, pos_lN (by omega), pk_lDiv (by omega) gp (by omega), lN_mul, lcm_eq', ← ec, show nI i + (1 : Int32) = nI (i + 1) from nI_1 i]
      refine ih (i + 1) _ (by omega) (Ff.sJ' ms ⟨rfl, by decide, by decide⟩) ?_ ?_
      · rw [ec]
        exact Nat.lcm_pos hc (by omega)
      · rw [hJ_sJ, if_pos rfl, if_pos rfl]
    · rw [cmp] at c
      rw [if_neg c] at ec
      rw [eL, ← hi]
      have := cmx_zero ec f
      rw [show i + (f + 1) = i + 1 + f by omega, this]
      omega
set_option maxHeartbeats 1000000 in
theorem ss_loop {t : TBT} {R : RUT} (hs : Str h) (rs : RunM h R) (tg : TG t) (rw_ : RW t R) (hl : 0 < uL R)
    (nx : ∀ h', MS h h' → hJ h' 115 22 = jo (uL R) → hJ h' 115 23 = jo (uWo R) → hJ h' 115 24 = jo (uWa R) → hJ h' 115 25 = jo (uCo R) → Q (some (.int (1 : Int32))) h') :
    ∀ (f i : Nat) (h' : HP), i + f = um R → MS h h' → hJ h' 115 22 = jo (uL R) → hJ h' 115 23 = jo (woU (uK R) (uS R) (uL R) i) → hJ h' 115 24 = jo (waU (uK R) (uS R) (uL R) i) → hJ h' 115 25 = jo (coU (uK R) (uS R) (uL R) i) → X 101 Q bc bs 97 [.ref 115, .int (nI i), UU, UU] [] h' := by
  have hm := rw_.1
  obtain ⟨bm, bo, bl⟩ := u_bounds tg rw_
  have j0 : JB 0 := by unfold JB; omega
  have jl : JB (uL R : Int) := by unfold JB; omega
  intro f
  induction f with
  | zero =>
    intro i h' hi ms e22 e23 e24 e25
    have e : i = um R := by omega
    subst e
    have rs' := ms.run rs
    have hs' := ms.str hs
    refine b101_97 (hs'.k 115 (by decide) (by decide)) (fun _ => b101_214 (nx h' ms e22 e23 e24 e25)) (fun c => absurd ?_ c)
    rw [rs'.1, nI_leI (by omega) (by omega)]
    exact Nat.le_refl _
  | succ f ih =>
    intro i h' hi ms e22 e23 e24 e25
    have rs' := ms.run rs
    have hs' := ms.str hs
    have k115 : kd h' 115 = 9 := hs'.k 115 (by decide) (by decide)
    have k127 : kd h' 127 = 11 := hs'.k 127 (by decide) (by decide)
    have z127 : zl h' 127 = 13 := hs'.z 127 (by decide) (by decide)
    have k128 : kd h' 128 = 11 := hs'.k 128 (by decide) (by decide)
    have z128 : zl h' 128 = 13 := hs'.z 128 (by decide) (by decide)
    have k129 : kd h' 129 = 10 := hs'.k 129 (by decide) (by decide)
    have z129 : zl h' 129 = 12 := hs'.z 129 (by decide) (by decide)
    have g0 := rw_.2.1 i (by omega)
    have g1 := rw_.2.1 (i + 1) (by omega)
    have p0 := g0.2.1
    have p1 := g1.2.1
    have q0 := SG_J tg g0
    have q1 := SG_J tg g1
    have kb := (rw_.2.2 i (by omega)).1
    have kt := (rw_.2.2 i (by omega)).2
    have e1 : nI i + (1 : Int32) = nI (i + 1) := nI_1 i
    have c0 : (nI i).toNatClampNeg = i := nI_clamp (by omega)
    have c1 : (nI i + (1 : Int32)).toNatClampNeg = i + 1 := by rw [e1]; exact nI_clamp (by omega)
    obtain ⟨-, a2, a3⟩ := rs'.2.2.1 i (by omega)
    obtain ⟨-, d2, d3⟩ := rs'.2.2.1 (i + 1) (by omega)
    have r7 := rs'.2.2.2 i (by omega)
    have n0 : ∀ {x : Int}, 0 < x → JB x → ¬ jo x = 0 := by
      intro x h1 h2
      rw [show (0 : Int64) = jo 0 from rfl, jo_eq h2 j0]
      omega
    have dv : ∀ {x : Int}, 0 < x → JB x → jo (uL R : Int) / jo x = jo ((uL R : Int) / x) := by
      intro x h1 h2
      have hd : JB ((uL R : Int).tdiv x) := by
        rw [Int.tdiv_eq_ediv_of_nonneg (by omega)]
        have x1 : 0 ≤ (uL R : Int) / x := Int.ediv_nonneg (by omega) (by omega)
        have x2 : (uL R : Int) / x ≤ uL R := Int.ediv_le_self x (by omega)
        unfold JB
        omega
      rw [jo_div jl h2 hd, Int.tdiv_eq_ediv_of_nonneg (by omega)]
    have em : hJ h' 127 (nI i + (1 : Int32)).toNatClampNeg * (hJ h' 115 22 / hJ h' 128 (nI i + (1 : Int32)).toNatClampNeg) - hJ h' 127 (nI i).toNatClampNeg * (hJ h' 115 22 / hJ h' 128 (nI i).toNatClampNeg) = jo (mor (uS R) (uL R) i) := by
      rw [c1, c0, e22, a2, a3, d2, d3, dv p0 q0.2.1, dv p1 q1.2.1, jo_mul, jo_mul, jo_sub]
      rfl
    have jm : JB (mor (uS R) (uL R) i) := (JBn (by have := bm i (by omega); omega)).1
    have ek0 : hI h' 129 (nI i).toNatClampNeg = 0 ↔ uK R i = 0 := by
      rw [c0, r7, show (0 : Int32) = io 0 from rfl, io_eq (by unfold IB; omega) (by unfold IB; omega)]
    have ek2 : (2 : Int32) ≤ hI h' 129 (nI i).toNatClampNeg ↔ 2 ≤ uK R i := by
      rw [c0, r7, show (2 : Int32) = io 2 from rfl, io_le (by unfold IB; omega) (by unfold IB; omega)]
    have vi : vp_in (nI i) 12 := vp_in_nI (by omega) (by omega)
    have vj : vp_in (nI i) 13 := vp_in_nI (by omega) (by omega)
    have vj1 : vp_in (nI i + (1 : Int32)) 13 := by rw [e1]; exact vp_in_nI (by omega) (by omega)
    refine b101_97 k115 (fun c => absurd c ?_) (fun _ => b101_105 (r1 := 127) (r2 := 128) (r3 := 129) k115 (hs'.r 115 16 (by decide)) k127 (by rw [z127]; exact vj1) (hs'.r 115 17 (by decide)) k128 (by rw [z128]; exact vj1) (by rw [c1, d3]; exact n0 p1 q1.2.1) (by rw [z127]; exact vj) (by rw [z128]; exact vj) (by rw [c0, a3]; exact n0 p0 q0.2.1) (hs'.r 115 18 (by decide)) k129 (by rw [z129]; exact vi) (fun c => ?_) (fun c => ?_))
    · rw [rs'.1, nI_leI (by omega) (by omega)]
      omega
    · rw [ek0] at c
      rw [em]
      refine b101_166 (r1 := 129) k115 (hs'.r 115 18 (by decide)) k129 (by rw [z129]; exact vi) (fun d => ?_) (fun d => b101_176 ?_)
      · refine b101_179 (fun e => b101_198 k115 ?_) (fun e => b101_185 k115 ?_)
        · rw [lg_cmp_le, show (0 : Int64) = jo 0 from rfl, jo_le jm j0] at e
          rw [e25, jo_sub, e1]
          refine ih (i + 1) _ (by omega) (Ff.sJ' ms ⟨rfl, by decide, by decide⟩) ?_ ?_ ?_ ?_
          · rw [hJ_sJ, if_pos rfl, if_neg (by decide)]
            exact e22
          · rw [hJ_sJ, if_pos rfl, if_neg (by decide), e23]
            simp only [woU, if_neg c, Int.add_zero]
          · rw [hJ_sJ, if_pos rfl, if_neg (by decide), e24]
            simp only [waU, if_neg c, if_neg (show ¬ 0 < mor (uS R) (uL R) i by omega), Int.add_zero]
          · rw [hJ_sJ, if_pos rfl, if_pos rfl]
            simp only [coU, if_neg c, if_neg (show ¬ 0 < mor (uS R) (uL R) i by omega), ← Int.sub_eq_add_neg]
        · rw [lg_cmp_le, show (0 : Int64) = jo 0 from rfl, jo_le jm j0] at e
          rw [e24, jo_add, e1]
          refine ih (i + 1) _ (by omega) (Ff.sJ' ms ⟨rfl, by decide, by decide⟩) ?_ ?_ ?_ ?_
          · rw [hJ_sJ, if_pos rfl, if_neg (by decide)]
            exact e22
          · rw [hJ_sJ, if_pos rfl, if_neg (by decide), e23]
            simp only [woU, if_neg c, Int.add_zero]
          · rw [hJ_sJ, if_pos rfl, if_pos rfl]
            simp only [waU, if_neg c, if_pos (show 0 < mor (uS R) (uL R) i by omega)]
          · rw [hJ_sJ, if_pos rfl, if_neg (by decide), e25]
            simp only [coU, if_neg c, if_pos (show 0 < mor (uS R) (uL R) i by omega), Int.add_zero]
      · rw [ek2] at d
        have k1 : uK R i = 1 := by omega
        have m0 : mor (uS R) (uL R) i = 0 := by
          unfold mor
          rw [kt k1]
          omega
        rw [e1]
        refine ih (i + 1) h' (by omega) ms e22 ?_ ?_ ?_
        · rw [e23]
          simp only [woU, if_neg c, Int.add_zero]
        · rw [e24]
          simp only [waU, if_neg c, if_neg (show ¬ 0 < mor (uS R) (uL R) i by omega), Int.add_zero]
        · rw [e25]
          simp only [coU, if_neg c, m0, Int.neg_zero, ite_self, Int.add_zero]
    · rw [ek0] at c
      rw [em]
      refine b101_156 (r1 := 129) k115 (hs'.r 115 18 (by decide)) k129 (by rw [z129]; exact vi) (fun d => absurd d ?_) (fun d => b101_176 ?_)
      · rw [hI_sJ, ek2]
        omega
      · rw [e23, jo_add, e1]
        refine ih (i + 1) _ (by omega) (Ff.sJ' ms ⟨rfl, by decide, by decide⟩) ?_ ?_ ?_ ?_
        · rw [hJ_sJ, if_pos rfl, if_neg (by decide)]
          exact e22
        · rw [hJ_sJ, if_pos rfl, if_pos rfl]
          simp only [woU, if_pos c]
        · rw [hJ_sJ, if_pos rfl, if_neg (by decide), e24]
          simp only [waU, if_pos c, Int.add_zero]
        · rw [hJ_sJ, if_pos rfl, if_neg (by decide), e25]
          simp only [coU, if_pos c, Int.add_zero]
theorem sp_sums {t : TBT} {R : RUT} (hs : Str h) (rs : RunM h R) (tg : TG t) (rw_ : RW t R)
    (y : ∀ h', MS h h' → 0 < uL R → hJ h' 115 22 = jo (uL R) → hJ h' 115 23 = jo (uWo R) → hJ h' 115 24 = jo (uWa R) → hJ h' 115 25 = jo (uCo R) → Q (some (.int (1 : Int32))) h')
    (n : ∀ h', MS h h' → ¬ 0 < uL R → Q (some (.int (0 : Int32))) h') : X 101 Q bc bs 0 [.ref 115, UU, UU, UU] [] h := by
  have hm := rw_.1
  have k115 : kd h 115 = 9 := hs.k 115 (by decide) (by decide)
  obtain ⟨rp, r2, r3, r4, r5⟩ := rs.2.1
  refine b101_0 k115 (fun c => b101_13 k115 ?_) (fun c => b101_11 (n h Ff.rfl' ?_))
  · rw [r2, rs.1, nI_leI (by omega) (by omega)] at c
    have hst : us R = false := by rw [r5]; exact decide_eq_false (by omega)
    refine sm_loop hs rs tg rw_ hst (fun h2 ms hl e22 x => ?_) n (um R + 1) 0 _ (by omega) (Ff.sJ' Ff.rfl' ⟨rfl, by decide, by decide⟩) (show 0 < 1 by decide) ?_
    · have k2 : kd h2 115 = 9 := (ms.str hs).k 115 (by decide) (by decide)
      refine b101_80 k2 (ss_loop hs rs tg rw_ hl (fun h3 m3 a b c d => y h3 m3 hl a b c d) (um R) 0 _ (by omega) (Ff.sJ' (Ff.sJ' (Ff.sJ' ms ⟨rfl, by decide, by decide⟩) ⟨rfl, by decide, by decide⟩) ⟨rfl, by decide, by decide⟩) ?_ ?_ ?_ ?_)
      · rw [hJ_sJ, if_pos rfl, if_neg (by decide), hJ_sJ, if_pos rfl, if_neg (by decide), hJ_sJ, if_pos rfl, if_neg (by decide)]
        exact e22
      · rw [hJ_sJ, if_pos rfl, if_neg (by decide), hJ_sJ, if_pos rfl, if_neg (by decide), hJ_sJ, if_pos rfl, if_pos rfl]
        rfl
      · rw [hJ_sJ, if_pos rfl, if_neg (by decide), hJ_sJ, if_pos rfl, if_pos rfl]
        rfl
      · rw [hJ_sJ, if_pos rfl, if_pos rfl]
        rfl
    · rw [hJ_sJ, if_pos rfl, if_pos rfl]
      rfl
  · rw [r2, rs.1, nI_leI (by omega) (by omega)] at c
    have hst : us R = true := by rw [r5]; exact decide_eq_true (by omega)
    unfold uL
    rw [hst]
    simp
theorem sp_hasShare {t : TBT} {R : RUT} (hs : Str h) (rs : RunM h R) (tg : TG t) (rw_ : RW t R)
    (y : ∀ h', MS h h' → uSh R → hJ h' 115 22 = jo (uL R) → hJ h' 115 23 = jo (uWo R) → hJ h' 115 24 = jo (uWa R) → hJ h' 115 25 = jo (uCo R) → Q (some (.int (1 : Int32))) h')
    (n : ∀ h', MS h h' → ¬ uSh R → Q (some (.int (0 : Int32))) h') : X 102 Q bc bs 0 [.ref 115] [] h := by
  have k115 : kd h 115 = 9 := hs.k 115 (by decide) (by decide)
  obtain ⟨bm, bo, bl⟩ := u_bounds tg rw_
  have j0 : JB 0 := by unfold JB; omega
  have jw : JB (uWo R) := (JBn (by omega)).1
  refine b102_0 k115 (sp_sums hs rs tg rw_ (fun h2 ms hl e22 e23 e24 e25 => b102_4 (fun c => absurd c (by decide)) (fun _ => ?_)) (fun h2 ms hl => b102_4 (fun _ => b102_27 (n h2 ms (fun q => hl q.1))) (fun c => absurd rfl c)))
  have hs2 := ms.str hs
  have k2 : kd h2 115 = 9 := hs2.k 115 (by decide) (by decide)
  refine b102_7 k2 (sp_isRound hs2 (ms.run rs) tg rw_ (fun q => b102_11 (fun c => absurd c (by decide)) (fun _ => b102_14 k2 (fun c => b102_27 (n h2 ms (fun z => ?_))) (fun c => b102_23 (y h2 ms ⟨hl, q, ?_⟩ e22 e23 e24 e25)))) (fun q => b102_11 (fun _ => b102_27 (n h2 ms (fun z => q z.2.1))) (fun c => absurd rfl c)))
  · rw [e23, lg_cmp_le, show (0 : Int64) = jo 0 from rfl, jo_le jw j0] at c
    have := z.2.2
    omega
  · rw [e23, lg_cmp_le, show (0 : Int64) = jo 0 from rfl, jo_le jw j0] at c
    omega
end MOD5
