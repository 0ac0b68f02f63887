/-! Ratio.above, isMore: which of two fractions is greater. -/
def vl (tn : Bool) (a b c d : Nat) : Prop := if tn = true then a * d < c * b else c * b < a * d
theorem cmp_div {a b c d : Nat} (hb : 0 < b) (hd : 0 < d) (h : c / d < a / b) : c * b < a * d := by
  have h1 : c < a / b * d := (Nat.div_lt_iff_lt_mul hd).mp h
  have h2 : a / b * b ≤ a := Nat.div_mul_le_self a b
  calc c * b < a / b * d * b := Nat.mul_lt_mul_of_pos_right h1 hb
    _ = a / b * b * d := by rw [Nat.mul_right_comm]
    _ ≤ a * d := Nat.mul_le_mul_right d h2
theorem cmp_mod {a b c d : Nat} (h : a / b = c / d) : (c * b < a * d ↔ c % d * b < a % b * d) ∧ (a * d < c * b ↔ a % b * d < c % d * b) := by
  have e1 := Nat.div_add_mod a b
  have e2 := Nat.div_add_mod c d
  have f1 : a * d = b * (a / b) * d + a % b * d := by
    conv => lhs; rw [← e1, Nat.add_mul]
  have f2 : c * b = b * (a / b) * d + c % d * b := by
    conv => lhs; rw [← e2, Nat.add_mul, ← h]
    rw [Nat.mul_comm d, Nat.mul_comm b]
    rw [Nat.mul_right_comm]
  rw [f1, f2]
  omega
theorem vl_div {tn : Bool} {a b c d : Nat} (hb : 0 < b) (hd : 0 < d) (h : a / b ≠ c / d) : vl tn a b c d ↔ (if tn = true then a / b < c / d else c / d < a / b) := by
  unfold vl
  rcases Nat.lt_or_ge (a / b) (c / d) with q | q
  · have := cmp_div hd hb q
    cases tn <;> simp <;> omega
  · have := cmp_div hb hd (show c / d < a / b by omega)
    cases tn <;> simp <;> omega
theorem vl_mod {tn : Bool} {a b c d : Nat} (h : a / b = c / d) : vl tn a b c d ↔ vl (!tn) b (a % b) d (c % d) := by
  have e := cmp_mod h
  unfold vl
  cases tn
  · simp only [Bool.false_eq_true, if_false, Bool.not_false, if_true]
    rw [e.1, Nat.mul_comm b, Nat.mul_comm d]
  · simp only [if_true, Bool.not_true, Bool.false_eq_true, if_false]
    rw [e.2, Nat.mul_comm b, Nat.mul_comm d]
section ABV
variable {Q : Option Value → HP → Prop} {bc bs : Nat} {h : HP}
theorem bq_0 (tn : Bool) : b2 tn = 0 ↔ tn = false := by cases tn <;> decide
theorem bq_1 (tn : Bool) : b2 tn = 1 ↔ tn = true := by cases tn <;> decide
theorem ab_end {x0 x1 a b c d i : Nat} {tn : Bool} (hb : b < 2 ^ 63) (hd : d < 2 ^ 63) (h0 : b = 0 ∨ d = 0) (ha : 0 < a ∨ 0 < b) (hc : 0 < c ∨ 0 < d) (y : vl tn a b c d → Q (some (.int (1 : Int32))) h) (n : ¬ vl tn a b c d → Q (some (.int (0 : Int32))) h) : X 7 Q bc bs 142 [.ref x0, .ref x1, .long (lN a), UU, .long (lN b), UU, .long (lN c), UU, .long (lN d), UU, .int (b2 tn), .int (nI i), UU, UU, UU, UU, UU, UU, UU, UU] [] h := by
  refine b7_142 (fun e => b7_171 (n ?_)) (fun e => b7_150 (fun g => b7_163 (fun k => b7_171 (n ?_)) (fun k => b7_167 (y ?_))) (fun g => b7_159 (fun k => b7_171 (n ?_)) (fun k => b7_167 (y ?_))))
  · rw [lg_cmp_eq, pk_lEQ hb hd] at e
    have e1 : b = 0 := by omega
    have e2 : d = 0 := by omega
    subst e1; subst e2
    unfold vl
    cases tn <;> simp
  · rw [lg_cmp_eq, pk_lEQ hb hd] at e
    rw [lg_cmp_eq, show (0 : Int64) = lN 0 from rfl, pk_lEQ hb (by omega)] at g
    rw [bq_0] at k
    have e2 : d = 0 := by omega
    subst e2; subst k
    simp [vl]
  · rw [lg_cmp_eq, pk_lEQ hb hd] at e
    rw [lg_cmp_eq, show (0 : Int64) = lN 0 from rfl, pk_lEQ hb (by omega)] at g
    rw [bq_0] at k
    have k' : tn = true := by cases tn <;> simp_all
    have e2 : d = 0 := by omega
    subst e2; subst k'
    simp only [vl, if_true, Nat.mul_zero]
    exact Nat.mul_pos (by omega) (by omega)
  · rw [lg_cmp_eq, pk_lEQ hb hd] at e
    rw [lg_cmp_eq, show (0 : Int64) = lN 0 from rfl, pk_lEQ hb (by omega)] at g
    rw [bq_1] at k
    subst g; subst k
    simp [vl]
  · rw [lg_cmp_eq, pk_lEQ hb hd] at e
    rw [lg_cmp_eq, show (0 : Int64) = lN 0 from rfl, pk_lEQ hb (by omega)] at g
    rw [bq_1] at k
    have k' : tn = false := by cases tn <;> simp_all
    subst g; subst k'
    simp only [vl, Bool.false_eq_true, if_false, Nat.mul_zero]
    exact Nat.mul_pos (by omega) (by omega)
theorem ab_step {x0 x1 a b c d i : Nat} {tn : Bool} (ha : a < 2 ^ 63) (hb : b < 2 ^ 63) (hc : c < 2 ^ 63) (hd : d < 2 ^ 63) (hi : i < 200) (pa : 0 < a ∨ 0 < b) (pc : 0 < c ∨ 0 < d)
    (y : vl tn a b c d → Q (some (.int (1 : Int32))) h) (n : ¬ vl tn a b c d → Q (some (.int (0 : Int32))) h)
    (nx : 0 < b → 0 < d → a / b = c / d → X 7 Q bc bs 29 [.ref x0, .ref x1, .long (lN b), UU, .long (lN (a % b)), UU, .long (lN d), UU, .long (lN (c % d)), UU, .int (b2 (!tn)), .int (nI (i + 1)), UU, UU, UU, UU, UU, UU, UU, UU] [] h) :
    X 7 Q bc bs 29 [.ref x0, .ref x1, .long (lN a), UU, .long (lN b), UU, .long (lN c), UU, .long (lN d), UU, .int (b2 tn), .int (nI i), UU, UU, UU, UU, UU, UU, UU, UU] [] h := by
  refine b7_29 (fun e => absurd e ?_) (fun _ => b7_37 (fun e => ab_end hb hd ?_ pa pc y n) (fun e => b7_44 (fun g => ab_end hb hd ?_ pa pc y n) (fun g => ?_)))
  · rw [show (200 : Int32) = nI 200 from rfl]
    exact nI_ge hi (by omega)
  · rw [lg_cmp_le, show (0 : Int64) = lN 0 from rfl, pk_lLE hb (by omega)] at e
    omega
  · rw [lg_cmp_le, show (0 : Int64) = lN 0 from rfl, pk_lLE hd (by omega)] at g
    omega
  rw [lg_cmp_le, show (0 : Int64) = lN 0 from rfl, pk_lLE hb (by omega)] at e
  rw [lg_cmp_le, show (0 : Int64) = lN 0 from rfl, pk_lLE hd (by omega)] at g
  have hb0 : 0 < b := by omega
  have hd0 : 0 < d := by omega
  have n0 : ∀ {x : Nat}, 0 < x → x < 2 ^ 63 → ¬ lN x = 0 := by
    intro x h1 h2
    rw [show (0 : Int64) = lN 0 from rfl, pk_lEQ h2 (by omega)]
    omega
  have q1 : a / b < 2 ^ 63 := Nat.lt_of_le_of_lt (Nat.div_le_self _ _) ha
  have q2 : c / d < 2 ^ 63 := Nat.lt_of_le_of_lt (Nat.div_le_self _ _) hc
  refine b7_51 (n0 hb0 hb) (n0 hd0 hd) (fun k => ?_) (fun k => ?_)
  · rw [pk_lDiv ha hb0 hb, pk_lDiv hc hd0 hd, lg_cmp_eq, pk_lEQ q1 q2] at k
    have nx' := nx hb0 hd0 k
    refine b7_96 (n0 hb0 hb) (n0 hd0 hd) (fun z => b7_133 ?_) (fun z => b7_129 ?_)
    · rw [bq_0] at z
      have k' : tn = true := by cases tn <;> simp_all
      subst k'
      rw [pk_lRem ha hb0 hb, pk_lRem hc hd0 hd, show nI i + (1 : Int32) = nI (i + 1) from nI_1 i]
      exact nx'
    · rw [bq_0] at z
      subst z
      rw [pk_lRem ha hb0 hb, pk_lRem hc hd0 hd, show nI i + (1 : Int32) = nI (i + 1) from nI_1 i]
      exact nx'
  · rw [pk_lDiv ha hb0 hb, pk_lDiv hc hd0 hd, lg_cmp_eq, pk_lEQ q1 q2] at k
    have v := vl_div (tn := tn) hb0 hd0 k
    refine b7_72 (fun z => b7_86 (fun w => b7_94 (n ?_)) (fun w => b7_90 (y ?_))) (fun z => b7_82 (fun w => b7_94 (n ?_)) (fun w => b7_90 (y ?_)))
    · rw [pk_lDiv ha hb0 hb, pk_lDiv hc hd0 hd, lg_cmp_le, pk_lLE q1 q2] at z
      rw [bq_0] at w
      subst w
      rw [v]
      simp
      omega
    · rw [pk_lDiv ha hb0 hb, pk_lDiv hc hd0 hd, lg_cmp_le, pk_lLE q1 q2] at z
      rw [bq_0] at w
      have k' : tn = true := by cases tn <;> simp_all
      subst k'
      rw [v]
      simp
      omega
    · rw [pk_lDiv ha hb0 hb, pk_lDiv hc hd0 hd, lg_cmp_le, pk_lLE q1 q2] at z
      rw [bq_1] at w
      subst w
      rw [v]
      simp
      omega
    · rw [pk_lDiv ha hb0 hb, pk_lDiv hc hd0 hd, lg_cmp_le, pk_lLE q1 q2] at z
      rw [bq_1] at w
      have k' : tn = false := by cases tn <;> simp_all
      subst k'
      rw [v]
      simp
      omega
theorem ab_loop {x0 x1 : Nat} : ∀ (k a b c d i : Nat) (tn : Bool), a < 2 ^ 63 → b < 2 ^ 63 → c < 2 ^ 63 → d < 2 ^ 63 → b < 2 ^ k → i + 2 * k ≤ 198 → (0 < a ∨ 0 < b) → (0 < c ∨ 0 < d) → (vl tn a b c d → Q (some (.int (1 : Int32))) h) → (¬ vl tn a b c d → Q (some (.int (0 : Int32))) h) →
    X 7 Q bc bs 29 [.ref x0, .ref x1, .long (lN a), UU, .long (lN b), UU, .long (lN c), UU, .long (lN d), UU, .int (b2 tn), .int (nI i), UU, UU, UU, UU, UU, UU, UU, UU] [] h
  | 0, a, b, c, d, i, tn, ha, hb, hc, hd, hk, hi, pa, pc, y, n => by
    have e : b = 0 := by simpa using hk
    exact ab_step ha hb hc hd (by omega) pa pc y n (fun q => absurd q (by omega))
  | k + 1, a, b, c, d, i, tn, ha, hb, hc, hd, hk, hi, pa, pc, y, n => by
    refine ab_step ha hb hc hd (by omega) pa pc y n (fun b0 d0 e => ?_)
    have m1 := Nat.mod_lt a b0
    have m2 := Nat.mod_lt c d0
    have v1 := vl_mod (tn := tn) e
    refine ab_step (by omega) (by omega) (by omega) (by omega) (by omega) (Or.inl b0) (Or.inl d0) (fun q => y (v1.mpr q)) (fun q => n (fun z => q (v1.mp z))) (fun r0 s0 e2 => ?_)
    have m3 := half_mod m1 r0
    have m4 := Nat.mod_lt d s0
    have m5 := Nat.mod_lt b r0
    have v2 := vl_mod (tn := !tn) e2
    have hp : (2 : Nat) ^ (k + 1) = 2 * 2 ^ k := by rw [Nat.pow_succ, Nat.mul_comm]
    exact ab_loop k (a % b) (b % (a % b)) (c % d) (d % (c % d)) (i + 1 + 1) (!(!tn)) (by omega) (by omega) (by omega) (by omega) (by omega) (by omega) (Or.inl r0) (Or.inl s0) (fun q => y (v1.mpr (v2.mpr q))) (fun q => n (fun z => q (v2.mp (v1.mp z))))
/-- above: a / b is greater than c / d -/
theorem sp_above {x0 x1 : Nat} {u w u' w' : Int} (k0 : kd h x0 = 1) (k1 : kd h x1 = 1) (r0 : RA h x0 u w) (r1 : RA h x1 u' w') (hu : 0 ≤ u) (ju : JB u) (hw : 0 < w) (jw : JB w) (hu' : 0 ≤ u') (ju' : JB u') (hw' : 0 < w') (jw' : JB w')
    (y : u' * w < u * w' → Q (some (.int (1 : Int32))) h) (n : ¬ u' * w < u * w' → Q (some (.int (0 : Int32))) h) : X 7 Q bc bs 0 [.ref x0, .ref x1, UU, UU, UU, UU, UU, UU, UU, UU, UU, UU, UU, UU, UU, UU, UU, UU, UU, UU] [] h := by
  refine b7_0 k0 k1 ?_
  rw [r0.1, r0.2, r1.1, r1.2, pos_lN hu, pos_lN (Int.le_of_lt hw), pos_lN hu', pos_lN (Int.le_of_lt hw'), show (0 : Int32) = nI 0 from rfl]
  have e : vl false u.natAbs w.natAbs u'.natAbs w'.natAbs ↔ u' * w < u * w' := by
    simp only [vl, Bool.false_eq_true, if_false]
    rw [← Int.natAbs_mul, ← Int.natAbs_mul]
    have a := Int.mul_nonneg hu' (Int.le_of_lt hw)
    have b := Int.mul_nonneg hu (Int.le_of_lt hw')
    omega
  unfold JB at ju jw ju' jw'
  exact ab_loop 63 u.natAbs w.natAbs u'.natAbs w'.natAbs 0 false (by omega) (by omega) (by omega) (by omega) (by omega) (by omega) (Or.inr (by omega)) (Or.inr (by omega)) (fun q => y (e.mp q)) (fun q => n (fun z => q (e.mpr z)))
theorem mo_loop {z0 z2 z4 z6 : Int64} : ∀ (k a b c d : Nat) (tn : Bool), a < 2 ^ 63 → b < 2 ^ 63 → c < 2 ^ 63 → d < 2 ^ 63 → b ≤ k → 0 < b → 0 < d → (vl tn a b c d → Q (some (.int (1 : Int32))) h) → (¬ vl tn a b c d → Q (some (.int (0 : Int32))) h) →
    X 104 Q bc bs 17 [.long z0, UU, .long z2, UU, .long z4, UU, .long z6, UU, .long (lN a), UU, .long (lN b), UU, .long (lN c), UU, .long (lN d), UU, .int (b2 tn), UU, UU, UU, UU, UU, UU] [] h
  | 0, a, b, c, d, tn, ha, hb, hc, hd, hk, b0, d0, y, n => absurd b0 (by omega)
  | k + 1, a, b, c, d, tn, ha, hb, hc, hd, hk, hb0, hd0, y, n => by
    have n0 : ∀ {x : Nat}, 0 < x → x < 2 ^ 63 → ¬ lN x = 0 := by
      intro x h1 h2
      rw [show (0 : Int64) = lN 0 from rfl, pk_lEQ h2 (by omega)]
      omega
    have q1 : a / b < 2 ^ 63 := Nat.lt_of_le_of_lt (Nat.div_le_self _ _) ha
    have q2 : c / d < 2 ^ 63 := Nat.lt_of_le_of_lt (Nat.div_le_self _ _) hc
    have m1 := Nat.mod_lt a hb0
    have m2 := Nat.mod_lt c hd0
    have z1 : ∀ x : Nat, x < 2 ^ 63 → (lg_cmp (lN x) (0 : Int64) = 0 ↔ x = 0) := fun x hx => by rw [lg_cmp_eq, show (0 : Int64) = lN 0 from rfl, pk_lEQ hx (by omega)]
    refine b104_17 (n0 hb0 hb) (n0 hd0 hd) (fun e => ?_) (fun e => ?_)
    · rw [pk_lDiv ha hb0 hb, pk_lDiv hc hd0 hd, lg_cmp_eq, pk_lEQ q1 q2] at e
      have v1 := vl_mod (tn := tn) e
      have fin : a % b = 0 ∨ c % d = 0 → ∀ x17 x19 : Int64, X 104 Q bc bs 91 [.long z0, UU, .long z2, UU, .long z4, UU, .long z6, UU, .long (lN (a % b)), UU, .long (lN b), UU, .long (lN (c % d)), UU, .long (lN d), UU, .int (b2 tn), .long x17, UU, .long x19, UU, UU, UU] [] h := by
        intro hz x17 x19
        refine b104_91 (fun g => b104_118 (fun w => b104_127 (n ?_)) (fun w => b104_123 (y ?_))) (fun g => b104_98 (fun w => b104_114 (n ?_)) (fun w => b104_103 (fun s => b104_114 (n ?_)) (fun s => b104_110 (y ?_))))
        · rw [z1 _ (by omega)] at g
          rw [bq_0] at w
          have k' : tn = true := by cases tn <;> simp_all
          subst k'
          rw [v1]
          have : c % d = 0 := by omega
          simp [vl, this]
        · rw [z1 _ (by omega)] at g
          rw [bq_0] at w
          subst w
          rw [v1]
          have : c % d = 0 := by omega
          simp only [vl, this, Nat.mul_zero, Bool.not_false, if_true]
          exact Nat.mul_pos (by omega) (by omega)
        · rw [z1 _ (by omega)] at g
          rw [bq_0] at w
          subst w
          rw [v1]
          simp [vl, g]
        · rw [z1 _ (by omega)] at g
          rw [bq_0] at w
          have k' : tn = true := by cases tn <;> simp_all
          subst k'
          rw [lg_cmp_le, show (0 : Int64) = lN 0 from rfl, pk_lLE (by omega) (by omega)] at s
          have : c % d = 0 := by omega
          rw [v1]
          simp [vl, this]
        · rw [z1 _ (by omega)] at g
          rw [bq_0] at w
          have k' : tn = true := by cases tn <;> simp_all
          subst k'
          rw [lg_cmp_le, show (0 : Int64) = lN 0 from rfl, pk_lLE (by omega) (by omega)] at s
          rw [v1]
          simp only [vl, g, Nat.mul_zero, Bool.not_true, Bool.false_eq_true, if_false]
          exact Nat.mul_pos (by omega) (by omega)
      refine b104_63 (n0 hb0 hb) (n0 hd0 hd) (fun g => ?_) (fun g => ?_)
      · rw [pk_lRem ha hb0 hb, z1 _ (by omega)] at g
        rw [pk_lRem ha hb0 hb, pk_lRem hc hd0 hd]
        exact fin (Or.inl g) _ _
      · rw [pk_lRem ha hb0 hb, z1 _ (by omega)] at g
        rw [pk_lRem ha hb0 hb, pk_lRem hc hd0 hd]
        refine b104_84 (fun w => ?_) (fun w => fin (Or.inr ((z1 _ (by omega)).mp w)) _ _)
        rw [z1 _ (by omega)] at w
        have ih := mo_loop (z0 := z0) (z2 := z2) (z4 := z4) (z6 := z6) k b (a % b) d (c % d) (!tn) hb (by omega) hd (by omega) (by omega) (by omega) (by omega) (fun q => y (v1.mpr q)) (fun q => n (fun z => q (v1.mp z)))
        refine b104_129 (fun s => b104_162 ?_) (fun s => b104_158 ?_)
        · rw [bq_0] at s
          have k' : tn = true := by cases tn <;> simp_all
          subst k'
          exact ih
        · rw [bq_0] at s
          subst s
          exact ih
    · rw [pk_lDiv ha hb0 hb, pk_lDiv hc hd0 hd, lg_cmp_eq, pk_lEQ q1 q2] at e
      have v := vl_div (tn := tn) hb0 hd0 e
      rw [pk_lDiv ha hb0 hb, pk_lDiv hc hd0 hd]
      have o1 : (1 : Int32) = b2 tn ↔ tn = true := by rw [← bq_1]; exact eq_comm
      have o0 : (0 : Int32) = b2 tn ↔ tn = false := by rw [← bq_0]; exact eq_comm
      refine b104_39 (fun z => b104_51 (fun w => b104_61 (n ?_)) (fun w => b104_57 (y ?_))) (fun z => b104_47 (fun w => b104_61 (n ?_)) (fun w => b104_57 (y ?_)))
      · rw [lg_cmp_le, pk_lLE q1 q2] at z
        rw [o0] at w
        subst w
        rw [v]
        simp
        omega
      · rw [lg_cmp_le, pk_lLE q1 q2] at z
        rw [o0] at w
        have k' : tn = true := by cases tn <;> simp_all
        subst k'
        rw [v]
        simp
        omega
      · rw [lg_cmp_le, pk_lLE q1 q2] at z
        rw [o1] at w
        subst w
        rw [v]
        simp
        omega
      · rw [lg_cmp_le, pk_lLE q1 q2] at z
        rw [o1] at w
        have k' : tn = false := by cases tn <;> simp_all
        subst k'
        rw [v]
        simp
        omega
theorem sp_isMore {u w u' w' : Int} (hu : 0 ≤ u) (ju : JB u) (hw : 0 < w) (jw : JB w) (hu' : 0 ≤ u') (ju' : JB u') (hw' : 0 < w') (jw' : JB w')
    (y : u' * w < u * w' → Q (some (.int (1 : Int32))) h) (n : ¬ u' * w < u * w' → Q (some (.int (0 : Int32))) h) : X 104 Q bc bs 0 [.long (jo u), UU, .long (jo w), UU, .long (jo u'), UU, .long (jo w'), UU, UU, UU, UU, UU, UU, UU, UU, UU, UU, UU, UU, UU, UU, UU, UU] [] h := by
  refine b104_0 ?_
  rw [pos_lN hu, pos_lN (Int.le_of_lt hw), pos_lN hu', pos_lN (Int.le_of_lt hw')]
  have e : vl false u.natAbs w.natAbs u'.natAbs w'.natAbs ↔ u' * w < u * w' := by
    simp only [vl, Bool.false_eq_true, if_false]
    rw [← Int.natAbs_mul, ← Int.natAbs_mul]
    have a := Int.mul_nonneg hu' (Int.le_of_lt hw)
    have b := Int.mul_nonneg hu (Int.le_of_lt hw')
    omega
  unfold JB at ju jw ju' jw'
  exact mo_loop w.natAbs u.natAbs w.natAbs u'.natAbs w'.natAbs false (by omega) (by omega) (by omega) (by omega) (Nat.le_refl _) (by omega) (by omega) (fun q => y (e.mp q)) (fun q => n (fun z => q (e.mpr z)))
end ABV
