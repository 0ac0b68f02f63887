/-! Table: holds, between, wetShare. -/
theorem JBn {z : Int} (h : z.natAbs ≤ 9000000000000000000) : JB z ∧ -9223372036854775808 < z := by
  unfold JB
  omega
theorem nm_le {a b : Int} {A B : Nat} (ha : a.natAbs ≤ A) (hb : b.natAbs ≤ B) : (a * b).natAbs ≤ A * B := by
  rw [Int.natAbs_mul]
  exact Nat.mul_le_mul ha hb
theorem na_le {a b : Int} {A B : Nat} (ha : a.natAbs ≤ A) (hb : b.natAbs ≤ B) : (a + b).natAbs ≤ A + B := by omega
theorem ns_le {a b : Int} {A B : Nat} (ha : a.natAbs ≤ A) (hb : b.natAbs ≤ B) : (a - b).natAbs ≤ A + B := by omega
/-- a row of n numbers at the cell a -/
def COL (h : HP) (a n : Nat) (f : Nat → Int) : Prop := kd h a = 10 ∧ zl h a = 8 ∧ ∀ i, i < n → hI h a i = io (f i) ∧ (f i).natAbs ≤ 1000
def btw (f : Nat → Int) (u w : Int) (i : Nat) : Prop := f i < f (i + 1) ∧ f i * w ≤ u ∧ u ≤ f (i + 1) * w
def bN (f g : Nat → Int) (u w : Int) (i : Nat) : Int := g i * (f (i + 1) - f i) * w + (u - f i * w) * (g (i + 1) - g i)
def bD (f : Nat → Int) (w : Int) (i : Nat) : Int := (f (i + 1) - f i) * w
theorem IB1000 {z : Int} (h : z.natAbs ≤ 1000) : IB z := by unfold IB; omega
section TAB
variable {Q : Option Value → HP → Prop} {bc bs : Nat} {h : HP}
theorem sp_between_loop {T a b x o n first : Nat} {f g : Nat → Int} {u w : Int} {z3 : Int32} (hT : kd h T = 6) (hn : hI h T 3 = nI n) (hn8 : n ≤ 8) (ha : COL h a n f) (hb : COL h b n g) (hx : kd h x = 1) (ho : kd h o = 1) (hr : RA h x u w) (hw : 0 < w) (hw2 : w ≤ 100000000000) (hu : u.natAbs ≤ 3000 * w.natAbs)
    (y : ∀ i, first ≤ i → i + 1 < n → btw f u w i → (∀ j, first ≤ j → j < i → ¬ btw f u w j) → Q (some (.int (1 : Int32))) (wR h o (rU (bN f g u w i) (bD f w i)) (rL (bN f g u w i) (bD f w i))))
    (nn : (∀ i, first ≤ i → i + 1 < n → ¬ btw f u w i) → Q (some (.int (0 : Int32))) h) :
    ∀ (m i : Nat), n ≤ i + m → i ≤ 8 → first ≤ i → (∀ j, first ≤ j → j < i → j + 1 < n → ¬ btw f u w j) → X 33 Q bc bs 3 [.ref T, .ref a, .ref b, .int z3, .ref x, .ref o, .int (nI i), UU, UU, UU, UU] [] h := by
  intro m
  have j0 : JB 0 := by unfold JB; omega
  have jw : JB w := by unfold JB; omega
  induction m with
  | zero =>
    intro i h1 h8 h2 h3
    refine b33_3 hT (fun _ => b33_126 (nn fun j e1 e2 => h3 j e1 (by omega) e2)) (fun c => absurd ?_ c)
    rw [hn, show nI i + (1 : Int32) = nI (i + 1) from nI_1 i, nI_leI (by omega) (by omega)]
    omega
  | succ m ih =>
    intro i h1 h8 h2 h3
    by_cases hi : n ≤ i + 1
    · refine b33_3 hT (fun _ => b33_126 (nn fun j e1 e2 => h3 j e1 (by omega) e2)) (fun c => absurd ?_ c)
      rw [hn, show nI i + (1 : Int32) = nI (i + 1) from nI_1 i, nI_leI (by omega) (by omega)]
      exact hi
    · refine b33_3 hT (fun c => absurd c ?_) (fun _ => ?_)
      · rw [hn, show nI i + (1 : Int32) = nI (i + 1) from nI_1 i, nI_leI (by omega) (by omega)]
        exact hi
      have v0 : vp_in (nI i) (zl h a) := by rw [ha.2.1]; exact vp_in_nI (by omega) (by omega)
      have v1 : vp_in (nI i + (1 : Int32)) (zl h a) := by rw [ha.2.1, show nI i + (1 : Int32) = nI (i + 1) from nI_1 i]; exact vp_in_nI (by omega) (by omega)
      have v2 : vp_in (nI i) (zl h b) := by rw [hb.2.1]; exact vp_in_nI (by omega) (by omega)
      have v3 : vp_in (nI i + (1 : Int32)) (zl h b) := by rw [hb.2.1, show nI i + (1 : Int32) = nI (i + 1) from nI_1 i]; exact vp_in_nI (by omega) (by omega)
      have c0 : (nI i).toNatClampNeg = i := nI_clamp (by omega)
      have c1 : (nI i + (1 : Int32)).toNatClampNeg = i + 1 := by rw [show nI i + (1 : Int32) = nI (i + 1) from nI_1 i]; exact nI_clamp (by omega)
      obtain ⟨f0, f0b⟩ := ha.2.2 i (by omega)
      obtain ⟨f1, f1b⟩ := ha.2.2 (i + 1) (by omega)
      obtain ⟨g0, g0b⟩ := hb.2.2 i (by omega)
      obtain ⟨g1, g1b⟩ := hb.2.2 (i + 1) (by omega)
      have es : (hI h a (i + 1) - hI h a i).toInt64 = jo (f (i + 1) - f i) := by rw [f0, f1, io_sub, i2l_jo (by unfold IB; omega)]
      have eg : (hI h b (i + 1) - hI h b i).toInt64 = jo (g (i + 1) - g i) := by rw [g0, g1, io_sub, i2l_jo (by unfold IB; omega)]
      have ef : (hI h a i).toInt64 = jo (f i) := by rw [f0, i2l_jo (IB1000 f0b)]
      have eg0 : (hI h b i).toInt64 = jo (g i) := by rw [g0, i2l_jo (IB1000 g0b)]
      have wn : w.natAbs ≤ 100000000000 := by omega
      have fw : (f i * w).natAbs ≤ 1000 * 100000000000 := nm_le f0b wn
      have un : u.natAbs ≤ 300000000000000 := by omega
      have pn : (u - f i * w).natAbs ≤ 400000000000000 := ns_le un fw
      have sn : (f (i + 1) - f i).natAbs ≤ 2000 := ns_le f1b f0b
      have gn : (g (i + 1) - g i).natAbs ≤ 2000 := ns_le g1b g0b
      have sw : ((f (i + 1) - f i) * w).natAbs ≤ 2000 * 100000000000 := nm_le sn wn
      have jp : JB (u - f i * w) := (JBn (by omega)).1
      have js : JB (f (i + 1) - f i) := (JBn (by omega)).1
      have jsw : JB ((f (i + 1) - f i) * w) := (JBn (by omega)).1
      have again : ∀ (x7 x9 : Int64), ¬ btw f u w i → X 33 Q bc bs 120 [.ref T, .ref a, .ref b, .int z3, .ref x, .ref o, .int (nI i), .long x7, UU, .long x9, UU] [] h := by
        intro x7 x9 hno
        refine b33_120 ?_
        rw [show nI i + (1 : Int32) = nI (i + 1) from nI_1 i]
        refine ih (i + 1) (by omega) (by omega) (by omega) (fun j e1 e2 e3 => ?_)
        rcases Nat.lt_or_ge j i with q | q
        · exact h3 j e1 q e3
        · rw [show j = i by omega]; exact hno
      refine b33_14 ha.1 v1 v0 hx (fun c => ?_) (fun c => ?_)
      · rw [c1, c0, es, lg_cmp_le, show (0 : Int64) = jo 0 from rfl, jo_le js j0] at c
        exact again _ _ (fun q => by have := q.1; omega)
      · rw [c1, c0, es, lg_cmp_le, show (0 : Int64) = jo 0 from rfl, jo_le js j0] at c
        rw [c1, c0, es, ef, hr.1, hr.2, jo_mul, jo_sub]
        refine b33_54 (fun d => again _ _ (fun q => ?_)) (fun d => b33_61 hx (fun e => again _ _ (fun q => ?_)) (fun e => b33_75 hb.1 v2 hx v3 ho ?_))
        · rw [lg_cmp_lt, show (0 : Int64) = jo 0 from rfl, jo_lt jp j0] at d
          have := q.2.1
          omega
        · rw [hr.2, jo_mul, lg_cmp_gt, jo_lt jsw jp] at e
          have h5 := q.2.2
          rw [Int.sub_mul] at e
          omega
        · rw [lg_cmp_lt, show (0 : Int64) = jo 0 from rfl, jo_lt jp j0] at d
          rw [hr.2, jo_mul, lg_cmp_gt, jo_lt jsw jp] at e
          have hb1 : btw f u w i := by
            refine ⟨by omega, by omega, ?_⟩
            rw [Int.sub_mul] at e
            omega
          rw [c1, c0, eg, eg0, hr.2, jo_mul, jo_mul, jo_mul, jo_mul, jo_add]
          have nb : (bN f g u w i).natAbs ≤ 9000000000000000000 := by
            have t1 : (g i * (f (i + 1) - f i) * w).natAbs ≤ 1000 * 2000 * 100000000000 := nm_le (nm_le g0b sn) wn
            have t2 : ((u - f i * w) * (g (i + 1) - g i)).natAbs ≤ 400000000000000 * 2000 := nm_le pn gn
            unfold bN
            have t3 := na_le t1 t2
            omega
          refine sp_put (u := bN f g u w i) (w := bD f w i) ho (JBn nb).1 (JBn nb).2 (Int.mul_pos (by omega) hw) jsw ?_
          exact b33_118 (y i h2 (by omega) hb1 (fun j e1 e2 => h3 j e1 e2 (by omega)))
/-- between: the first stretch that holds the value, read in lowest terms -/
theorem sp_between {T a b x o n first : Nat} {f g : Nat → Int} {u w : Int} (hT : kd h T = 6) (hn : hI h T 3 = nI n) (hn8 : n ≤ 8) (hf8 : first ≤ 8) (ha : COL h a n f) (hb : COL h b n g) (hx : kd h x = 1) (ho : kd h o = 1) (hr : RA h x u w) (hw : 0 < w) (hw2 : w ≤ 100000000000) (hu : u.natAbs ≤ 3000 * w.natAbs)
    (y : ∀ i, first ≤ i → i + 1 < n → btw f u w i → (∀ j, first ≤ j → j < i → ¬ btw f u w j) → Q (some (.int (1 : Int32))) (wR h o (rU (bN f g u w i) (bD f w i)) (rL (bN f g u w i) (bD f w i))))
    (nn : (∀ i, first ≤ i → i + 1 < n → ¬ btw f u w i) → Q (some (.int (0 : Int32))) h) : X 33 Q bc bs 0 [.ref T, .ref a, .ref b, .int (nI first), .ref x, .ref o, UU, UU, UU, UU, UU] [] h := by
  refine b33_0 ?_
  exact sp_between_loop hT hn hn8 ha hb hx ho hr hw hw2 hu y nn 8 first (by omega) hf8 (Nat.le_refl _) (fun j e1 e2 => absurd e2 (by omega))
end TAB
