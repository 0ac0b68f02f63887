/-! Stuff.isDryEnough, Stuff.coil. -/
theorem r_one (z : Int) : rU z 1 = z ∧ rL z 1 = 1 := r_of_cop (by omega) (by simp)
section DRY
variable {Q : Option Value → HP → Prop} {bc bs : Nat} {h : HP}
theorem sp_dry {Sf T a mo x n : Nat} {f : Nat → Int} {u w b : Int} (kSf : kd h Sf = 5) (rmo : hR h Sf 2 = some mo) (kmo : kd h mo = 1) (hT : kd h T = 6) (hr : hR h T 0 = some a) (hn2 : 2 ≤ n) (ha : COL h a n f) (hx : kd h x = 1) (hra : RA h x u w) (hw : 0 < w) (hw2 : w ≤ 10000000) (hu : u.natAbs ≤ 3000 * w.natAbs) (hf : f 0 < f 1) (hb : 0 ≤ b) (hb2 : b ≤ 100)
    (y : ∀ h', Fr (fun _ => False) (fun q => q = mo) h h' → wN f u w * 100 ≤ b * ((f 1 - f 0) * w) → Q (some (.int (1 : Int32))) h')
    (no : ∀ h', Fr (fun _ => False) (fun q => q = mo) h h' → ¬ wN f u w * 100 ≤ b * ((f 1 - f 0) * w) → Q (some (.int (0 : Int32))) h') :
    X 28 Q bc bs 0 [.ref Sf, .ref T, .int (io b), .ref x] [] h := by
  have f0b := (ha.2.2 0 (by omega)).2
  have f1b := (ha.2.2 1 (by omega)).2
  have wn : w.natAbs ≤ 10000000 := by omega
  have Dp : 0 < (f 1 - f 0) * w := Int.mul_pos (by omega) hw
  have Dn : ((f 1 - f 0) * w).natAbs ≤ 2000 * 10000000 := nm_le (ns_le f1b f0b) wn
  have Nn : (wN f u w).natAbs ≤ 1000 * 10000000 + 30000000000 := by
    have t : (f 1 * w - u).natAbs ≤ 1000 * 10000000 + 30000000000 := ns_le (nm_le f1b wn) (by omega)
    unfold wN
    split <;> omega
  refine b28_0 kSf rmo hT (sp_wet hT hr hn2 ha hx kmo hra hw (by omega) hu hf ?_)
  have E := r_cross (u := wN f u w) Dp
  have mp := rL_pos (u := wN f u w) Dp
  have ml := r_le (u := wN f u w) Dp
  generalize rU (wN f u w) ((f 1 - f 0) * w) = mu at E ml ⊢
  generalize rL (wN f u w) ((f 1 - f 0) * w) = mw at E mp ml ⊢
  have key : mu * 100 ≤ b * mw ↔ wN f u w * 100 ≤ b * ((f 1 - f 0) * w) := by
    generalize (f 1 - f 0) * w = D at *
    generalize wN f u w = N at *
    have e1 : mu * 100 * D = N * 100 * mw := by rw [Int.mul_right_comm, E, Int.mul_right_comm]
    have e2 : b * mw * D = b * D * mw := by rw [Int.mul_right_comm]
    constructor
    · intro q
      have q2 : mu * 100 * D ≤ b * mw * D := Int.mul_le_mul_of_nonneg_right q (by omega)
      rw [e1, e2] at q2
      exact Int.le_of_mul_le_mul_right q2 mp
    · intro q
      have q2 : N * 100 * mw ≤ b * D * mw := Int.mul_le_mul_of_nonneg_right q (by omega)
      rw [← e1, ← e2] at q2
      exact Int.le_of_mul_le_mul_right q2 Dp
  have fr : Fr (fun _ => False) (fun q => q = mo) h (wR h mo mu mw) := Fr.wR' Fr.rfl' rfl
  have jb : JB (b * mw) := (JBn (Nat.le_trans (nm_le (B := 20000000000) (A := 100) (by omega) (by omega)) (by omega))).1
  have jm : JB (mu * 100) := (JBn (by omega)).1
  have cmp : 0 < lg_cmp (hJ (wR h mo mu mw) mo 0 * (100 : Int64)) ((io b).toInt64 * hJ (wR h mo mu mw) mo 1) ↔ ¬ mu * 100 ≤ b * mw := by
    rw [wR_up.1, wR_up.2, show (100 : Int64) = jo 100 from rfl, i2l_jo (z := b) (by unfold IB; omega), jo_mul, jo_mul, lg_cmp_gt, jo_lt jb jm]
    omega
  refine b28_9 kSf rmo kmo (fun c => b28_38 ?_) (fun c => b28_34 ?_)
  · rw [cmp, key] at c
    exact no _ fr c
  · rw [cmp, key] at c
    exact y _ fr (by omega)
theorem sp_coil {Sf T c1 c3 ai o n : Nat} {F Wm : Nat → Int} {a b : Int} (kSf : kd h Sf = 5) (rai : hR h Sf 1 = some ai) (kai : kd h ai = 1) (ko : kd h o = 1) (hT : kd h T = 6) (r1 : hR h T 0 = some c1) (r3 : hR h T 2 = some c3) (hn : hI h T 3 = nI n) (hn2 : 2 ≤ n) (hn8 : n ≤ 8) (C1 : COL h c1 n F) (C3 : COL h c3 n Wm) (hb2 : a = 2 → b ≤ 1000 ∧ 0 ≤ b) (ja : IB a) (jb : IB b)
    (y0 : ∀ h', Fr (fun _ => False) (fun q => q = ai ∨ q = o) h h' → a = 0 → RA h' o (F 0) 1 → Q (some (.int (1 : Int32))) h')
    (y1 : ∀ h', Fr (fun _ => False) (fun q => q = ai ∨ q = o) h h' → a ≠ 0 → ¬ (a = 2 ∧ 0 < b) → RA h' o (F 1) 1 → Q (some (.int (1 : Int32))) h')
    (y2 : ∀ h' i, Fr (fun _ => False) (fun q => q = ai ∨ q = o) h h' → a = 2 → 0 < b → 1 ≤ i → i + 1 < n → btw Wm (Wm 1 + b) 1 i → (∀ j, 1 ≤ j → j < i → ¬ btw Wm (Wm 1 + b) 1 j) → RA h' o (rU (bN Wm F (Wm 1 + b) 1 i) (bD Wm 1 i)) (rL (bN Wm F (Wm 1 + b) 1 i) (bD Wm 1 i)) → Q (some (.int (1 : Int32))) h')
    (no : ∀ h', Fr (fun _ => False) (fun q => q = ai ∨ q = o) h h' → a = 2 → 0 < b → (∀ j, 1 ≤ j → j + 1 < n → ¬ btw Wm (Wm 1 + b) 1 j) → Q (some (.int (0 : Int32))) h') :
    X 27 Q bc bs 0 [.ref Sf, .ref T, .int (io a), .int (io b), .ref o] [] h := by
  have z0 : (0 : Int32).toNatClampNeg = 0 := by decide
  have z1 : (1 : Int32).toNatClampNeg = 1 := by decide
  have i0 : IB 0 := by unfold IB; omega
  have i2 : IB 2 := by unfold IB; omega
  have v0 : vp_in (0 : Int32) (zl h c1) := by rw [C1.2.1]; exact vp_in_nI (n := 0) (by omega) (by omega)
  have v1 : vp_in (1 : Int32) (zl h c1) := by rw [C1.2.1]; exact vp_in_nI (n := 1) (by omega) (by omega)
  have v3 : vp_in (1 : Int32) (zl h c3) := by rw [C3.2.1]; exact vp_in_nI (n := 1) (by omega) (by omega)
  obtain ⟨f0, f0b⟩ := C1.2.2 0 (by omega)
  obtain ⟨f1, f1b⟩ := C1.2.2 1 (by omega)
  obtain ⟨w1, w1b⟩ := C3.2.2 1 (by omega)
  have e2 : io a = (2 : Int32) ↔ a = 2 := by rw [show (2 : Int32) = io 2 from rfl, io_eq ja i2]
  have e0 : io a = (0 : Int32) ↔ a = 0 := by rw [show (0 : Int32) = io 0 from rfl, io_eq ja i0]
  have eb : io b ≤ (0 : Int32) ↔ b ≤ 0 := by rw [show (0 : Int32) = io 0 from rfl, io_le jb i0]
  have j1 : JB 1 := by unfold JB; omega
  have plain : ¬ (a = 2 ∧ 0 < b) → X 27 Q bc bs 46 [.ref Sf, .ref T, .int (io a), .int (io b), .ref o] [] h := by
    intro hc
    refine b27_46 (fun c => b27_62 hT r1 C1.1 v1 ko ?_) (fun c => b27_52 hT r1 C1.1 v0 ko ?_)
    · rw [z1, f1, i2l_jo (IB1000 f1b), show (1 : Int64) = jo 1 from rfl]
      refine sp_put ko (JBn (by omega)).1 (by omega) (by omega) j1 ?_
      rw [(r_one (F 1)).1, (r_one (F 1)).2]
      exact b27_73 (y1 _ (Fr.wR' Fr.rfl' (Or.inr rfl)) (fun q => c (e0.mpr q)) hc RA_wR)
    · rw [z0, f0, i2l_jo (IB1000 f0b), show (1 : Int64) = jo 1 from rfl]
      refine sp_put ko (JBn (by omega)).1 (by omega) (by omega) j1 ?_
      rw [(r_one (F 0)).1, (r_one (F 0)).2]
      exact b27_73 (y0 _ (Fr.wR' Fr.rfl' (Or.inr rfl)) (e0.mp c) RA_wR)
  refine b27_0 (fun c => plain (fun q => c (e2.mpr q.1))) (fun c => b27_5 (fun d => plain (fun q => by have := eb.mp d; omega)) (fun d => ?_))
  have ha2 := e2.mp c
  have hbp : 0 < b := by have : ¬ b ≤ 0 := fun q => d (eb.mpr q); omega
  have hb3 := hb2 ha2
  refine b27_9 kSf rai hT r3 C3.1 v3 kai ?_
  rw [z1, w1, io_add, i2l_jo (by unfold IB; omega), show (1 : Int64) = jo 1 from rfl]
  refine sp_put kai (JBn (by omega)).1 (by omega) (by omega) j1 ?_
  rw [(r_one (Wm 1 + b)).1, (r_one (Wm 1 + b)).2]
  refine b27_26 hT r3 r1 kSf rai ?_
  rw [show (1 : Int32) = nI 1 from rfl]
  have fr : Fr (fun _ => False) (fun q => q = ai ∨ q = o) h (wR h ai (Wm 1 + b) 1) := Fr.wR' Fr.rfl' (Or.inl rfl)
  refine sp_between (h := wR h ai (Wm 1 + b) 1) (first := 1) hT hn hn8 (by omega) C3 C1 kai ko RA_wR (by omega) (by omega) (by omega) (fun i e1 e3 e4 e5 => ?_) (fun hno => ?_)
  · exact b27_45 (Or.inr rfl) (y2 _ i (Fr.wR' fr (Or.inr rfl)) ha2 hbp e1 e3 e4 e5 RA_wR)
  · exact b27_45 (Or.inl rfl) (no _ fr ha2 hbp hno)
end DRY
