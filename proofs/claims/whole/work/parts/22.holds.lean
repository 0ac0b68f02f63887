/-! Table: holds, wetShare; Stuff.tableAt. -/
theorem m32 {Q : Option Value → HP → Prop} {bc bs : Nat} {h : HP} {x0 : Nat} {x1 : Int64} {x3 : Int64} {r1 : Nat} (g1 : kd h x0 = 6) (g2 : hR h x0 0 = some r1) (g3 : kd h r1 = 10) (q1 : (lg_cmp x3 (0 : Int64)) ≤ 0 → Q (some (.int (0 : Int32))) h) (d1 : ¬ (lg_cmp x3 (0 : Int64)) ≤ 0 → vp_in (0 : Int32) (zl h r1)) (q2 : ¬ (lg_cmp x3 (0 : Int64)) ≤ 0 → (lg_cmp x1 ((hI h r1 (0 : Int32).toNatClampNeg).toInt64 * x3)) < 0 → Q (some (.int (0 : Int32))) h) (d2 : ¬ (lg_cmp x3 (0 : Int64)) ≤ 0 → ¬ (lg_cmp x1 ((hI h r1 (0 : Int32).toNatClampNeg).toInt64 * x3)) < 0 → vp_in ((hI h x0 3) - (1 : Int32)) (zl h r1)) (q3 : ¬ (lg_cmp x3 (0 : Int64)) ≤ 0 → ¬ (lg_cmp x1 ((hI h r1 (0 : Int32).toNatClampNeg).toInt64 * x3)) < 0 → 0 < (lg_cmp x1 ((hI h r1 ((hI h x0 3) - (1 : Int32)).toNatClampNeg).toInt64 * x3)) → Q (some (.int (0 : Int32))) h) (q4 : ¬ (lg_cmp x3 (0 : Int64)) ≤ 0 → ¬ (lg_cmp x1 ((hI h r1 (0 : Int32).toNatClampNeg).toInt64 * x3)) < 0 → ¬ 0 < (lg_cmp x1 ((hI h r1 ((hI h x0 3) - (1 : Int32)).toNatClampNeg).toInt64 * x3)) → Q (some (.int (1 : Int32))) h) : X 32 Q bc bs 0 [.ref x0, .long x1, UU, .long x3, UU] [] h := b32_0 (fun p1 => (b32_43 (q1 p1))) (fun p2 => (b32_6 g1 g2 g3 (d1 p2) (fun p3 => (b32_43 (q2 p2 p3))) (fun p4 => (b32_20 g1 g2 g3 (d2 p2 p4) (fun p5 => (b32_43 (q3 p2 p4 p5))) (fun p6 => (b32_39 (q4 p2 p4 p6)))))))
section TAB2
variable {Q : Option Value → HP → Prop} {bc bs : Nat} {h : HP}
/-- holds(up, low) of a table whose heats are f -/
theorem sp_holds {T a n : Nat} {f : Nat → Int} {u w : Int} (hT : kd h T = 6) (hr : hR h T 0 = some a) (hn : hI h T 3 = nI n) (hn2 : 2 ≤ n) (hn8 : n ≤ 8) (ha : COL h a n f) (ju : JB u) (hw2 : w.natAbs ≤ 1000000000000000)
    (jw : JB w) (y : 0 < w ∧ f 0 * w ≤ u ∧ u ≤ f (n - 1) * w → Q (some (.int (1 : Int32))) h) (no : ¬ (0 < w ∧ f 0 * w ≤ u ∧ u ≤ f (n - 1) * w) → Q (some (.int (0 : Int32))) h) : X 32 Q bc bs 0 [.ref T, .long (jo u), UU, .long (jo w), UU] [] h := by
  have j0 : JB 0 := by unfold JB; omega
  have v0 : vp_in (0 : Int32) (zl h a) := by rw [ha.2.1]; exact vp_in_nI (n := 0) (by omega) (by omega)
  have e1 : hI h T 3 - (1 : Int32) = nI (n - 1) := by
    rw [hn]
    obtain ⟨k, rfl⟩ : ∃ k, n = k + 1 := ⟨n - 1, by omega⟩
    exact nI_pred k
  have v1 : vp_in (hI h T 3 - (1 : Int32)) (zl h a) := by rw [ha.2.1, e1]; exact vp_in_nI (by omega) (by omega)
  have z0 : (0 : Int32).toNatClampNeg = 0 := by decide
  have z1 : (hI h T 3 - (1 : Int32)).toNatClampNeg = n - 1 := by rw [e1]; exact nI_clamp (by omega)
  obtain ⟨f0, f0b⟩ := ha.2.2 0 (by omega)
  obtain ⟨f1, f1b⟩ := ha.2.2 (n - 1) (by omega)
  have p0 : (hI h a (0 : Int32).toNatClampNeg).toInt64 * jo w = jo (f 0 * w) := by rw [z0, f0, i2l_jo (IB1000 f0b), jo_mul]
  have p1 : (hI h a (hI h T 3 - (1 : Int32)).toNatClampNeg).toInt64 * jo w = jo (f (n - 1) * w) := by rw [z1, f1, i2l_jo (IB1000 f1b), jo_mul]
  have b0 : JB (f 0 * w) := (JBn (Nat.le_trans (nm_le f0b hw2) (by omega))).1
  have b1 : JB (f (n - 1) * w) := (JBn (Nat.le_trans (nm_le f1b hw2) (by omega))).1
  have c0 : lg_cmp (jo w) (0 : Int64) ≤ 0 ↔ w ≤ 0 := by rw [lg_cmp_le, show (0 : Int64) = jo 0 from rfl, jo_le jw j0]
  refine m32 hT hr ha.1 (fun c => no ?_) (fun _ => v0) (fun c d => no ?_) (fun _ _ => v1) (fun c d e => no ?_) (fun c d e => y ?_)
  · rw [c0] at c; omega
  · rw [p0, lg_cmp_lt, jo_lt ju b0] at d; omega
  · rw [p1, lg_cmp_gt, jo_lt b1 ju] at e; omega
  · rw [c0] at c
    rw [p0, lg_cmp_lt, jo_lt ju b0] at d
    rw [p1, lg_cmp_gt, jo_lt b1 ju] at e
    omega
def wN (f : Nat → Int) (u w : Int) : Int := if f 1 * w - u < 0 then 0 else f 1 * w - u
/-- wetShare: the wet share, in lowest terms -/
theorem sp_wet {T a x o n : Nat} {f : Nat → Int} {u w : Int} (hT : kd h T = 6) (hr : hR h T 0 = some a) (hn2 : 2 ≤ n) (ha : COL h a n f) (hx : kd h x = 1) (ho : kd h o = 1) (hra : RA h x u w) (hw : 0 < w) (hw2 : w ≤ 100000000000) (hu : u.natAbs ≤ 3000 * w.natAbs) (hf : f 0 < f 1)
    (nx : Q none (wR h o (rU (wN f u w) ((f 1 - f 0) * w)) (rL (wN f u w) ((f 1 - f 0) * w)))) : X 34 Q bc bs 0 [.ref T, .ref x, .ref o] [] h := by
  have j0 : JB 0 := by unfold JB; omega
  have v0 : vp_in (0 : Int32) (zl h a) := by rw [ha.2.1]; exact vp_in_nI (n := 0) (by omega) (by omega)
  have v1 : vp_in (1 : Int32) (zl h a) := by rw [ha.2.1]; exact vp_in_nI (n := 1) (by omega) (by omega)
  have z0 : (0 : Int32).toNatClampNeg = 0 := by decide
  have z1 : (1 : Int32).toNatClampNeg = 1 := by decide
  obtain ⟨f0, f0b⟩ := ha.2.2 0 (by omega)
  obtain ⟨f1, f1b⟩ := ha.2.2 1 (by omega)
  have wn : w.natAbs ≤ 100000000000 := by omega
  have un : u.natAbs ≤ 300000000000000 := by omega
  have l1 : (f 1 * w - u).natAbs ≤ 1000 * 100000000000 + 300000000000000 := ns_le (nm_le f1b wn) un
  have l2 : ((f 1 - f 0) * w).natAbs ≤ 2000 * 100000000000 := nm_le (ns_le f1b f0b) wn
  have jl : JB (f 1 * w - u) := (JBn (by omega)).1
  have e1 : (hI h a (1 : Int32).toNatClampNeg).toInt64 * hJ h x 1 - hJ h x 0 = jo (f 1 * w - u) := by rw [z1, f1, i2l_jo (IB1000 f1b), hra.1, hra.2, jo_mul, jo_sub]
  have e2 : (hI h a (1 : Int32).toNatClampNeg - hI h a (0 : Int32).toNatClampNeg).toInt64 * hJ h x 1 = jo ((f 1 - f 0) * w) := by rw [z0, z1, f0, f1, io_sub, i2l_jo (by unfold IB; omega), hra.2, jo_mul]
  have e3 : (if jo (f 1 * w - u) < (0 : Int64) then (0 : Int64) else jo (f 1 * w - u)) = jo (wN f u w) := by
    have hc : jo (f 1 * w - u) < (0 : Int64) ↔ f 1 * w - u < 0 := by rw [show (0 : Int64) = jo 0 from rfl, jo_lt jl j0]
    unfold wN
    split
    · rename_i q; rw [hc] at q; rw [if_pos q]; rfl
    · rename_i q; rw [hc] at q; rw [if_neg q]
  have wb : (wN f u w).natAbs ≤ 9000000000000000000 := by unfold wN; split <;> omega
  refine b34_0 hT hr ha.1 v1 hx v0 ho ?_
  rw [e1, e2, e3]
  exact sp_put ho (JBn wb).1 (JBn wb).2 (Int.mul_pos (by omega) hw) (JBn (by omega)).1 (b34_44 nx)
end TAB2
