/-! Which numbers a part may have. -/
theorem i32eq (x y : Int32) : x = y ↔ x.toInt = y.toInt := Int32.toInt_inj.symm
theorem i64eq (x y : Int64) : x = y ↔ x.toInt = y.toInt := Int64.toInt_inj.symm
section PGD
variable {Q : Option Value → HP → Prop} {bc bs : Nat} {h : HP}
theorem sp_70 {k a b : Int32} (y : PG k.toInt a.toInt b.toInt → Q (some (.int (1 : Int32))) h) (n : ¬ PG k.toInt a.toInt b.toInt → Q (some (.int (0 : Int32))) h) : X 70 Q bc bs 0 [.int k, .int a, .int b] [] h := by
  unfold PG at y n
  refine m70 (fun c d e => y ?_) (fun c d e => n ?_) (fun c d => n ?_) (fun c d => y ?_) (fun c d => n ?_) (fun c d => y ?_) (fun c d e => n ?_) (fun c d e f => y ?_) (fun c d e f => n ?_) (fun c d e => y ?_) (fun c d e => n ?_) (fun c d => n ?_) (fun c d e f => n ?_) <;> simp only [Int32.le_iff_toInt_le, Int32.lt_iff_toInt_lt, Int64.le_iff_toInt_le, Int64.lt_iff_toInt_lt, Int32.toInt_toInt64, i32eq, i64eq, Int32.reduceToInt, Int64.reduceToInt, Int32.reduceOfInt] at * <;> omega
theorem sp_87 {k a b : Int32} (hk : 0 ≤ k.toInt ∧ k.toInt ≤ 3) (y : PG k.toInt a.toInt b.toInt → Q (some (.int (1 : Int32))) h) (n : ¬ PG k.toInt a.toInt b.toInt → Q (some (.int (0 : Int32))) h) : X 87 Q bc bs 0 [.int k, .int a, .int b] [] h := by
  unfold PG at y n
  refine m87 (fun c d e => y ?_) (fun c d e => n ?_) (fun c d => n ?_) (fun c d => y ?_) (fun c d => n ?_) (fun c d e => y ?_) (fun c d e f => y ?_) (fun c d e f => n ?_) (fun c d => n ?_) (fun c d e f g => y ?_) (fun c d e f g => n ?_) (fun c d e f => n ?_) <;> simp only [Int32.le_iff_toInt_le, Int32.lt_iff_toInt_lt, Int64.le_iff_toInt_le, Int64.lt_iff_toInt_lt, Int32.toInt_toInt64, i32eq, i64eq, Int32.reduceToInt, Int64.reduceToInt, Int32.reduceOfInt] at * <;> omega
end PGD
