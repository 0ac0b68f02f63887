/-! Longs and ints as whole numbers. -/
def jo (z : Int) : Int64 := Int64.ofInt z
def io (z : Int) : Int32 := Int32.ofInt z
def JB (z : Int) : Prop := -9223372036854775808 ≤ z ∧ z < 9223372036854775808
def IB (z : Int) : Prop := -2147483648 ≤ z ∧ z < 2147483648
theorem jo_toInt {z : Int} (h : JB z) : (jo z).toInt = z := Int64.toInt_ofInt_of_le h.1 h.2
theorem io_toInt {z : Int} (h : IB z) : (io z).toInt = z := Int32.toInt_ofInt_of_le h.1 h.2
theorem jo_of (x : Int64) : jo x.toInt = x := Int64.ofInt_toInt x
theorem io_of (x : Int32) : io x.toInt = x := Int32.ofInt_toInt x
theorem JB_of (x : Int64) : JB x.toInt := ⟨Int64.le_toInt x, Int64.toInt_lt x⟩
theorem IB_of (x : Int32) : IB x.toInt := ⟨Int32.le_toInt x, Int32.toInt_lt x⟩
theorem jo_add (a b : Int) : jo a + jo b = jo (a + b) := (Int64.ofInt_add a b).symm
theorem jo_mul (a b : Int) : jo a * jo b = jo (a * b) := (Int64.ofInt_mul a b).symm
theorem jo_sub (a b : Int) : jo a - jo b = jo (a - b) := (Int64.ofInt_sub a b).symm
theorem jo_neg (a : Int) : -jo a = jo (-a) := (Int64.ofInt_neg a).symm
theorem io_add (a b : Int) : io a + io b = io (a + b) := (Int32.ofInt_add a b).symm
theorem io_mul (a b : Int) : io a * io b = io (a * b) := (Int32.ofInt_mul a b).symm
theorem io_sub (a b : Int) : io a - io b = io (a - b) := (Int32.ofInt_sub a b).symm
theorem io_neg (a : Int) : -io a = io (-a) := (Int32.ofInt_neg a).symm
theorem jo_lt {a b : Int} (ha : JB a) (hb : JB b) : jo a < jo b ↔ a < b := by rw [Int64.lt_iff_toInt_lt, jo_toInt ha, jo_toInt hb]
theorem jo_le {a b : Int} (ha : JB a) (hb : JB b) : jo a ≤ jo b ↔ a ≤ b := by rw [Int64.le_iff_toInt_le, jo_toInt ha, jo_toInt hb]
theorem jo_eq {a b : Int} (ha : JB a) (hb : JB b) : jo a = jo b ↔ a = b := by rw [← Int64.toInt_inj, jo_toInt ha, jo_toInt hb]
theorem io_lt {a b : Int} (ha : IB a) (hb : IB b) : io a < io b ↔ a < b := by rw [Int32.lt_iff_toInt_lt, io_toInt ha, io_toInt hb]
theorem io_le {a b : Int} (ha : IB a) (hb : IB b) : io a ≤ io b ↔ a ≤ b := by rw [Int32.le_iff_toInt_le, io_toInt ha, io_toInt hb]
theorem io_eq {a b : Int} (ha : IB a) (hb : IB b) : io a = io b ↔ a = b := by rw [← Int32.toInt_inj, io_toInt ha, io_toInt hb]
theorem jo_inj_of {x : Int64} {z : Int} (h : x.toInt = z) : x = jo z := by rw [← h, jo_of]
theorem io_inj_of {x : Int32} {z : Int} (h : x.toInt = z) : x = io z := by rw [← h, io_of]
theorem jo_div {a b : Int} (ha : JB a) (hb : JB b) (h : JB (a.tdiv b)) : jo a / jo b = jo (a.tdiv b) := by
  apply jo_inj_of
  rw [Int64.toInt_div, jo_toInt ha, jo_toInt hb]
  apply Int.bmod_eq_of_le <;> (have := h.1; have := h.2; omega)
theorem i2l_jo {z : Int} (h : IB z) : (io z).toInt64 = jo z := by
  apply jo_inj_of
  rw [Int32.toInt_toInt64, io_toInt h]
theorem lN_jo (n : Nat) : lN n = jo (n : Int) := by
  unfold lN jo
  exact (Int64.ofInt_eq_ofNat).symm
theorem nI_io (n : Nat) : nI n = io (n : Int) := by
  unfold nI io
  exact (Int32.ofInt_eq_ofNat).symm
