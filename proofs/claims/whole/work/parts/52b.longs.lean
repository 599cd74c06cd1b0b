/-! PURE 32b: longs as whole numbers -/
def zL (z : Int) : Int64 := Int64.ofInt z
theorem zL_toInt {z : Int} (h1 : -2 ^ 63 ≤ z) (h2 : z < 2 ^ 63) : (zL z).toInt = z := Int64.toInt_ofInt_of_le h1 h2
theorem zL_add (a b : Int) : zL a + zL b = zL (a + b) := (Int64.ofInt_add a b).symm
theorem zL_sub (a b : Int) : zL a - zL b = zL (a - b) := (Int64.ofInt_sub a b).symm
theorem zL_mul (a b : Int) : zL a * zL b = zL (a * b) := (Int64.ofInt_mul a b).symm
theorem zL_div {a b : Int} (a1 : -2 ^ 63 ≤ a) (a2 : a < 2 ^ 63) (b1 : -2 ^ 63 ≤ b) (b2 : b < 2 ^ 63) : zL a / zL b = zL (a.tdiv b) := (Int64.ofInt_tdiv a1 (by rw [show Int64.maxValue.toInt = 2 ^ 63 - 1 from rfl]; omega) b1 (by rw [show Int64.maxValue.toInt = 2 ^ 63 - 1 from rfl]; omega)).symm
theorem zL_eq {a b : Int} (a1 : -2 ^ 63 ≤ a) (a2 : a < 2 ^ 63) (b1 : -2 ^ 63 ≤ b) (b2 : b < 2 ^ 63) : zL a = zL b ↔ a = b := by
  constructor
  · intro h
    have := congrArg Int64.toInt h
    rwa [zL_toInt a1 a2, zL_toInt b1 b2] at this
  · intro h; rw [h]
theorem zL_of (x : Int64) : x = zL x.toInt := (Int64.ofInt_toInt x).symm
theorem i2l (x : Int32) : x.toInt64 = zL x.toInt := by
  rw [zL_of x.toInt64, Int32.toInt_toInt64]
theorem l2i (z : Int) : (zL z).toInt32 = Int32.ofInt z := Int64.toInt32_ofInt

theorem lt64 {a b : Int} (a1 : -2 ^ 63 ≤ a) (a2 : a < 2 ^ 63) (b1 : -2 ^ 63 ≤ b) (b2 : b < 2 ^ 63) : zL a < zL b ↔ a < b := by
  rw [Int64.lt_iff_toInt_lt, zL_toInt a1 a2, zL_toInt b1 b2]
theorem le64 {a b : Int} (a1 : -2 ^ 63 ≤ a) (a2 : a < 2 ^ 63) (b1 : -2 ^ 63 ≤ b) (b2 : b < 2 ^ 63) : zL a ≤ zL b ↔ a ≤ b := by
  rw [Int64.le_iff_toInt_le, zL_toInt a1 a2, zL_toInt b1 b2]
