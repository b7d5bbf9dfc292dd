theorem z_i32rem (x y : Int32) : x - x / y * y = x % y := by
  rw [← Int32.toInt_inj, Int32.toInt_sub, Int32.toInt_mul, Int32.toInt_div, Int32.toInt_mod]
  have h1 : (x.toInt.tmod y.toInt).bmod (2 ^ 32) = x.toInt.tmod y.toInt := by
    rw [← Int32.toInt_mod]
    exact Int32.bmod_toInt _
  rw [← h1, Int.tmod_def, Int.mul_comm y.toInt]
  simp only [Int.sub_bmod_bmod, Int.bmod_mul_bmod, Int.sub_bmod]
theorem z_i64rem (x y : Int64) : x - x / y * y = x % y := by
  rw [← Int64.toInt_inj, Int64.toInt_sub, Int64.toInt_mul, Int64.toInt_div, Int64.toInt_mod]
  have h1 : (x.toInt.tmod y.toInt).bmod (2 ^ 64) = x.toInt.tmod y.toInt := by
    rw [← Int64.toInt_mod]
    exact Int64.bmod_toInt _
  rw [← h1, Int.tmod_def, Int.mul_comm y.toInt]
  simp only [Int.sub_bmod_bmod, Int.bmod_mul_bmod, Int.sub_bmod]
