/-! Whole numbers behind the machine's numbers. -/
theorem am_i_add (a b : Int) : am_i a + am_i b = am_i (a + b) := (Int32.ofInt_add a b).symm
theorem am_i_sub (a b : Int) : am_i a - am_i b = am_i (a - b) := (Int32.ofInt_sub a b).symm
theorem am_i_mul (a b : Int) : am_i a * am_i b = am_i (a * b) := (Int32.ofInt_mul a b).symm
theorem am_i_toInt {a : Int} (h : -2147483648 ≤ a) (h' : a < 2147483648) : (am_i a).toInt = a := Int32.toInt_ofInt_of_le h h'
theorem am_i_of (x : Int32) : am_i x.toInt = x := Int32.ofInt_toInt x
theorem am_i_lt {a b : Int} (h1 : -2147483648 ≤ a) (h2 : a < 2147483648) (h3 : -2147483648 ≤ b) (h4 : b < 2147483648) : (am_i a < am_i b) = (a < b) := by
  rw [Int32.lt_iff_toInt_lt, am_i_toInt h1 h2, am_i_toInt h3 h4]
theorem am_i_le {a b : Int} (h1 : -2147483648 ≤ a) (h2 : a < 2147483648) (h3 : -2147483648 ≤ b) (h4 : b < 2147483648) : (am_i a ≤ am_i b) = (a ≤ b) := by
  rw [Int32.le_iff_toInt_le, am_i_toInt h1 h2, am_i_toInt h3 h4]
theorem am_i_eq {a b : Int} (h1 : -2147483648 ≤ a) (h2 : a < 2147483648) (h3 : -2147483648 ≤ b) (h4 : b < 2147483648) : (am_i a = am_i b) = (a = b) := by
  rw [← Int32.toInt_inj, am_i_toInt h1 h2, am_i_toInt h3 h4]
theorem am_i_0 : (0 : Int32) = am_i 0 := rfl
theorem am_i_ix {a : Int} (h1 : -2147483648 ≤ a) (h2 : a < 2147483648) : (am_i a).toNatClampNeg = a.toNat := Int32.toNatClampNeg_ofInt_of_le h1 h2
theorem am_i_nI (n : Nat) : nI n = am_i n := (Int32.ofInt_eq_ofNat).symm
theorem am_l_add (a b : Int) : am_l a + am_l b = am_l (a + b) := (Int64.ofInt_add a b).symm
theorem am_l_sub (a b : Int) : am_l a - am_l b = am_l (a - b) := (Int64.ofInt_sub a b).symm
theorem am_l_mul (a b : Int) : am_l a * am_l b = am_l (a * b) := (Int64.ofInt_mul a b).symm
theorem am_l_toInt {a : Int} (h : -9223372036854775808 ≤ a) (h' : a < 9223372036854775808) : (am_l a).toInt = a := Int64.toInt_ofInt_of_le h h'
theorem am_l_lt {a b : Int} (h1 : -9223372036854775808 ≤ a) (h2 : a < 9223372036854775808) (h3 : -9223372036854775808 ≤ b) (h4 : b < 9223372036854775808) : (am_l a < am_l b) = (a < b) := by
  rw [Int64.lt_iff_toInt_lt, am_l_toInt h1 h2, am_l_toInt h3 h4]
theorem am_l_le {a b : Int} (h1 : -9223372036854775808 ≤ a) (h2 : a < 9223372036854775808) (h3 : -9223372036854775808 ≤ b) (h4 : b < 9223372036854775808) : (am_l a ≤ am_l b) = (a ≤ b) := by
  rw [Int64.le_iff_toInt_le, am_l_toInt h1 h2, am_l_toInt h3 h4]
theorem am_l_eq {a b : Int} (h1 : -9223372036854775808 ≤ a) (h2 : a < 9223372036854775808) (h3 : -9223372036854775808 ≤ b) (h4 : b < 9223372036854775808) : (am_l a = am_l b) = (a = b) := by
  rw [← Int64.toInt_inj, am_l_toInt h1 h2, am_l_toInt h3 h4]
theorem am_i2l {a : Int} (h1 : -2147483648 ≤ a) (h2 : a < 2147483648) : (am_i a).toInt64 = am_l a := Int32.toInt64_ofInt h1 (show a ≤ 2147483647 by omega)
theorem am_l2i (a : Int) : (am_l a).toInt32 = am_i a := Int64.toInt32_ofInt
theorem am_i_div {a b : Int} (h1 : 0 ≤ a) (h2 : a < 2147483648) (h3 : 0 < b) (h4 : b < 2147483648) : am_i a / am_i b = am_i (a / b) := by
  rw [← Int32.toInt_inj, Int32.toInt_div, am_i_toInt (by omega) h2, am_i_toInt (by omega) h4]
  have h5 : 0 ≤ a / b := Int.ediv_nonneg h1 (by omega)
  have h6 : a / b ≤ a := Int.ediv_le_self _ h1
  rw [am_i_toInt (by omega) (by omega), Int.tdiv_eq_ediv_of_nonneg h1]
  exact Int.bmod_eq_of_le (by show -(4294967296 / 2) ≤ a / b; omega) (by show a / b < (4294967296 + 1) / 2; omega)
theorem am_l_div {a b : Int} (h1 : 0 ≤ a) (h2 : a < 9223372036854775808) (h3 : 0 < b) (h4 : b < 9223372036854775808) : am_l a / am_l b = am_l (a / b) := by
  rw [← Int64.toInt_inj, Int64.toInt_div, am_l_toInt (by omega) h2, am_l_toInt (by omega) h4]
  have h5 : 0 ≤ a / b := Int.ediv_nonneg h1 (by omega)
  have h6 : a / b ≤ a := Int.ediv_le_self _ h1
  rw [am_l_toInt (by omega) (by omega), Int.tdiv_eq_ediv_of_nonneg h1]
  exact Int.bmod_eq_of_le (by show -(18446744073709551616 / 2) ≤ a / b; omega) (by show a / b < (18446744073709551616 + 1) / 2; omega)
theorem am_i_rem {a b : Int} (h1 : 0 ≤ a) (h2 : a < 2147483648) (h3 : 0 < b) (h4 : b < 2147483648) : am_i a - am_i a / am_i b * am_i b = am_i (a % b) := by
  rw [am_i_div h1 h2 h3 h4, am_i_mul, am_i_sub]
  congr 1
  have := Int.emod_add_mul_ediv a b
  have e : a / b * b = b * (a / b) := Int.mul_comm _ _
  omega
theorem am_l_rem {a b : Int} (h1 : 0 ≤ a) (h2 : a < 9223372036854775808) (h3 : 0 < b) (h4 : b < 9223372036854775808) : am_l a - am_l a / am_l b * am_l b = am_l (a % b) := by
  rw [am_l_div h1 h2 h3 h4, am_l_mul, am_l_sub]
  congr 1
  have := Int.emod_add_mul_ediv a b
  have e : a / b * b = b * (a / b) := Int.mul_comm _ _
  omega
