theorem zin_lt {i : Int32} {n : Nat} (h : zin i n = true) : i.toNatClampNeg < n := Nat.not_le.mp fun q => zin_e h (Or.inr q)
theorem ct_b_6 : (Int8.ofInt (6)).toInt32 = (6 : Int32) := by decide
theorem ct_b_8 : (Int8.ofInt (8)).toInt32 = (8 : Int32) := by decide
theorem ct_b_9 : (Int8.ofInt (9)).toInt32 = (9 : Int32) := by decide
theorem ct_b_16 : (Int8.ofInt (16)).toInt32 = (16 : Int32) := by decide
theorem ct_b_60 : (Int8.ofInt (60)).toInt32 = (60 : Int32) := by decide
theorem ct_b_61 : (Int8.ofInt (61)).toInt32 = (61 : Int32) := by decide
theorem ct_b_63 : (Int8.ofInt (63)).toInt32 = (63 : Int32) := by decide
theorem ct_i_m1 : Int32.ofInt (-1) = (-1 : Int32) := by decide
theorem ct_i_0 : Int32.ofInt (0) = (0 : Int32) := by decide
theorem ct_i_1 : Int32.ofInt (1) = (1 : Int32) := by decide
theorem ct_i_2 : Int32.ofInt (2) = (2 : Int32) := by decide
theorem ct_i_3 : Int32.ofInt (3) = (3 : Int32) := by decide
theorem ct_i_4 : Int32.ofInt (4) = (4 : Int32) := by decide
theorem ct_n_1 (x : Int32) : x + Int32.ofInt (1) = x + (1 : Int32) := by rw [show Int32.ofInt (1) = (1 : Int32) by decide]
