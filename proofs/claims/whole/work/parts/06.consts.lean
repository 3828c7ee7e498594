theorem zin_lt {i : Int32} {n : Nat} (h : zin i n = true) : i.toNatClampNeg < n := Nat.not_le.mp fun q => zin_e h (Or.inr q)
theorem ct_b_m10 : (Int8.ofInt (-10)).toInt32 = (-10 : Int32) := by decide
theorem ct_b_m9 : (Int8.ofInt (-9)).toInt32 = (-9 : Int32) := by decide
theorem ct_b_m3 : (Int8.ofInt (-3)).toInt32 = (-3 : Int32) := by decide
theorem ct_b_m2 : (Int8.ofInt (-2)).toInt32 = (-2 : Int32) := by decide
theorem ct_b_6 : (Int8.ofInt (6)).toInt32 = (6 : Int32) := by decide
theorem ct_b_7 : (Int8.ofInt (7)).toInt32 = (7 : Int32) := by decide
theorem ct_b_8 : (Int8.ofInt (8)).toInt32 = (8 : Int32) := by decide
theorem ct_b_9 : (Int8.ofInt (9)).toInt32 = (9 : Int32) := by decide
theorem ct_b_10 : (Int8.ofInt (10)).toInt32 = (10 : Int32) := by decide
theorem ct_b_11 : (Int8.ofInt (11)).toInt32 = (11 : Int32) := by decide
theorem ct_b_16 : (Int8.ofInt (16)).toInt32 = (16 : Int32) := by decide
theorem ct_b_18 : (Int8.ofInt (18)).toInt32 = (18 : Int32) := by decide
theorem ct_b_20 : (Int8.ofInt (20)).toInt32 = (20 : Int32) := by decide
theorem ct_b_29 : (Int8.ofInt (29)).toInt32 = (29 : Int32) := by decide
theorem ct_b_31 : (Int8.ofInt (31)).toInt32 = (31 : Int32) := by decide
theorem ct_b_32 : (Int8.ofInt (32)).toInt32 = (32 : Int32) := by decide
theorem ct_b_38 : (Int8.ofInt (38)).toInt32 = (38 : Int32) := by decide
theorem ct_b_47 : (Int8.ofInt (47)).toInt32 = (47 : Int32) := by decide
theorem ct_b_48 : (Int8.ofInt (48)).toInt32 = (48 : Int32) := by decide
theorem ct_b_57 : (Int8.ofInt (57)).toInt32 = (57 : Int32) := by decide
theorem ct_b_59 : (Int8.ofInt (59)).toInt32 = (59 : Int32) := by decide
theorem ct_b_60 : (Int8.ofInt (60)).toInt32 = (60 : Int32) := by decide
theorem ct_b_61 : (Int8.ofInt (61)).toInt32 = (61 : Int32) := by decide
theorem ct_b_63 : (Int8.ofInt (63)).toInt32 = (63 : Int32) := by decide
theorem ct_b_82 : (Int8.ofInt (82)).toInt32 = (82 : Int32) := by decide
theorem ct_b_94 : (Int8.ofInt (94)).toInt32 = (94 : Int32) := by decide
theorem ct_b_99 : (Int8.ofInt (99)).toInt32 = (99 : Int32) := by decide
theorem ct_b_100 : (Int8.ofInt (100)).toInt32 = (100 : Int32) := by decide
theorem ct_b_104 : (Int8.ofInt (104)).toInt32 = (104 : Int32) := by decide
theorem ct_b_114 : (Int8.ofInt (114)).toInt32 = (114 : Int32) := by decide
theorem ct_b_115 : (Int8.ofInt (115)).toInt32 = (115 : Int32) := by decide
theorem ct_i_m1 : Int32.ofInt (-1) = (-1 : Int32) := by decide
theorem ct_i_0 : Int32.ofInt (0) = (0 : Int32) := by decide
theorem ct_i_1 : Int32.ofInt (1) = (1 : Int32) := by decide
theorem ct_i_2 : Int32.ofInt (2) = (2 : Int32) := by decide
theorem ct_i_3 : Int32.ofInt (3) = (3 : Int32) := by decide
theorem ct_i_4 : Int32.ofInt (4) = (4 : Int32) := by decide
theorem ct_i_5 : Int32.ofInt (5) = (5 : Int32) := by decide
theorem ct_n_m1 (x : Int32) : x + Int32.ofInt (-1) = x + (-1 : Int32) := by rw [show Int32.ofInt (-1) = (-1 : Int32) by decide]
theorem ct_n_1 (x : Int32) : x + Int32.ofInt (1) = x + (1 : Int32) := by rw [show Int32.ofInt (1) = (1 : Int32) by decide]
theorem ct_n_3 (x : Int32) : x + Int32.ofInt (3) = x + (3 : Int32) := by rw [show Int32.ofInt (3) = (3 : Int32) by decide]
theorem ct_n_4 (x : Int32) : x + Int32.ofInt (4) = x + (4 : Int32) := by rw [show Int32.ofInt (4) = (4 : Int32) by decide]
theorem ct_s_255 : (Int16.ofInt (255)).toInt32 = (255 : Int32) := by decide
theorem ct_s_423 : (Int16.ofInt (423)).toInt32 = (423 : Int32) := by decide
theorem ct_s_470 : (Int16.ofInt (470)).toInt32 = (470 : Int32) := by decide
theorem ct_s_512 : (Int16.ofInt (512)).toInt32 = (512 : Int32) := by decide
theorem ct_s_999 : (Int16.ofInt (999)).toInt32 = (999 : Int32) := by decide
