-- WingDoorModel.sort(II)I, 54 instructions, depth 1
def f_X12_sort_93 (x1 : Int32) (x2 : Int32) (k63 : zM → Int32 → Int32 → Option (Int32 × zM)) (M : zM) (x4 : Int32) (s0 : Int32) (s1 : Int32) : Option (Int32 × zM) := k63 M (s1 + s0) (x4 + (1 : Int32))
set_option maxRecDepth 20000 in
set_option maxHeartbeats 2000000 in
theorem p_X12_sort_93 {X : zX} {E : zE} {x1 : Int32} {x2 : Int32} {r : Int32} {M' : zM} {k63 : zM → Int32 → Int32 → Option (Int32 × zM)} (C : zC X E cX12_sort 5 RX12 (some .int) 1) (hk63 : ∀ (M : zM) (y3 : Int32) (y4 : Int32), k63 M y3 y4 = some (r, M') → zW X E (zRQ X E (some (.int r)) M') M 63 [(0, .ref (E.2.1 25)), (1, .int x1), (2, .int x2), (3, .int y3), (4, .int y4)] []) {M : zM} {x4 : Int32} {s0 : Int32} {s1 : Int32} (h : f_X12_sort_93 x1 x2 k63 M x4 s0 s1 = some (r, M')) : zW X E (zRQ X E (some (.int r)) M') M 93 [(0, .ref (E.2.1 25)), (1, .int x1), (2, .int x2), (4, .int x4)] [.int s0, .int s1] := by
  have h : (k63 M (s1 + s0) (x4 + (1 : Int32))) = some (r, M') := h
  refine zw_iadd C dX12_sort_93 ?_
  refine zw_istore_n (lv' := [(3, .int (s1 + s0)), (0, .ref (E.2.1 25)), (1, .int x1), (2, .int x2), (4, .int x4)]) C dX12_sort_94 rfl (by decide) rfl ?_
  refine zw_iinc (lv' := [(4, .int (x4 + (1 : Int32))), (3, .int (s1 + s0)), (0, .ref (E.2.1 25)), (1, .int x1), (2, .int x2)]) C 4 rfl dX12_sort_95 (ct_n_1 _) (by decide) rfl ?_
  refine zw_goto (tgt := 63) C dX12_sort_98 (by decide) ?_
  refine zw_sb [2, 3, 4, 1, 0] rfl ?_
  exact hk63 _ _ _ h
def f_X12_sort_63 (x1 : Int32) (x2 : Int32) : Nat → zM → Int32 → Int32 → Option (Int32 × zM)
  | 0, _, _, _ => none
  | n + 1, M, x3, x4 => zg (zin (0 : Int32) 47) (if (M.1 28 (0 : Int32).toNatClampNeg) ≤ x4 then (some (x3, M)) else (zg (zin ((2 : Int32) + x4) 47) (if (M.1 28 ((2 : Int32) + x4).toNatClampNeg) = x1 then (f_X12_sort_93 x1 x2 (f_X12_sort_63 x1 x2 n) M x4 (1 : Int32) x3) else (f_X12_sort_93 x1 x2 (f_X12_sort_63 x1 x2 n) M x4 (0 : Int32) x3))))
set_option maxRecDepth 20000 in
set_option maxHeartbeats 2000000 in
theorem p_X12_sort_63 {X : zX} {E : zE} {x1 : Int32} {x2 : Int32} {r : Int32} {M' : zM} (C : zC X E cX12_sort 5 RX12 (some .int) 1) : ∀ (n : Nat) (M : zM) (x3 : Int32) (x4 : Int32), f_X12_sort_63 x1 x2 n M x3 x4 = some (r, M') → zW X E (zRQ X E (some (.int r)) M') M 63 [(0, .ref (E.2.1 25)), (1, .int x1), (2, .int x2), (3, .int x3), (4, .int x4)] [] := by
  intro n
  induction n with
  | zero => intro M x3 x4 h; cases h
  | succ n ih =>
    intro M x3 x4 h
    have h : (zg (zin (0 : Int32) 47) (if (M.1 28 (0 : Int32).toNatClampNeg) ≤ x4 then (some (x3, M)) else (zg (zin ((2 : Int32) + x4) 47) (if (M.1 28 ((2 : Int32) + x4).toNatClampNeg) = x1 then (f_X12_sort_93 x1 x2 (f_X12_sort_63 x1 x2 n) M x4 (1 : Int32) x3) else (f_X12_sort_93 x1 x2 (f_X12_sort_63 x1 x2 n) M x4 (0 : Int32) x3))))) = some (r, M') := h
    refine zw_iload C 4 rfl dX12_sort_63 ?_
    refine zw_aload_n C 0 rfl dX12_sort_65 rfl ?_
    refine zw_get (v := .ref (E.2.1 28)) C (by decide) (zc_25 E) rfl zin_X12 6 (by decide) gw_3_201 rfl dX12_sort_66 ?_
    refine zw_iconst (v := (0 : Int32)) C dX12_sort_69 ct_i_0 ?_
    obtain ⟨hi1, h⟩ := zg_e h
    refine zw_iald C zia_28 (zin_e hi1) dX12_sort_70 ?_
    refine zw_icmp_ge (tgt := 101) C dX12_sort_71 (by decide) (fun hb2 => ?_) (fun hb2 => ?_)
    · have h := zt_ hb2 h
      refine zw_iload_n C 3 rfl dX12_sort_101 rfl ?_
      exact zw_ireturnE C h dX12_sort_102
    · have h := zf_ hb2 h
      refine zw_iload_n C 3 rfl dX12_sort_74 rfl ?_
      refine zw_aload_n C 0 rfl dX12_sort_75 rfl ?_
      refine zw_get (v := .ref (E.2.1 28)) C (by decide) (zc_25 E) rfl zin_X12 6 (by decide) gw_3_201 rfl dX12_sort_76 ?_
      refine zw_iconst (v := (2 : Int32)) C dX12_sort_79 ct_i_2 ?_
      refine zw_iload C 4 rfl dX12_sort_80 ?_
      refine zw_iadd C dX12_sort_82 ?_
      obtain ⟨hi3, h⟩ := zg_e h
      refine zw_iald C zia_28 (zin_e hi3) dX12_sort_83 ?_
      refine zw_iload_n C 1 rfl dX12_sort_84 rfl ?_
      refine zw_icmp_ne (tgt := 92) C dX12_sort_85 (by decide) (fun hb4 => ?_) (fun hb4 => ?_)
      · have h := zt_ hb4 h
        refine zw_iconst (v := (1 : Int32)) C dX12_sort_88 ct_i_1 ?_
        refine zw_goto (tgt := 93) C dX12_sort_89 (by decide) ?_
        refine zw_sb [0, 1, 2, 4] rfl ?_
        exact p_X12_sort_93 C (fun _ _ _ h => ih _ _ _ h) h
      · have h := zf_ hb4 h
        refine zw_iconst (v := (0 : Int32)) C dX12_sort_92 ct_i_0 ?_
        refine zw_sb [0, 1, 2, 4] rfl ?_
        exact p_X12_sort_93 C (fun _ _ _ h => ih _ _ _ h) h
def f_X12_sort_0 (x1 : Int32) (x2 : Int32) (M : zM) : Option (Int32 × zM) := zbi (f_X12_in M (x1.toInt64) (0 : Int64) (((M.1 25 3) - (1 : Int32)).toInt64)) (fun r2 M3 => if r2 = 0 then (some ((-1 : Int32), M3)) else (if x2 = (0 : Int32) then (zg (zin x1 6) (some (M3.1 26 x1.toNatClampNeg, M3))) else if x2 = (1 : Int32) then (zg (zin x1 6) (some (M3.1 27 x1.toNatClampNeg, M3))) else if x2 = (2 : Int32) then (f_X12_sort_63 x1 x2 zFU M3 (0 : Int32) (0 : Int32)) else (some ((-1 : Int32), M3))))
set_option maxRecDepth 20000 in
set_option maxHeartbeats 2000000 in
theorem p_X12_sort_0 {X : zX} {E : zE} {x1 : Int32} {x2 : Int32} {r : Int32} {M' : zM} (C : zC X E cX12_sort 5 RX12 (some .int) 1) {M : zM} (h : f_X12_sort_0 x1 x2 M = some (r, M')) : zW X E (zRQ X E (some (.int r)) M') M 0 [(0, .ref (E.2.1 25)), (1, .int x1), (2, .int x2)] [] := by
  have h : (zbi (f_X12_in M (x1.toInt64) (0 : Int64) (((M.1 25 3) - (1 : Int32)).toInt64)) (fun r2 M3 => if r2 = 0 then (some ((-1 : Int32), M3)) else (if x2 = (0 : Int32) then (zg (zin x1 6) (some (M3.1 26 x1.toNatClampNeg, M3))) else if x2 = (1 : Int32) then (zg (zin x1 6) (some (M3.1 27 x1.toNatClampNeg, M3))) else if x2 = (2 : Int32) then (f_X12_sort_63 x1 x2 zFU M3 (0 : Int32) (0 : Int32)) else (some ((-1 : Int32), M3))))) = some (r, M') := h
  refine zw_iload_n C 1 rfl dX12_sort_0 rfl ?_
  refine zw_i2l C dX12_sort_1 ?_
  refine zw_lconst (v := (0 : Int64)) C dX12_sort_2 rfl ?_
  refine zw_aload_n C 0 rfl dX12_sort_3 rfl ?_
  refine zw_get (v := .int (M.1 25 3)) C (by decide) (zc_25 E) rfl zin_X12 3 (by decide) gw_3_198 rfl dX12_sort_4 ?_
  refine zw_iconst (v := (1 : Int32)) C dX12_sort_7 ct_i_1 ?_
  refine zw_isub C dX12_sort_8 ?_
  refine zw_i2l C dX12_sort_9 ?_
  obtain ⟨r2, M3, hq1, h⟩ := zbi_e h
  refine zw_callSi (As := [.long (x1.toInt64), .long (0 : Int64), .long (((M.1 25 3) - (1 : Int32)).toInt64)]) (st := []) C (m_X12_in C.2.2.2.2.2.2.2.1 hq1) ks_X12_in gw_4_42 (by decide) rfl rfl (Nat.le_of_ble_eq_true rfl) dX12_sort_10 ?_
  refine zw_if_ne (tgt := 18) C dX12_sort_13 (by decide) (fun hb4 => ?_) (fun hb4 => ?_)
  · have h := zt_ hb4 h
    refine zw_iconst (v := (-1 : Int32)) C dX12_sort_16 ct_i_m1 ?_
    exact zw_ireturnE C h dX12_sort_17
  · have h := zf_ hb4 h
    refine zw_iload_n C 2 rfl dX12_sort_18 rfl ?_
    by_cases hb5 : x2 = (0 : Int32)
    · have h := zt_ hb5 h
      refine zw_tabIn (v := (0 : Int32)) (tgt := 44) C hb5 dX12_sort_19 (by decide) (by decide) rfl (by decide) ?_
      refine zw_aload_n C 0 rfl dX12_sort_44 rfl ?_
      refine zw_get (v := .ref (E.2.1 26)) C (by decide) (zc_25 E) rfl zin_X12 4 (by decide) gw_3_199 rfl dX12_sort_45 ?_
      refine zw_iload_n C 1 rfl dX12_sort_48 rfl ?_
      obtain ⟨hi6, h⟩ := zg_e h
      refine zw_iald C zia_26 (zin_e hi6) dX12_sort_49 ?_
      exact zw_ireturnE C h dX12_sort_50
    have h := zf_ hb5 h
    by_cases hb7 : x2 = (1 : Int32)
    · have h := zt_ hb7 h
      refine zw_tabIn (v := (1 : Int32)) (tgt := 51) C hb7 dX12_sort_19 (by decide) (by decide) rfl (by decide) ?_
      refine zw_aload_n C 0 rfl dX12_sort_51 rfl ?_
      refine zw_get (v := .ref (E.2.1 27)) C (by decide) (zc_25 E) rfl zin_X12 5 (by decide) gw_3_200 rfl dX12_sort_52 ?_
      refine zw_iload_n C 1 rfl dX12_sort_55 rfl ?_
      obtain ⟨hi8, h⟩ := zg_e h
      refine zw_iald C zia_27 (zin_e hi8) dX12_sort_56 ?_
      exact zw_ireturnE C h dX12_sort_57
    have h := zf_ hb7 h
    by_cases hb9 : x2 = (2 : Int32)
    · have h := zt_ hb9 h
      refine zw_tabIn (v := (2 : Int32)) (tgt := 58) C hb9 dX12_sort_19 (by decide) (by decide) rfl (by decide) ?_
      refine zw_iconst (v := (0 : Int32)) C dX12_sort_58 ct_i_0 ?_
      refine zw_istore_n (lv' := [(3, .int (0 : Int32)), (0, .ref (E.2.1 25)), (1, .int x1), (2, .int x2)]) C dX12_sort_59 rfl (by decide) rfl ?_
      refine zw_iconst (v := (0 : Int32)) C dX12_sort_60 ct_i_0 ?_
      refine zw_istore (lv' := [(4, .int (0 : Int32)), (3, .int (0 : Int32)), (0, .ref (E.2.1 25)), (1, .int x1), (2, .int x2)]) C dX12_sort_61 (by decide) rfl ?_
      refine zw_sb [2, 3, 4, 1, 0] rfl ?_
      exact p_X12_sort_63 C zFU _ _ _ h
    have h := zf_ hb9 h
    refine zw_tabOut (tgt := 103) C (by have e0 := lv_neT hb5 (show (0 : Int32).toInt = 0 by decide); have e1 := lv_neT hb7 (show (1 : Int32).toInt = 1 by decide); have e2 := lv_neT hb9 (show (2 : Int32).toInt = 2 by decide); omega) dX12_sort_19 (by decide) ?_
    refine zw_iconst (v := (-1 : Int32)) C dX12_sort_103 ct_i_m1 ?_
    exact zw_ireturnE C h dX12_sort_104
def f_X12_sort (M : zM) (x1 : Int32) (x2 : Int32) : Option (Int32 × zM) := f_X12_sort_0 x1 x2 M
theorem m_X12_sort {l : Launch} {E : zE} (hI : zI E) {M M' : zM} {x1 : Int32} {x2 : Int32} {r : Int32} (h : f_X12_sort M x1 x2 = some (r, M')) : zMet l E yX12_sort cX12_sort 5 (some .int) 1 [.ref (E.2.1 25), .int x1, .int x2] M M' (some (.int r)) := zm_of hI (by decide) (Nat.le_of_ble_eq_true rfl) (fun X _ C => p_X12_sort_0 C h)
theorem kv_X12_sort : zKV yX12_sort cX12_sort 5 (some .int) 2 := ⟨⟨gw_4_99, gw_4_100, gw_1_13, gw_4_101⟩, ⟨by decide, by decide, by decide +kernel⟩, by decide⟩
-- WingDoorModel.goer(II)I, 66 instructions, depth 6
def f_X12_goer_0 (x1 : Int32) (x2 : Int32) (M : zM) : Option (Int32 × zM) := zbi (f_X12_isGoer M x1) (fun r2 M3 => if r2 = 0 then (some ((-1 : Int32), M3)) else (if x2 = (0 : Int32) then (zg (zin ((2 : Int32) + x1) 47) (some (M3.1 28 ((2 : Int32) + x1).toNatClampNeg, M3))) else if x2 = (1 : Int32) then (zg (zin ((11 : Int32) + x1) 47) (some (M3.1 28 ((11 : Int32) + x1).toNatClampNeg, M3))) else if x2 = (2 : Int32) then (zg (zin ((20 : Int32) + x1) 47) (some (M3.1 28 ((20 : Int32) + x1).toNatClampNeg, M3))) else if x2 = (3 : Int32) then (zg (zin ((20 : Int32) + x1) 47) (if (M3.1 28 ((20 : Int32) + x1).toNatClampNeg) = (1 : Int32) then (zg (zin ((29 : Int32) + x1) 47) (some (M3.1 28 ((29 : Int32) + x1).toNatClampNeg, M3))) else (some ((-9 : Int32), M3)))) else if x2 = (4 : Int32) then (zg (zin ((20 : Int32) + x1) 47) (if (M3.1 28 ((20 : Int32) + x1).toNatClampNeg) = 0 then (zbi (f_X12_aheadOf M3 28 x1) (fun r19 M20 => some (r19, M20))) else (some ((-9 : Int32), M3)))) else if x2 = (5 : Int32) then (zbi (f_X12_when M3 x1) (fun r23 M24 => some (r23, M24))) else (some ((-1 : Int32), M3))))
set_option maxRecDepth 20000 in
set_option maxHeartbeats 2000000 in
theorem p_X12_goer_0 {X : zX} {E : zE} {x1 : Int32} {x2 : Int32} {r : Int32} {M' : zM} (C : zC X E cX12_goer 3 RX12 (some .int) 6) {M : zM} (h : f_X12_goer_0 x1 x2 M = some (r, M')) : zW X E (zRQ X E (some (.int r)) M') M 0 [(0, .ref (E.2.1 25)), (1, .int x1), (2, .int x2)] [] := by
  have h : (zbi (f_X12_isGoer M x1) (fun r2 M3 => if r2 = 0 then (some ((-1 : Int32), M3)) else (if x2 = (0 : Int32) then (zg (zin ((2 : Int32) + x1) 47) (some (M3.1 28 ((2 : Int32) + x1).toNatClampNeg, M3))) else if x2 = (1 : Int32) then (zg (zin ((11 : Int32) + x1) 47) (some (M3.1 28 ((11 : Int32) + x1).toNatClampNeg, M3))) else if x2 = (2 : Int32) then (zg (zin ((20 : Int32) + x1) 47) (some (M3.1 28 ((20 : Int32) + x1).toNatClampNeg, M3))) else if x2 = (3 : Int32) then (zg (zin ((20 : Int32) + x1) 47) (if (M3.1 28 ((20 : Int32) + x1).toNatClampNeg) = (1 : Int32) then (zg (zin ((29 : Int32) + x1) 47) (some (M3.1 28 ((29 : Int32) + x1).toNatClampNeg, M3))) else (some ((-9 : Int32), M3)))) else if x2 = (4 : Int32) then (zg (zin ((20 : Int32) + x1) 47) (if (M3.1 28 ((20 : Int32) + x1).toNatClampNeg) = 0 then (zbi (f_X12_aheadOf M3 28 x1) (fun r19 M20 => some (r19, M20))) else (some ((-9 : Int32), M3)))) else if x2 = (5 : Int32) then (zbi (f_X12_when M3 x1) (fun r23 M24 => some (r23, M24))) else (some ((-1 : Int32), M3))))) = some (r, M') := h
  refine zw_aload_n C 0 rfl dX12_goer_0 rfl ?_
  refine zw_iload_n C 1 rfl dX12_goer_1 rfl ?_
  obtain ⟨r2, M3, hq1, h⟩ := zbi_e h
  refine zw_callVi (As := [.int x1]) (st := []) C (m_X12_isGoer C.2.2.2.2.2.2.2.1 hq1) kv_X12_isGoer gw_4_106 (by decide) (by decide) (zc_25 E) rfl rfl rfl rfl (Nat.le_of_ble_eq_true rfl) dX12_goer_2 ?_
  refine zw_if_ne (tgt := 10) C dX12_goer_5 (by decide) (fun hb4 => ?_) (fun hb4 => ?_)
  · have h := zt_ hb4 h
    refine zw_iconst (v := (-1 : Int32)) C dX12_goer_8 ct_i_m1 ?_
    exact zw_ireturnE C h dX12_goer_9
  · have h := zf_ hb4 h
    refine zw_iload_n C 2 rfl dX12_goer_10 rfl ?_
    by_cases hb5 : x2 = (0 : Int32)
    · have h := zt_ hb5 h
      refine zw_tabIn (v := (0 : Int32)) (tgt := 48) C hb5 dX12_goer_11 (by decide) (by decide) rfl (by decide) ?_
      refine zw_aload_n C 0 rfl dX12_goer_48 rfl ?_
      refine zw_get (v := .ref (E.2.1 28)) C (by decide) (zc_25 E) rfl zin_X12 6 (by decide) gw_3_201 rfl dX12_goer_49 ?_
      refine zw_iconst (v := (2 : Int32)) C dX12_goer_52 ct_i_2 ?_
      refine zw_iload_n C 1 rfl dX12_goer_53 rfl ?_
      refine zw_iadd C dX12_goer_54 ?_
      obtain ⟨hi6, h⟩ := zg_e h
      refine zw_iald C zia_28 (zin_e hi6) dX12_goer_55 ?_
      exact zw_ireturnE C h dX12_goer_56
    have h := zf_ hb5 h
    by_cases hb7 : x2 = (1 : Int32)
    · have h := zt_ hb7 h
      refine zw_tabIn (v := (1 : Int32)) (tgt := 57) C hb7 dX12_goer_11 (by decide) (by decide) rfl (by decide) ?_
      refine zw_aload_n C 0 rfl dX12_goer_57 rfl ?_
      refine zw_get (v := .ref (E.2.1 28)) C (by decide) (zc_25 E) rfl zin_X12 6 (by decide) gw_3_201 rfl dX12_goer_58 ?_
      refine zw_bipush (v := (11 : Int32)) C dX12_goer_61 ct_b_11 ?_
      refine zw_iload_n C 1 rfl dX12_goer_63 rfl ?_
      refine zw_iadd C dX12_goer_64 ?_
      obtain ⟨hi8, h⟩ := zg_e h
      refine zw_iald C zia_28 (zin_e hi8) dX12_goer_65 ?_
      exact zw_ireturnE C h dX12_goer_66
    have h := zf_ hb7 h
    by_cases hb9 : x2 = (2 : Int32)
    · have h := zt_ hb9 h
      refine zw_tabIn (v := (2 : Int32)) (tgt := 67) C hb9 dX12_goer_11 (by decide) (by decide) rfl (by decide) ?_
      refine zw_aload_n C 0 rfl dX12_goer_67 rfl ?_
      refine zw_get (v := .ref (E.2.1 28)) C (by decide) (zc_25 E) rfl zin_X12 6 (by decide) gw_3_201 rfl dX12_goer_68 ?_
      refine zw_bipush (v := (20 : Int32)) C dX12_goer_71 ct_b_20 ?_
      refine zw_iload_n C 1 rfl dX12_goer_73 rfl ?_
      refine zw_iadd C dX12_goer_74 ?_
      obtain ⟨hi10, h⟩ := zg_e h
      refine zw_iald C zia_28 (zin_e hi10) dX12_goer_75 ?_
      exact zw_ireturnE C h dX12_goer_76
    have h := zf_ hb9 h
    by_cases hb11 : x2 = (3 : Int32)
    · have h := zt_ hb11 h
      refine zw_tabIn (v := (3 : Int32)) (tgt := 77) C hb11 dX12_goer_11 (by decide) (by decide) rfl (by decide) ?_
      refine zw_aload_n C 0 rfl dX12_goer_77 rfl ?_
      refine zw_get (v := .ref (E.2.1 28)) C (by decide) (zc_25 E) rfl zin_X12 6 (by decide) gw_3_201 rfl dX12_goer_78 ?_
      refine zw_bipush (v := (20 : Int32)) C dX12_goer_81 ct_b_20 ?_
      refine zw_iload_n C 1 rfl dX12_goer_83 rfl ?_
      refine zw_iadd C dX12_goer_84 ?_
      obtain ⟨hi12, h⟩ := zg_e h
      refine zw_iald C zia_28 (zin_e hi12) dX12_goer_85 ?_
      refine zw_iconst (v := (1 : Int32)) C dX12_goer_86 ct_i_1 ?_
      refine zw_icmp_ne (tgt := 102) C dX12_goer_87 (by decide) (fun hb13 => ?_) (fun hb13 => ?_)
      · have h := zt_ hb13 h
        refine zw_aload_n C 0 rfl dX12_goer_90 rfl ?_
        refine zw_get (v := .ref (E.2.1 28)) C (by decide) (zc_25 E) rfl zin_X12 6 (by decide) gw_3_201 rfl dX12_goer_91 ?_
        refine zw_bipush (v := (29 : Int32)) C dX12_goer_94 ct_b_29 ?_
        refine zw_iload_n C 1 rfl dX12_goer_96 rfl ?_
        refine zw_iadd C dX12_goer_97 ?_
        obtain ⟨hi14, h⟩ := zg_e h
        refine zw_iald C zia_28 (zin_e hi14) dX12_goer_98 ?_
        refine zw_goto (tgt := 104) C dX12_goer_99 (by decide) ?_
        exact zw_ireturnE C h dX12_goer_104
      · have h := zf_ hb13 h
        refine zw_bipush (v := (-9 : Int32)) C dX12_goer_102 ct_b_m9 ?_
        exact zw_ireturnE C h dX12_goer_104
    have h := zf_ hb11 h
    by_cases hb15 : x2 = (4 : Int32)
    · have h := zt_ hb15 h
      refine zw_tabIn (v := (4 : Int32)) (tgt := 105) C hb15 dX12_goer_11 (by decide) (by decide) rfl (by decide) ?_
      refine zw_aload_n C 0 rfl dX12_goer_105 rfl ?_
      refine zw_get (v := .ref (E.2.1 28)) C (by decide) (zc_25 E) rfl zin_X12 6 (by decide) gw_3_201 rfl dX12_goer_106 ?_
      refine zw_bipush (v := (20 : Int32)) C dX12_goer_109 ct_b_20 ?_
      refine zw_iload_n C 1 rfl dX12_goer_111 rfl ?_
      refine zw_iadd C dX12_goer_112 ?_
      obtain ⟨hi16, h⟩ := zg_e h
      refine zw_iald C zia_28 (zin_e hi16) dX12_goer_113 ?_
      refine zw_if_ne (tgt := 128) C dX12_goer_114 (by decide) (fun hb17 => ?_) (fun hb17 => ?_)
      · have h := zt_ hb17 h
        refine zw_aload_n C 0 rfl dX12_goer_117 rfl ?_
        refine zw_get (v := .ref (E.2.1 28)) C (by decide) (zc_25 E) rfl zin_X12 6 (by decide) gw_3_201 rfl dX12_goer_118 ?_
        refine zw_iload_n C 1 rfl dX12_goer_121 rfl ?_
        obtain ⟨r19, M20, hq18, h⟩ := zbi_e h
        refine zw_callSi (As := [.ref (E.2.1 28), .int x1]) (st := []) C (m_X12_aheadOf C.2.2.2.2.2.2.2.1 zia_28 hq18) ks_X12_aheadOf gw_4_110 (by decide) rfl rfl (Nat.le_of_ble_eq_true rfl) dX12_goer_122 ?_
        refine zw_goto (tgt := 130) C dX12_goer_125 (by decide) ?_
        exact zw_ireturnE C h dX12_goer_130
      · have h := zf_ hb17 h
        refine zw_bipush (v := (-9 : Int32)) C dX12_goer_128 ct_b_m9 ?_
        exact zw_ireturnE C h dX12_goer_130
    have h := zf_ hb15 h
    by_cases hb21 : x2 = (5 : Int32)
    · have h := zt_ hb21 h
      refine zw_tabIn (v := (5 : Int32)) (tgt := 131) C hb21 dX12_goer_11 (by decide) (by decide) rfl (by decide) ?_
      refine zw_aload_n C 0 rfl dX12_goer_131 rfl ?_
      refine zw_iload_n C 1 rfl dX12_goer_132 rfl ?_
      obtain ⟨r23, M24, hq22, h⟩ := zbi_e h
      refine zw_callVi (As := [.int x1]) (st := []) C (m_X12_when C.2.2.2.2.2.2.2.1 hq22) kv_X12_when gw_4_113 (by decide) (by decide) (zc_25 E) rfl rfl rfl rfl (Nat.le_of_ble_eq_true rfl) dX12_goer_133 ?_
      exact zw_ireturnE C h dX12_goer_136
    have h := zf_ hb21 h
    refine zw_tabOut (tgt := 137) C (by have e0 := lv_neT hb5 (show (0 : Int32).toInt = 0 by decide); have e1 := lv_neT hb7 (show (1 : Int32).toInt = 1 by decide); have e2 := lv_neT hb9 (show (2 : Int32).toInt = 2 by decide); have e3 := lv_neT hb11 (show (3 : Int32).toInt = 3 by decide); have e4 := lv_neT hb15 (show (4 : Int32).toInt = 4 by decide); have e5 := lv_neT hb21 (show (5 : Int32).toInt = 5 by decide); omega) dX12_goer_11 (by decide) ?_
    refine zw_iconst (v := (-1 : Int32)) C dX12_goer_137 ct_i_m1 ?_
    exact zw_ireturnE C h dX12_goer_138
def f_X12_goer (M : zM) (x1 : Int32) (x2 : Int32) : Option (Int32 × zM) := f_X12_goer_0 x1 x2 M
theorem m_X12_goer {l : Launch} {E : zE} (hI : zI E) {M M' : zM} {x1 : Int32} {x2 : Int32} {r : Int32} (h : f_X12_goer M x1 x2 = some (r, M')) : zMet l E yX12_goer cX12_goer 3 (some .int) 6 [.ref (E.2.1 25), .int x1, .int x2] M M' (some (.int r)) := zm_of hI (by decide) (Nat.le_of_ble_eq_true rfl) (fun X _ C => p_X12_goer_0 C h)
theorem kv_X12_goer : zKV yX12_goer cX12_goer 3 (some .int) 2 := ⟨⟨gw_4_103, gw_4_104, gw_1_13, gw_4_105⟩, ⟨by decide, by decide, by decide +kernel⟩, by decide⟩
-- WingDoorModel.room(II)I, 28 instructions, depth 2
def f_X12_room_0 (x1 : Int32) (x2 : Int32) (M : zM) : Option (Int32 × zM) := zbi (f_X12_in M (x1.toInt64) (0 : Int64) (((M.1 25 0) - (1 : Int32)).toInt64)) (fun r2 M3 => if r2 = 0 then (some ((-1 : Int32), M3)) else (zbi (f_X12_isBit M3 x2) (fun r6 M7 => if r6 = 0 then (some ((-1 : Int32), M7)) else (if x2 = 0 then (zbi (f_X12_inRoom M7 28 x1) (fun r11 M12 => some (r11, M12))) else (zbi (f_X12_bulkIn M7 28 x1) (fun r14 M15 => some (r14, M15)))))))
set_option maxRecDepth 20000 in
set_option maxHeartbeats 2000000 in
theorem p_X12_room_0 {X : zX} {E : zE} {x1 : Int32} {x2 : Int32} {r : Int32} {M' : zM} (C : zC X E cX12_room 3 RX12 (some .int) 2) {M : zM} (h : f_X12_room_0 x1 x2 M = some (r, M')) : zW X E (zRQ X E (some (.int r)) M') M 0 [(0, .ref (E.2.1 25)), (1, .int x1), (2, .int x2)] [] := by
  have h : (zbi (f_X12_in M (x1.toInt64) (0 : Int64) (((M.1 25 0) - (1 : Int32)).toInt64)) (fun r2 M3 => if r2 = 0 then (some ((-1 : Int32), M3)) else (zbi (f_X12_isBit M3 x2) (fun r6 M7 => if r6 = 0 then (some ((-1 : Int32), M7)) else (if x2 = 0 then (zbi (f_X12_inRoom M7 28 x1) (fun r11 M12 => some (r11, M12))) else (zbi (f_X12_bulkIn M7 28 x1) (fun r14 M15 => some (r14, M15)))))))) = some (r, M') := h
  refine zw_iload_n C 1 rfl dX12_room_0 rfl ?_
  refine zw_i2l C dX12_room_1 ?_
  refine zw_lconst (v := (0 : Int64)) C dX12_room_2 rfl ?_
  refine zw_aload_n C 0 rfl dX12_room_3 rfl ?_
  refine zw_get (v := .int (M.1 25 0)) C (by decide) (zc_25 E) rfl zin_X12 0 (by decide) gw_3_195 rfl dX12_room_4 ?_
  refine zw_iconst (v := (1 : Int32)) C dX12_room_7 ct_i_1 ?_
  refine zw_isub C dX12_room_8 ?_
  refine zw_i2l C dX12_room_9 ?_
  obtain ⟨r2, M3, hq1, h⟩ := zbi_e h
  refine zw_callSi (As := [.long (x1.toInt64), .long (0 : Int64), .long (((M.1 25 0) - (1 : Int32)).toInt64)]) (st := []) C (m_X12_in C.2.2.2.2.2.2.2.1 hq1) ks_X12_in gw_4_42 (by decide) rfl rfl (Nat.le_of_ble_eq_true rfl) dX12_room_10 ?_
  refine zw_if_eq (tgt := 23) C dX12_room_13 (by decide) (fun hb4 => ?_) (fun hb4 => ?_)
  · have h := zt_ hb4 h
    refine zw_iconst (v := (-1 : Int32)) C dX12_room_23 ct_i_m1 ?_
    exact zw_ireturnE C h dX12_room_24
  · have h := zf_ hb4 h
    refine zw_iload_n C 2 rfl dX12_room_16 rfl ?_
    obtain ⟨r6, M7, hq5, h⟩ := zbi_e h
    refine zw_callSi (As := [.int x2]) (st := []) C (m_X12_isBit C.2.2.2.2.2.2.2.1 hq5) ks_X12_isBit gw_4_176 (by decide) rfl rfl (Nat.le_of_ble_eq_true rfl) dX12_room_17 ?_
    refine zw_if_ne (tgt := 25) C dX12_room_20 (by decide) (fun hb8 => ?_) (fun hb8 => ?_)
    · have h := zt_ hb8 h
      refine zw_iconst (v := (-1 : Int32)) C dX12_room_23 ct_i_m1 ?_
      exact zw_ireturnE C h dX12_room_24
    · have h := zf_ hb8 h
      refine zw_iload_n C 2 rfl dX12_room_25 rfl ?_
      refine zw_if_ne (tgt := 40) C dX12_room_26 (by decide) (fun hb9 => ?_) (fun hb9 => ?_)
      · have h := zt_ hb9 h
        refine zw_aload_n C 0 rfl dX12_room_29 rfl ?_
        refine zw_get (v := .ref (E.2.1 28)) C (by decide) (zc_25 E) rfl zin_X12 6 (by decide) gw_3_201 rfl dX12_room_30 ?_
        refine zw_iload_n C 1 rfl dX12_room_33 rfl ?_
        obtain ⟨r11, M12, hq10, h⟩ := zbi_e h
        refine zw_callSi (As := [.ref (E.2.1 28), .int x1]) (st := []) C (m_X12_inRoom C.2.2.2.2.2.2.2.1 zia_28 hq10) ks_X12_inRoom gw_4_162 (by decide) rfl rfl (Nat.le_of_ble_eq_true rfl) dX12_room_34 ?_
        refine zw_goto (tgt := 49) C dX12_room_37 (by decide) ?_
        exact zw_ireturnE C h dX12_room_49
      · have h := zf_ hb9 h
        refine zw_aload_n C 0 rfl dX12_room_40 rfl ?_
        refine zw_aload_n C 0 rfl dX12_room_41 rfl ?_
        refine zw_get (v := .ref (E.2.1 28)) C (by decide) (zc_25 E) rfl zin_X12 6 (by decide) gw_3_201 rfl dX12_room_42 ?_
        refine zw_iload_n C 1 rfl dX12_room_45 rfl ?_
        obtain ⟨r14, M15, hq13, h⟩ := zbi_e h
        refine zw_callVi (As := [.ref (E.2.1 28), .int x1]) (st := []) C (m_X12_bulkIn C.2.2.2.2.2.2.2.1 zia_28 hq13) kv_X12_bulkIn gw_4_158 (by decide) (by decide) (zc_25 E) rfl rfl rfl rfl (Nat.le_of_ble_eq_true rfl) dX12_room_46 ?_
        exact zw_ireturnE C h dX12_room_49
def f_X12_room (M : zM) (x1 : Int32) (x2 : Int32) : Option (Int32 × zM) := f_X12_room_0 x1 x2 M
theorem m_X12_room {l : Launch} {E : zE} (hI : zI E) {M M' : zM} {x1 : Int32} {x2 : Int32} {r : Int32} (h : f_X12_room M x1 x2 = some (r, M')) : zMet l E yX12_room cX12_room 3 (some .int) 2 [.ref (E.2.1 25), .int x1, .int x2] M M' (some (.int r)) := zm_of hI (by decide) (Nat.le_of_ble_eq_true rfl) (fun X _ C => p_X12_room_0 C h)
theorem kv_X12_room : zKV yX12_room cX12_room 3 (some .int) 2 := ⟨⟨gw_4_173, gw_4_174, gw_1_13, gw_4_175⟩, ⟨by decide, by decide, by decide +kernel⟩, by decide⟩
-- WingDoorModel.now(I)I, 38 instructions, depth 5
def f_X12_now_0 (x1 : Int32) (M : zM) : Option (Int32 × zM) := if x1 = (0 : Int32) then (zg (zin (1 : Int32) 47) (some (M.1 28 (1 : Int32).toNatClampNeg, M))) else if x1 = (1 : Int32) then (zbi (f_X12_loadOn M 28) (fun r5 M6 => some (r5, M6))) else if x1 = (2 : Int32) then (zbi (f_X12_dragOn M 28) (fun r9 M10 => some (r9, M10))) else if x1 = (3 : Int32) then (zbi (f_X12_those M 28 (0 : Int32)) (fun r13 M14 => some (r13, M14))) else if x1 = (4 : Int32) then (zbi (f_X12_those M 28 (2 : Int32)) (fun r17 M18 => some (r17, M18))) else if x1 = (5 : Int32) then (zbi (f_X12_sticksFirst M) (fun r21 M22 => some (r21, M22))) else if x1 = (6 : Int32) then (zbi (f_X12_allOut M) (fun r25 M26 => some (r25, M26))) else if x1 = (7 : Int32) then (some (M.1 25 9, M)) else (some ((-1 : Int32), M))
set_option maxRecDepth 20000 in
set_option maxHeartbeats 2000000 in
theorem p_X12_now_0 {X : zX} {E : zE} {x1 : Int32} {r : Int32} {M' : zM} (C : zC X E cX12_now 2 RX12 (some .int) 5) {M : zM} (h : f_X12_now_0 x1 M = some (r, M')) : zW X E (zRQ X E (some (.int r)) M') M 0 [(0, .ref (E.2.1 25)), (1, .int x1)] [] := by
  have h : (if x1 = (0 : Int32) then (zg (zin (1 : Int32) 47) (some (M.1 28 (1 : Int32).toNatClampNeg, M))) else if x1 = (1 : Int32) then (zbi (f_X12_loadOn M 28) (fun r5 M6 => some (r5, M6))) else if x1 = (2 : Int32) then (zbi (f_X12_dragOn M 28) (fun r9 M10 => some (r9, M10))) else if x1 = (3 : Int32) then (zbi (f_X12_those M 28 (0 : Int32)) (fun r13 M14 => some (r13, M14))) else if x1 = (4 : Int32) then (zbi (f_X12_those M 28 (2 : Int32)) (fun r17 M18 => some (r17, M18))) else if x1 = (5 : Int32) then (zbi (f_X12_sticksFirst M) (fun r21 M22 => some (r21, M22))) else if x1 = (6 : Int32) then (zbi (f_X12_allOut M) (fun r25 M26 => some (r25, M26))) else if x1 = (7 : Int32) then (some (M.1 25 9, M)) else (some ((-1 : Int32), M))) = some (r, M') := h
  refine zw_iload_n C 1 rfl dX12_now_0 rfl ?_
  by_cases hb1 : x1 = (0 : Int32)
  · have h := zt_ hb1 h
    refine zw_tabIn (v := (0 : Int32)) (tgt := 48) C hb1 dX12_now_1 (by decide) (by decide) rfl (by decide) ?_
    refine zw_aload_n C 0 rfl dX12_now_48 rfl ?_
    refine zw_get (v := .ref (E.2.1 28)) C (by decide) (zc_25 E) rfl zin_X12 6 (by decide) gw_3_201 rfl dX12_now_49 ?_
    refine zw_iconst (v := (1 : Int32)) C dX12_now_52 ct_i_1 ?_
    obtain ⟨hi2, h⟩ := zg_e h
    refine zw_iald C zia_28 (zin_e hi2) dX12_now_53 ?_
    exact zw_ireturnE C h dX12_now_54
  have h := zf_ hb1 h
  by_cases hb3 : x1 = (1 : Int32)
  · have h := zt_ hb3 h
    refine zw_tabIn (v := (1 : Int32)) (tgt := 55) C hb3 dX12_now_1 (by decide) (by decide) rfl (by decide) ?_
    refine zw_aload_n C 0 rfl dX12_now_55 rfl ?_
    refine zw_aload_n C 0 rfl dX12_now_56 rfl ?_
    refine zw_get (v := .ref (E.2.1 28)) C (by decide) (zc_25 E) rfl zin_X12 6 (by decide) gw_3_201 rfl dX12_now_57 ?_
    obtain ⟨r5, M6, hq4, h⟩ := zbi_e h
    refine zw_callVi (As := [.ref (E.2.1 28)]) (st := []) C (m_X12_loadOn C.2.2.2.2.2.2.2.1 zia_28 hq4) kv_X12_loadOn gw_4_136 (by decide) (by decide) (zc_25 E) rfl rfl rfl rfl (Nat.le_of_ble_eq_true rfl) dX12_now_60 ?_
    exact zw_ireturnE C h dX12_now_63
  have h := zf_ hb3 h
  by_cases hb7 : x1 = (2 : Int32)
  · have h := zt_ hb7 h
    refine zw_tabIn (v := (2 : Int32)) (tgt := 64) C hb7 dX12_now_1 (by decide) (by decide) rfl (by decide) ?_
    refine zw_aload_n C 0 rfl dX12_now_64 rfl ?_
    refine zw_aload_n C 0 rfl dX12_now_65 rfl ?_
    refine zw_get (v := .ref (E.2.1 28)) C (by decide) (zc_25 E) rfl zin_X12 6 (by decide) gw_3_201 rfl dX12_now_66 ?_
    obtain ⟨r9, M10, hq8, h⟩ := zbi_e h
    refine zw_callVi (As := [.ref (E.2.1 28)]) (st := []) C (m_X12_dragOn C.2.2.2.2.2.2.2.1 zia_28 hq8) kv_X12_dragOn gw_4_140 (by decide) (by decide) (zc_25 E) rfl rfl rfl rfl (Nat.le_of_ble_eq_true rfl) dX12_now_69 ?_
    exact zw_ireturnE C h dX12_now_72
  have h := zf_ hb7 h
  by_cases hb11 : x1 = (3 : Int32)
  · have h := zt_ hb11 h
    refine zw_tabIn (v := (3 : Int32)) (tgt := 73) C hb11 dX12_now_1 (by decide) (by decide) rfl (by decide) ?_
    refine zw_aload_n C 0 rfl dX12_now_73 rfl ?_
    refine zw_get (v := .ref (E.2.1 28)) C (by decide) (zc_25 E) rfl zin_X12 6 (by decide) gw_3_201 rfl dX12_now_74 ?_
    refine zw_iconst (v := (0 : Int32)) C dX12_now_77 ct_i_0 ?_
    obtain ⟨r13, M14, hq12, h⟩ := zbi_e h
    refine zw_callSi (As := [.ref (E.2.1 28), .int (0 : Int32)]) (st := []) C (m_X12_those C.2.2.2.2.2.2.2.1 zia_28 hq12) ks_X12_those gw_4_133 (by decide) rfl rfl (Nat.le_of_ble_eq_true rfl) dX12_now_78 ?_
    exact zw_ireturnE C h dX12_now_81
  have h := zf_ hb11 h
  by_cases hb15 : x1 = (4 : Int32)
  · have h := zt_ hb15 h
    refine zw_tabIn (v := (4 : Int32)) (tgt := 82) C hb15 dX12_now_1 (by decide) (by decide) rfl (by decide) ?_
    refine zw_aload_n C 0 rfl dX12_now_82 rfl ?_
    refine zw_get (v := .ref (E.2.1 28)) C (by decide) (zc_25 E) rfl zin_X12 6 (by decide) gw_3_201 rfl dX12_now_83 ?_
    refine zw_iconst (v := (2 : Int32)) C dX12_now_86 ct_i_2 ?_
    obtain ⟨r17, M18, hq16, h⟩ := zbi_e h
    refine zw_callSi (As := [.ref (E.2.1 28), .int (2 : Int32)]) (st := []) C (m_X12_those C.2.2.2.2.2.2.2.1 zia_28 hq16) ks_X12_those gw_4_133 (by decide) rfl rfl (Nat.le_of_ble_eq_true rfl) dX12_now_87 ?_
    exact zw_ireturnE C h dX12_now_90
  have h := zf_ hb15 h
  by_cases hb19 : x1 = (5 : Int32)
  · have h := zt_ hb19 h
    refine zw_tabIn (v := (5 : Int32)) (tgt := 91) C hb19 dX12_now_1 (by decide) (by decide) rfl (by decide) ?_
    refine zw_aload_n C 0 rfl dX12_now_91 rfl ?_
    obtain ⟨r21, M22, hq20, h⟩ := zbi_e h
    refine zw_callVi (As := []) (st := []) C (m_X12_sticksFirst C.2.2.2.2.2.2.2.1 hq20) kv_X12_sticksFirst gw_4_183 (by decide) (by decide) (zc_25 E) rfl rfl rfl rfl (Nat.le_of_ble_eq_true rfl) dX12_now_92 ?_
    exact zw_ireturnE C h dX12_now_95
  have h := zf_ hb19 h
  by_cases hb23 : x1 = (6 : Int32)
  · have h := zt_ hb23 h
    refine zw_tabIn (v := (6 : Int32)) (tgt := 96) C hb23 dX12_now_1 (by decide) (by decide) rfl (by decide) ?_
    refine zw_aload_n C 0 rfl dX12_now_96 rfl ?_
    obtain ⟨r25, M26, hq24, h⟩ := zbi_e h
    refine zw_callVi (As := []) (st := []) C (m_X12_allOut C.2.2.2.2.2.2.2.1 hq24) kv_X12_allOut gw_4_187 (by decide) (by decide) (zc_25 E) rfl rfl rfl rfl (Nat.le_of_ble_eq_true rfl) dX12_now_97 ?_
    exact zw_ireturnE C h dX12_now_100
  have h := zf_ hb23 h
  by_cases hb27 : x1 = (7 : Int32)
  · have h := zt_ hb27 h
    refine zw_tabIn (v := (7 : Int32)) (tgt := 101) C hb27 dX12_now_1 (by decide) (by decide) rfl (by decide) ?_
    refine zw_aload_n C 0 rfl dX12_now_101 rfl ?_
    refine zw_get (v := .int (M.1 25 9)) C (by decide) (zc_25 E) rfl zin_X12 9 (by decide) gw_3_204 rfl dX12_now_102 ?_
    exact zw_ireturnE C h dX12_now_105
  have h := zf_ hb27 h
  refine zw_tabOut (tgt := 106) C (by have e0 := lv_neT hb1 (show (0 : Int32).toInt = 0 by decide); have e1 := lv_neT hb3 (show (1 : Int32).toInt = 1 by decide); have e2 := lv_neT hb7 (show (2 : Int32).toInt = 2 by decide); have e3 := lv_neT hb11 (show (3 : Int32).toInt = 3 by decide); have e4 := lv_neT hb15 (show (4 : Int32).toInt = 4 by decide); have e5 := lv_neT hb19 (show (5 : Int32).toInt = 5 by decide); have e6 := lv_neT hb23 (show (6 : Int32).toInt = 6 by decide); have e7 := lv_neT hb27 (show (7 : Int32).toInt = 7 by decide); omega) dX12_now_1 (by decide) ?_
  refine zw_iconst (v := (-1 : Int32)) C dX12_now_106 ct_i_m1 ?_
  exact zw_ireturnE C h dX12_now_107
def f_X12_now (M : zM) (x1 : Int32) : Option (Int32 × zM) := f_X12_now_0 x1 M
theorem m_X12_now {l : Launch} {E : zE} (hI : zI E) {M M' : zM} {x1 : Int32} {r : Int32} (h : f_X12_now M x1 = some (r, M')) : zMet l E yX12_now cX12_now 2 (some .int) 5 [.ref (E.2.1 25), .int x1] M M' (some (.int r)) := zm_of hI (by decide) (Nat.le_of_ble_eq_true rfl) (fun X _ C => p_X12_now_0 C h)
theorem kv_X12_now : zKV yX12_now cX12_now 2 (some .int) 1 := ⟨⟨gw_4_180, gw_4_181, gw_1_13, gw_4_182⟩, ⟨by decide, by decide, by decide +kernel⟩, by decide⟩
-- WingDoorModel.notes()V, 45 instructions, depth 1
def f_X12_notes_49 (M : zM) : Option zM := zbv (f_X12_copies M 28 47 (0 : Int32) 30 470 ((47 : Int32) * (M.1 25 9)) (47 : Int32)) (fun M3 => some (zs M3 25 9 ((M3.1 25 9) + (1 : Int32))))
set_option maxRecDepth 20000 in
set_option maxHeartbeats 2000000 in
theorem p_X12_notes_49 {X : zX} {E : zE} {M' : zM} (C : zC X E cX12_notes 2 RX12 none 1) {M : zM} (h : f_X12_notes_49  M = some M') : zW X E (zRQ X E none M') M 49 [(0, .ref (E.2.1 25))] [] := by
  have h : (zbv (f_X12_copies M 28 47 (0 : Int32) 30 470 ((47 : Int32) * (M.1 25 9)) (47 : Int32)) (fun M3 => some (zs M3 25 9 ((M3.1 25 9) + (1 : Int32))))) = some M' := h
  refine zw_aload_n C 0 rfl dX12_notes_49 rfl ?_
  refine zw_get (v := .ref (E.2.1 28)) C (by decide) (zc_25 E) rfl zin_X12 6 (by decide) gw_3_201 rfl dX12_notes_50 ?_
  refine zw_iconst (v := (0 : Int32)) C dX12_notes_53 ct_i_0 ?_
  refine zw_aload_n C 0 rfl dX12_notes_54 rfl ?_
  refine zw_get (v := .ref (E.2.1 30)) C (by decide) (zc_25 E) rfl zin_X12 8 (by decide) gw_3_203 rfl dX12_notes_55 ?_
  refine zw_bipush (v := (47 : Int32)) C dX12_notes_58 ct_b_47 ?_
  refine zw_aload_n C 0 rfl dX12_notes_60 rfl ?_
  refine zw_get (v := .int (M.1 25 9)) C (by decide) (zc_25 E) rfl zin_X12 9 (by decide) gw_3_204 rfl dX12_notes_61 ?_
  refine zw_imul C dX12_notes_64 ?_
  refine zw_bipush (v := (47 : Int32)) C dX12_notes_65 ct_b_47 ?_
  obtain ⟨M3, hq1, h⟩ := zbv_e h
  refine zw_callSv (As := [.ref (E.2.1 28), .int (0 : Int32), .ref (E.2.1 30), .int ((47 : Int32) * (M.1 25 9)), .int (47 : Int32)]) (st := []) C (m_X12_copies C.2.2.2.2.2.2.2.1 zia_28 zia_30 hq1) ks_X12_copies gw_4_95 (by decide) rfl rfl (Nat.le_of_ble_eq_true rfl) dX12_notes_67 ?_
  refine zw_aload_n C 0 rfl dX12_notes_70 rfl ?_
  refine zw_dup C rfl dX12_notes_71 ?_
  refine zw_get (v := .int (M3.1 25 9)) C (by decide) (zc_25 E) rfl zin_X12 9 (by decide) gw_3_204 rfl dX12_notes_72 ?_
  refine zw_iconst (v := (1 : Int32)) C dX12_notes_75 ct_i_1 ?_
  refine zw_iadd C dX12_notes_76 ?_
  refine zw_put (ty := .int) C (by decide) (zc_25 E) rfl zin_X12 tyX12 tyX12_ok nmX12 9 (by decide) gw_3_204 rfl rfl rfl rfl (fun _ _ => Nat.le_of_ble_eq_true rfl) (fun _ _ => rfl) dX12_notes_77 ?_
  exact zw_returnE C h dX12_notes_80
def f_X12_notes_11 : Nat → zM → Int32 → Option zM
  | 0, _, _ => none
  | n + 1, M, x1 => if (423 : Int32) ≤ x1 then (f_X12_notes_49 (zs M 25 9 ((M.1 25 9) - (1 : Int32)))) else (zg (zin (x1 + (47 : Int32)) 470) (zg (zin x1 470) (f_X12_notes_11 n (zs M 30 x1.toNatClampNeg (M.1 30 (x1 + (47 : Int32)).toNatClampNeg)) (x1 + (1 : Int32)))))
set_option maxRecDepth 20000 in
set_option maxHeartbeats 2000000 in
theorem p_X12_notes_11 {X : zX} {E : zE} {M' : zM} (C : zC X E cX12_notes 2 RX12 none 1) : ∀ (n : Nat) (M : zM) (x1 : Int32), f_X12_notes_11  n M x1 = some M' → zW X E (zRQ X E none M') M 11 [(0, .ref (E.2.1 25)), (1, .int x1)] [] := by
  intro n
  induction n with
  | zero => intro M x1 h; cases h
  | succ n ih =>
    intro M x1 h
    have h : (if (423 : Int32) ≤ x1 then (f_X12_notes_49 (zs M 25 9 ((M.1 25 9) - (1 : Int32)))) else (zg (zin (x1 + (47 : Int32)) 470) (zg (zin x1 470) (f_X12_notes_11 n (zs M 30 x1.toNatClampNeg (M.1 30 (x1 + (47 : Int32)).toNatClampNeg)) (x1 + (1 : Int32)))))) = some M' := h
    refine zw_iload_n C 1 rfl dX12_notes_11 rfl ?_
    refine zw_sipush (v := (423 : Int32)) C dX12_notes_12 ct_s_423 ?_
    refine zw_icmp_ge (tgt := 39) C dX12_notes_15 (by decide) (fun hb1 => ?_) (fun hb1 => ?_)
    · have h := zt_ hb1 h
      refine zw_aload_n C 0 rfl dX12_notes_39 rfl ?_
      refine zw_dup C rfl dX12_notes_40 ?_
      refine zw_get (v := .int (M.1 25 9)) C (by decide) (zc_25 E) rfl zin_X12 9 (by decide) gw_3_204 rfl dX12_notes_41 ?_
      refine zw_iconst (v := (1 : Int32)) C dX12_notes_44 ct_i_1 ?_
      refine zw_isub C dX12_notes_45 ?_
      refine zw_put (ty := .int) C (by decide) (zc_25 E) rfl zin_X12 tyX12 tyX12_ok nmX12 9 (by decide) gw_3_204 rfl rfl rfl rfl (fun _ _ => Nat.le_of_ble_eq_true rfl) (fun _ _ => rfl) dX12_notes_46 ?_
      refine zw_sb [0] rfl ?_
      exact p_X12_notes_49 C h
    · have h := zf_ hb1 h
      refine zw_aload_n C 0 rfl dX12_notes_18 rfl ?_
      refine zw_get (v := .ref (E.2.1 30)) C (by decide) (zc_25 E) rfl zin_X12 8 (by decide) gw_3_203 rfl dX12_notes_19 ?_
      refine zw_iload_n C 1 rfl dX12_notes_22 rfl ?_
      refine zw_aload_n C 0 rfl dX12_notes_23 rfl ?_
      refine zw_get (v := .ref (E.2.1 30)) C (by decide) (zc_25 E) rfl zin_X12 8 (by decide) gw_3_203 rfl dX12_notes_24 ?_
      refine zw_iload_n C 1 rfl dX12_notes_27 rfl ?_
      refine zw_bipush (v := (47 : Int32)) C dX12_notes_28 ct_b_47 ?_
      refine zw_iadd C dX12_notes_30 ?_
      obtain ⟨hi2, h⟩ := zg_e h
      refine zw_iald C zia_30 (zin_e hi2) dX12_notes_31 ?_
      obtain ⟨hi3, h⟩ := zg_e h
      refine zw_iast C zia_30 (zin_e hi3) dX12_notes_32 ?_
      refine zw_iinc (lv' := [(1, .int (x1 + (1 : Int32))), (0, .ref (E.2.1 25))]) C 1 rfl dX12_notes_33 (ct_n_1 _) (by decide) rfl ?_
      refine zw_goto (tgt := 11) C dX12_notes_36 (by decide) ?_
      refine zw_sb [1, 0] rfl ?_
      exact ih _ _ h
def f_X12_notes_0 (M : zM) : Option zM := if (M.1 25 9) = (10 : Int32) then (f_X12_notes_11 zFU M (0 : Int32)) else (f_X12_notes_49 M)
set_option maxRecDepth 20000 in
set_option maxHeartbeats 2000000 in
theorem p_X12_notes_0 {X : zX} {E : zE} {M' : zM} (C : zC X E cX12_notes 2 RX12 none 1) {M : zM} (h : f_X12_notes_0  M = some M') : zW X E (zRQ X E none M') M 0 [(0, .ref (E.2.1 25))] [] := by
  have h : (if (M.1 25 9) = (10 : Int32) then (f_X12_notes_11 zFU M (0 : Int32)) else (f_X12_notes_49 M)) = some M' := h
  refine zw_aload_n C 0 rfl dX12_notes_0 rfl ?_
  refine zw_get (v := .int (M.1 25 9)) C (by decide) (zc_25 E) rfl zin_X12 9 (by decide) gw_3_204 rfl dX12_notes_1 ?_
  refine zw_bipush (v := (10 : Int32)) C dX12_notes_4 ct_b_10 ?_
  refine zw_icmp_ne (tgt := 49) C dX12_notes_6 (by decide) (fun hb1 => ?_) (fun hb1 => ?_)
  · have h := zt_ hb1 h
    refine zw_iconst (v := (0 : Int32)) C dX12_notes_9 ct_i_0 ?_
    refine zw_istore_n (lv' := [(1, .int (0 : Int32)), (0, .ref (E.2.1 25))]) C dX12_notes_10 rfl (by decide) rfl ?_
    refine zw_sb [1, 0] rfl ?_
    exact p_X12_notes_11 C zFU _ _ h
  · have h := zf_ hb1 h
    exact p_X12_notes_49 C h
def f_X12_notes (M : zM) : Option zM := f_X12_notes_0 M
theorem m_X12_notes {l : Launch} {E : zE} (hI : zI E) {M M' : zM} (h : f_X12_notes M = some M') : zMet l E yX12_notes cX12_notes 2 none 1 [.ref (E.2.1 25)] M M' none := zm_of hI (by decide) (Nat.le_of_ble_eq_true rfl) (fun X _ C => p_X12_notes_0 C h)
theorem kv_X12_notes : zKV yX12_notes cX12_notes 2 none 0 := ⟨⟨gw_4_197, gs_41, gw_1_13, gw_4_198⟩, ⟨by decide, by decide, by decide +kernel⟩, by decide⟩
-- WingDoorModel.comes(II)I, 107 instructions, depth 3
def f_X12_comes_92 (x1 : Int32) (x2 : Int32) (k56 : zM → Int32 → Int32 → Int32 → Option (Int32 × zM)) (M : zM) (x3 : Int32) (x5 : Int32) (s0 : Int32) : Option (Int32 × zM) := k56 M x3 s0 (x5 + (1 : Int32))
set_option maxRecDepth 20000 in
set_option maxHeartbeats 2000000 in
theorem p_X12_comes_92 {X : zX} {E : zE} {x1 : Int32} {x2 : Int32} {r : Int32} {M' : zM} {k56 : zM → Int32 → Int32 → Int32 → Option (Int32 × zM)} (C : zC X E cX12_comes 6 RX12 (some .int) 3) (hk56 : ∀ (M : zM) (y3 : Int32) (y4 : Int32) (y5 : Int32), k56 M y3 y4 y5 = some (r, M') → zW X E (zRQ X E (some (.int r)) M') M 56 [(0, .ref (E.2.1 25)), (1, .int x1), (2, .int x2), (3, .int y3), (4, .int y4), (5, .int y5)] []) {M : zM} {x3 : Int32} {x5 : Int32} {s0 : Int32} (h : f_X12_comes_92 x1 x2 k56 M x3 x5 s0 = some (r, M')) : zW X E (zRQ X E (some (.int r)) M') M 92 [(0, .ref (E.2.1 25)), (1, .int x1), (2, .int x2), (3, .int x3), (5, .int x5)] [.int s0] := by
  have h : (k56 M x3 s0 (x5 + (1 : Int32))) = some (r, M') := h
  refine zw_istore (lv' := [(4, .int s0), (0, .ref (E.2.1 25)), (1, .int x1), (2, .int x2), (3, .int x3), (5, .int x5)]) C dX12_comes_92 (by decide) rfl ?_
  refine zw_iinc (lv' := [(5, .int (x5 + (1 : Int32))), (4, .int s0), (0, .ref (E.2.1 25)), (1, .int x1), (2, .int x2), (3, .int x3)]) C 5 rfl dX12_comes_94 (ct_n_1 _) (by decide) rfl ?_
  refine zw_goto (tgt := 56) C dX12_comes_97 (by decide) ?_
  refine zw_sb [2, 3, 4, 5, 1, 0] rfl ?_
  exact hk56 _ _ _ _ h
def f_X12_comes_152 (x1 : Int32) (x2 : Int32) (M : zM) (x3 : Int32) : Option (Int32 × zM) := zg (zin (0 : Int32) 47) (zg (zin (0 : Int32) 47) (zbv (f_X12_fills (zs M 28 (0 : Int32).toNatClampNeg ((M.1 28 (0 : Int32).toNatClampNeg) + (1 : Int32))) 28) (fun M5 => some (x3, M5))))
set_option maxRecDepth 20000 in
set_option maxHeartbeats 2000000 in
theorem p_X12_comes_152 {X : zX} {E : zE} {x1 : Int32} {x2 : Int32} {r : Int32} {M' : zM} (C : zC X E cX12_comes 6 RX12 (some .int) 3) {M : zM} {x3 : Int32} (h : f_X12_comes_152 x1 x2 M x3 = some (r, M')) : zW X E (zRQ X E (some (.int r)) M') M 152 [(0, .ref (E.2.1 25)), (1, .int x1), (2, .int x2), (3, .int x3)] [] := by
  have h : (zg (zin (0 : Int32) 47) (zg (zin (0 : Int32) 47) (zbv (f_X12_fills (zs M 28 (0 : Int32).toNatClampNeg ((M.1 28 (0 : Int32).toNatClampNeg) + (1 : Int32))) 28) (fun M5 => some (x3, M5))))) = some (r, M') := h
  refine zw_aload_n C 0 rfl dX12_comes_152 rfl ?_
  refine zw_get (v := .ref (E.2.1 28)) C (by decide) (zc_25 E) rfl zin_X12 6 (by decide) gw_3_201 rfl dX12_comes_153 ?_
  refine zw_iconst (v := (0 : Int32)) C dX12_comes_156 ct_i_0 ?_
  refine zw_dup2 C rfl rfl dX12_comes_157 ?_
  obtain ⟨hi1, h⟩ := zg_e h
  refine zw_iald C zia_28 (zin_e hi1) dX12_comes_158 ?_
  refine zw_iconst (v := (1 : Int32)) C dX12_comes_159 ct_i_1 ?_
  refine zw_iadd C dX12_comes_160 ?_
  obtain ⟨hi2, h⟩ := zg_e h
  refine zw_iast C zia_28 (zin_e hi2) dX12_comes_161 ?_
  refine zw_aload_n C 0 rfl dX12_comes_162 rfl ?_
  refine zw_aload_n C 0 rfl dX12_comes_163 rfl ?_
  refine zw_get (v := .ref (E.2.1 28)) C (by decide) (zc_25 E) rfl zin_X12 6 (by decide) gw_3_201 rfl dX12_comes_164 ?_
  obtain ⟨M5, hq3, h⟩ := zbv_e h
  refine zw_callVv (As := [.ref (E.2.1 28)]) (st := []) C (m_X12_fills C.2.2.2.2.2.2.2.1 zia_28 hq3) kv_X12_fills gw_4_151 (by decide) (by decide) (zc_25 E) rfl rfl rfl rfl (Nat.le_of_ble_eq_true rfl) dX12_comes_167 ?_
  refine zw_iload_n C 3 rfl dX12_comes_170 rfl ?_
  exact zw_ireturnE C h dX12_comes_171
def f_X12_comes_129 (x1 : Int32) (x2 : Int32) (M : zM) (x3 : Int32) (x4 : Int32) : Option (Int32 × zM) := zg (zin ((29 : Int32) + x3) 47) (zg (zin ((38 : Int32) + x3) 47) (f_X12_comes_152 x1 x2 (zs (zs M 28 ((29 : Int32) + x3).toNatClampNeg (0 : Int32)) 28 ((38 : Int32) + x3).toNatClampNeg (x4 + (1 : Int32))) x3))
set_option maxRecDepth 20000 in
set_option maxHeartbeats 2000000 in
theorem p_X12_comes_129 {X : zX} {E : zE} {x1 : Int32} {x2 : Int32} {r : Int32} {M' : zM} (C : zC X E cX12_comes 6 RX12 (some .int) 3) {M : zM} {x3 : Int32} {x4 : Int32} (h : f_X12_comes_129 x1 x2 M x3 x4 = some (r, M')) : zW X E (zRQ X E (some (.int r)) M') M 129 [(0, .ref (E.2.1 25)), (1, .int x1), (2, .int x2), (3, .int x3), (4, .int x4)] [] := by
  have h : (zg (zin ((29 : Int32) + x3) 47) (zg (zin ((38 : Int32) + x3) 47) (f_X12_comes_152 x1 x2 (zs (zs M 28 ((29 : Int32) + x3).toNatClampNeg (0 : Int32)) 28 ((38 : Int32) + x3).toNatClampNeg (x4 + (1 : Int32))) x3))) = some (r, M') := h
  refine zw_aload_n C 0 rfl dX12_comes_129 rfl ?_
  refine zw_get (v := .ref (E.2.1 28)) C (by decide) (zc_25 E) rfl zin_X12 6 (by decide) gw_3_201 rfl dX12_comes_130 ?_
  refine zw_bipush (v := (29 : Int32)) C dX12_comes_133 ct_b_29 ?_
  refine zw_iload_n C 3 rfl dX12_comes_135 rfl ?_
  refine zw_iadd C dX12_comes_136 ?_
  refine zw_iconst (v := (0 : Int32)) C dX12_comes_137 ct_i_0 ?_
  obtain ⟨hi1, h⟩ := zg_e h
  refine zw_iast C zia_28 (zin_e hi1) dX12_comes_138 ?_
  refine zw_aload_n C 0 rfl dX12_comes_139 rfl ?_
  refine zw_get (v := .ref (E.2.1 28)) C (by decide) (zc_25 E) rfl zin_X12 6 (by decide) gw_3_201 rfl dX12_comes_140 ?_
  refine zw_bipush (v := (38 : Int32)) C dX12_comes_143 ct_b_38 ?_
  refine zw_iload_n C 3 rfl dX12_comes_145 rfl ?_
  refine zw_iadd C dX12_comes_146 ?_
  refine zw_iload C 4 rfl dX12_comes_147 ?_
  refine zw_iconst (v := (1 : Int32)) C dX12_comes_149 ct_i_1 ?_
  refine zw_iadd C dX12_comes_150 ?_
  obtain ⟨hi2, h⟩ := zg_e h
  refine zw_iast C zia_28 (zin_e hi2) dX12_comes_151 ?_
  refine zw_sb [0, 1, 2, 3] rfl ?_
  exact p_X12_comes_152 C h
def f_X12_comes_56 (x1 : Int32) (x2 : Int32) : Nat → zM → Int32 → Int32 → Int32 → Option (Int32 × zM)
  | 0, _, _, _, _ => none
  | n + 1, M, x3, x4, x5 => if x3 ≤ x5 then (zg (zin ((2 : Int32) + x3) 47) (zg (zin ((11 : Int32) + x3) 47) (zg (zin ((20 : Int32) + x3) 47) (f_X12_comes_129 x1 x2 (zs (zs (zs M 28 ((2 : Int32) + x3).toNatClampNeg x1) 28 ((11 : Int32) + x3).toNatClampNeg x2) 28 ((20 : Int32) + x3).toNatClampNeg (0 : Int32)) x3 x4)))) else (zg (zin ((38 : Int32) + x5) 47) (if (M.1 28 ((38 : Int32) + x5).toNatClampNeg) ≤ x4 then (f_X12_comes_92 x1 x2 (f_X12_comes_56 x1 x2 n) M x3 x5 x4) else (zg (zin ((38 : Int32) + x5) 47) (f_X12_comes_92 x1 x2 (f_X12_comes_56 x1 x2 n) M x3 x5 (M.1 28 ((38 : Int32) + x5).toNatClampNeg)))))
set_option maxRecDepth 20000 in
set_option maxHeartbeats 2000000 in
theorem p_X12_comes_56 {X : zX} {E : zE} {x1 : Int32} {x2 : Int32} {r : Int32} {M' : zM} (C : zC X E cX12_comes 6 RX12 (some .int) 3) : ∀ (n : Nat) (M : zM) (x3 : Int32) (x4 : Int32) (x5 : Int32), f_X12_comes_56 x1 x2 n M x3 x4 x5 = some (r, M') → zW X E (zRQ X E (some (.int r)) M') M 56 [(0, .ref (E.2.1 25)), (1, .int x1), (2, .int x2), (3, .int x3), (4, .int x4), (5, .int x5)] [] := by
  intro n
  induction n with
  | zero => intro M x3 x4 x5 h; cases h
  | succ n ih =>
    intro M x3 x4 x5 h
    have h : (if x3 ≤ x5 then (zg (zin ((2 : Int32) + x3) 47) (zg (zin ((11 : Int32) + x3) 47) (zg (zin ((20 : Int32) + x3) 47) (f_X12_comes_129 x1 x2 (zs (zs (zs M 28 ((2 : Int32) + x3).toNatClampNeg x1) 28 ((11 : Int32) + x3).toNatClampNeg x2) 28 ((20 : Int32) + x3).toNatClampNeg (0 : Int32)) x3 x4)))) else (zg (zin ((38 : Int32) + x5) 47) (if (M.1 28 ((38 : Int32) + x5).toNatClampNeg) ≤ x4 then (f_X12_comes_92 x1 x2 (f_X12_comes_56 x1 x2 n) M x3 x5 x4) else (zg (zin ((38 : Int32) + x5) 47) (f_X12_comes_92 x1 x2 (f_X12_comes_56 x1 x2 n) M x3 x5 (M.1 28 ((38 : Int32) + x5).toNatClampNeg)))))) = some (r, M') := h
    refine zw_iload C 5 rfl dX12_comes_56 ?_
    refine zw_iload_n C 3 rfl dX12_comes_58 rfl ?_
    refine zw_icmp_ge (tgt := 100) C dX12_comes_59 (by decide) (fun hb1 => ?_) (fun hb1 => ?_)
    · have h := zt_ hb1 h
      refine zw_aload_n C 0 rfl dX12_comes_100 rfl ?_
      refine zw_get (v := .ref (E.2.1 28)) C (by decide) (zc_25 E) rfl zin_X12 6 (by decide) gw_3_201 rfl dX12_comes_101 ?_
      refine zw_iconst (v := (2 : Int32)) C dX12_comes_104 ct_i_2 ?_
      refine zw_iload_n C 3 rfl dX12_comes_105 rfl ?_
      refine zw_iadd C dX12_comes_106 ?_
      refine zw_iload_n C 1 rfl dX12_comes_107 rfl ?_
      obtain ⟨hi2, h⟩ := zg_e h
      refine zw_iast C zia_28 (zin_e hi2) dX12_comes_108 ?_
      refine zw_aload_n C 0 rfl dX12_comes_109 rfl ?_
      refine zw_get (v := .ref (E.2.1 28)) C (by decide) (zc_25 E) rfl zin_X12 6 (by decide) gw_3_201 rfl dX12_comes_110 ?_
      refine zw_bipush (v := (11 : Int32)) C dX12_comes_113 ct_b_11 ?_
      refine zw_iload_n C 3 rfl dX12_comes_115 rfl ?_
      refine zw_iadd C dX12_comes_116 ?_
      refine zw_iload_n C 2 rfl dX12_comes_117 rfl ?_
      obtain ⟨hi3, h⟩ := zg_e h
      refine zw_iast C zia_28 (zin_e hi3) dX12_comes_118 ?_
      refine zw_aload_n C 0 rfl dX12_comes_119 rfl ?_
      refine zw_get (v := .ref (E.2.1 28)) C (by decide) (zc_25 E) rfl zin_X12 6 (by decide) gw_3_201 rfl dX12_comes_120 ?_
      refine zw_bipush (v := (20 : Int32)) C dX12_comes_123 ct_b_20 ?_
      refine zw_iload_n C 3 rfl dX12_comes_125 rfl ?_
      refine zw_iadd C dX12_comes_126 ?_
      refine zw_iconst (v := (0 : Int32)) C dX12_comes_127 ct_i_0 ?_
      obtain ⟨hi4, h⟩ := zg_e h
      refine zw_iast C zia_28 (zin_e hi4) dX12_comes_128 ?_
      refine zw_sb [0, 1, 2, 3, 4] rfl ?_
      exact p_X12_comes_129 C h
    · have h := zf_ hb1 h
      refine zw_aload_n C 0 rfl dX12_comes_62 rfl ?_
      refine zw_get (v := .ref (E.2.1 28)) C (by decide) (zc_25 E) rfl zin_X12 6 (by decide) gw_3_201 rfl dX12_comes_63 ?_
      refine zw_bipush (v := (38 : Int32)) C dX12_comes_66 ct_b_38 ?_
      refine zw_iload C 5 rfl dX12_comes_68 ?_
      refine zw_iadd C dX12_comes_70 ?_
      obtain ⟨hi5, h⟩ := zg_e h
      refine zw_iald C zia_28 (zin_e hi5) dX12_comes_71 ?_
      refine zw_iload C 4 rfl dX12_comes_72 ?_
      refine zw_icmp_le (tgt := 90) C dX12_comes_74 (by decide) (fun hb6 => ?_) (fun hb6 => ?_)
      · have h := zt_ hb6 h
        refine zw_iload C 4 rfl dX12_comes_90 ?_
        refine zw_sb [0, 1, 2, 3, 5] rfl ?_
        exact p_X12_comes_92 C (fun _ _ _ _ h => ih _ _ _ _ h) h
      · have h := zf_ hb6 h
        refine zw_aload_n C 0 rfl dX12_comes_77 rfl ?_
        refine zw_get (v := .ref (E.2.1 28)) C (by decide) (zc_25 E) rfl zin_X12 6 (by decide) gw_3_201 rfl dX12_comes_78 ?_
        refine zw_bipush (v := (38 : Int32)) C dX12_comes_81 ct_b_38 ?_
        refine zw_iload C 5 rfl dX12_comes_83 ?_
        refine zw_iadd C dX12_comes_85 ?_
        obtain ⟨hi7, h⟩ := zg_e h
        refine zw_iald C zia_28 (zin_e hi7) dX12_comes_86 ?_
        refine zw_goto (tgt := 92) C dX12_comes_87 (by decide) ?_
        refine zw_sb [0, 1, 2, 3, 5] rfl ?_
        exact p_X12_comes_92 C (fun _ _ _ _ h => ih _ _ _ _ h) h
def f_X12_comes_0 (x1 : Int32) (x2 : Int32) (M : zM) : Option (Int32 × zM) := zbi (f_X12_in M (x1.toInt64) (0 : Int64) (((M.1 25 3) - (1 : Int32)).toInt64)) (fun r2 M3 => if r2 = 0 then (some ((-1 : Int32), M3)) else (zbi (f_X12_isBit M3 x2) (fun r6 M7 => if r6 = 0 then (some ((-1 : Int32), M7)) else (zg (zin (0 : Int32) 47) (if (M7.1 28 (0 : Int32).toNatClampNeg) = (9 : Int32) then (some ((-3 : Int32), M7)) else (zbv (f_X12_notes M7) (fun M13 => zg (zin (0 : Int32) 47) (f_X12_comes_56 x1 x2 zFU M13 (M13.1 28 (0 : Int32).toNatClampNeg) (0 : Int32) (0 : Int32)))))))))
set_option maxRecDepth 20000 in
set_option maxHeartbeats 2000000 in
theorem p_X12_comes_0 {X : zX} {E : zE} {x1 : Int32} {x2 : Int32} {r : Int32} {M' : zM} (C : zC X E cX12_comes 6 RX12 (some .int) 3) {M : zM} (h : f_X12_comes_0 x1 x2 M = some (r, M')) : zW X E (zRQ X E (some (.int r)) M') M 0 [(0, .ref (E.2.1 25)), (1, .int x1), (2, .int x2)] [] := by
  have h : (zbi (f_X12_in M (x1.toInt64) (0 : Int64) (((M.1 25 3) - (1 : Int32)).toInt64)) (fun r2 M3 => if r2 = 0 then (some ((-1 : Int32), M3)) else (zbi (f_X12_isBit M3 x2) (fun r6 M7 => if r6 = 0 then (some ((-1 : Int32), M7)) else (zg (zin (0 : Int32) 47) (if (M7.1 28 (0 : Int32).toNatClampNeg) = (9 : Int32) then (some ((-3 : Int32), M7)) else (zbv (f_X12_notes M7) (fun M13 => zg (zin (0 : Int32) 47) (f_X12_comes_56 x1 x2 zFU M13 (M13.1 28 (0 : Int32).toNatClampNeg) (0 : Int32) (0 : Int32)))))))))) = some (r, M') := h
  refine zw_iload_n C 1 rfl dX12_comes_0 rfl ?_
  refine zw_i2l C dX12_comes_1 ?_
  refine zw_lconst (v := (0 : Int64)) C dX12_comes_2 rfl ?_
  refine zw_aload_n C 0 rfl dX12_comes_3 rfl ?_
  refine zw_get (v := .int (M.1 25 3)) C (by decide) (zc_25 E) rfl zin_X12 3 (by decide) gw_3_198 rfl dX12_comes_4 ?_
  refine zw_iconst (v := (1 : Int32)) C dX12_comes_7 ct_i_1 ?_
  refine zw_isub C dX12_comes_8 ?_
  refine zw_i2l C dX12_comes_9 ?_
  obtain ⟨r2, M3, hq1, h⟩ := zbi_e h
  refine zw_callSi (As := [.long (x1.toInt64), .long (0 : Int64), .long (((M.1 25 3) - (1 : Int32)).toInt64)]) (st := []) C (m_X12_in C.2.2.2.2.2.2.2.1 hq1) ks_X12_in gw_4_42 (by decide) rfl rfl (Nat.le_of_ble_eq_true rfl) dX12_comes_10 ?_
  refine zw_if_eq (tgt := 23) C dX12_comes_13 (by decide) (fun hb4 => ?_) (fun hb4 => ?_)
  · have h := zt_ hb4 h
    refine zw_iconst (v := (-1 : Int32)) C dX12_comes_23 ct_i_m1 ?_
    exact zw_ireturnE C h dX12_comes_24
  · have h := zf_ hb4 h
    refine zw_iload_n C 2 rfl dX12_comes_16 rfl ?_
    obtain ⟨r6, M7, hq5, h⟩ := zbi_e h
    refine zw_callSi (As := [.int x2]) (st := []) C (m_X12_isBit C.2.2.2.2.2.2.2.1 hq5) ks_X12_isBit gw_4_176 (by decide) rfl rfl (Nat.le_of_ble_eq_true rfl) dX12_comes_17 ?_
    refine zw_if_ne (tgt := 25) C dX12_comes_20 (by decide) (fun hb8 => ?_) (fun hb8 => ?_)
    · have h := zt_ hb8 h
      refine zw_iconst (v := (-1 : Int32)) C dX12_comes_23 ct_i_m1 ?_
      exact zw_ireturnE C h dX12_comes_24
    · have h := zf_ hb8 h
      refine zw_aload_n C 0 rfl dX12_comes_25 rfl ?_
      refine zw_get (v := .ref (E.2.1 28)) C (by decide) (zc_25 E) rfl zin_X12 6 (by decide) gw_3_201 rfl dX12_comes_26 ?_
      refine zw_iconst (v := (0 : Int32)) C dX12_comes_29 ct_i_0 ?_
      obtain ⟨hi9, h⟩ := zg_e h
      refine zw_iald C zia_28 (zin_e hi9) dX12_comes_30 ?_
      refine zw_bipush (v := (9 : Int32)) C dX12_comes_31 ct_b_9 ?_
      refine zw_icmp_ne (tgt := 39) C dX12_comes_33 (by decide) (fun hb10 => ?_) (fun hb10 => ?_)
      · have h := zt_ hb10 h
        refine zw_bipush (v := (-3 : Int32)) C dX12_comes_36 ct_b_m3 ?_
        exact zw_ireturnE C h dX12_comes_38
      · have h := zf_ hb10 h
        refine zw_aload_n C 0 rfl dX12_comes_39 rfl ?_
        obtain ⟨M13, hq11, h⟩ := zbv_e h
        refine zw_callVv (As := []) (st := []) C (m_X12_notes C.2.2.2.2.2.2.2.1 hq11) kv_X12_notes gw_4_195 (by decide) (by decide) (zc_25 E) rfl rfl rfl rfl (Nat.le_of_ble_eq_true rfl) dX12_comes_40 ?_
        refine zw_aload_n C 0 rfl dX12_comes_43 rfl ?_
        refine zw_get (v := .ref (E.2.1 28)) C (by decide) (zc_25 E) rfl zin_X12 6 (by decide) gw_3_201 rfl dX12_comes_44 ?_
        refine zw_iconst (v := (0 : Int32)) C dX12_comes_47 ct_i_0 ?_
        obtain ⟨hi14, h⟩ := zg_e h
        refine zw_iald C zia_28 (zin_e hi14) dX12_comes_48 ?_
        refine zw_istore_n (lv' := [(3, .int (M13.1 28 (0 : Int32).toNatClampNeg)), (0, .ref (E.2.1 25)), (1, .int x1), (2, .int x2)]) C dX12_comes_49 rfl (by decide) rfl ?_
        refine zw_iconst (v := (0 : Int32)) C dX12_comes_50 ct_i_0 ?_
        refine zw_istore (lv' := [(4, .int (0 : Int32)), (3, .int (M13.1 28 (0 : Int32).toNatClampNeg)), (0, .ref (E.2.1 25)), (1, .int x1), (2, .int x2)]) C dX12_comes_51 (by decide) rfl ?_
        refine zw_iconst (v := (0 : Int32)) C dX12_comes_53 ct_i_0 ?_
        refine zw_istore (lv' := [(5, .int (0 : Int32)), (4, .int (0 : Int32)), (3, .int (M13.1 28 (0 : Int32).toNatClampNeg)), (0, .ref (E.2.1 25)), (1, .int x1), (2, .int x2)]) C dX12_comes_54 (by decide) rfl ?_
        refine zw_sb [3, 4, 5, 2, 1, 0] rfl ?_
        exact p_X12_comes_56 C zFU _ _ _ _ h
def f_X12_comes (M : zM) (x1 : Int32) (x2 : Int32) : Option (Int32 × zM) := f_X12_comes_0 x1 x2 M
theorem m_X12_comes {l : Launch} {E : zE} (hI : zI E) {M M' : zM} {x1 : Int32} {x2 : Int32} {r : Int32} (h : f_X12_comes M x1 x2 = some (r, M')) : zMet l E yX12_comes cX12_comes 6 (some .int) 3 [.ref (E.2.1 25), .int x1, .int x2] M M' (some (.int r)) := zm_of hI (by decide) (Nat.le_of_ble_eq_true rfl) (fun X _ C => p_X12_comes_0 C h)
theorem kv_X12_comes : zKV yX12_comes cX12_comes 6 (some .int) 2 := ⟨⟨gw_4_192, gw_4_193, gw_1_13, gw_4_194⟩, ⟨by decide, by decide, by decide +kernel⟩, by decide⟩
-- WingDoorModel.steps()I, 15 instructions, depth 4
def f_X12_steps_0 (M : zM) : Option (Int32 × zM) := zg (zin (1 : Int32) 47) (if (M.1 28 (1 : Int32).toNatClampNeg) = (999 : Int32) then (some ((-2 : Int32), M)) else (zbv (f_X12_notes M) (fun M5 => zbi (f_X12_goes M5 28) (fun r7 M8 => some (r7, M8)))))
set_option maxRecDepth 20000 in
set_option maxHeartbeats 2000000 in
theorem p_X12_steps_0 {X : zX} {E : zE} {r : Int32} {M' : zM} (C : zC X E cX12_steps 1 RX12 (some .int) 4) {M : zM} (h : f_X12_steps_0  M = some (r, M')) : zW X E (zRQ X E (some (.int r)) M') M 0 [(0, .ref (E.2.1 25))] [] := by
  have h : (zg (zin (1 : Int32) 47) (if (M.1 28 (1 : Int32).toNatClampNeg) = (999 : Int32) then (some ((-2 : Int32), M)) else (zbv (f_X12_notes M) (fun M5 => zbi (f_X12_goes M5 28) (fun r7 M8 => some (r7, M8)))))) = some (r, M') := h
  refine zw_aload_n C 0 rfl dX12_steps_0 rfl ?_
  refine zw_get (v := .ref (E.2.1 28)) C (by decide) (zc_25 E) rfl zin_X12 6 (by decide) gw_3_201 rfl dX12_steps_1 ?_
  refine zw_iconst (v := (1 : Int32)) C dX12_steps_4 ct_i_1 ?_
  obtain ⟨hi1, h⟩ := zg_e h
  refine zw_iald C zia_28 (zin_e hi1) dX12_steps_5 ?_
  refine zw_sipush (v := (999 : Int32)) C dX12_steps_6 ct_s_999 ?_
  refine zw_icmp_ne (tgt := 15) C dX12_steps_9 (by decide) (fun hb2 => ?_) (fun hb2 => ?_)
  · have h := zt_ hb2 h
    refine zw_bipush (v := (-2 : Int32)) C dX12_steps_12 ct_b_m2 ?_
    exact zw_ireturnE C h dX12_steps_14
  · have h := zf_ hb2 h
    refine zw_aload_n C 0 rfl dX12_steps_15 rfl ?_
    obtain ⟨M5, hq3, h⟩ := zbv_e h
    refine zw_callVv (As := []) (st := []) C (m_X12_notes C.2.2.2.2.2.2.2.1 hq3) kv_X12_notes gw_4_195 (by decide) (by decide) (zc_25 E) rfl rfl rfl rfl (Nat.le_of_ble_eq_true rfl) dX12_steps_16 ?_
    refine zw_aload_n C 0 rfl dX12_steps_19 rfl ?_
    refine zw_aload_n C 0 rfl dX12_steps_20 rfl ?_
    refine zw_get (v := .ref (E.2.1 28)) C (by decide) (zc_25 E) rfl zin_X12 6 (by decide) gw_3_201 rfl dX12_steps_21 ?_
    obtain ⟨r7, M8, hq6, h⟩ := zbi_e h
    refine zw_callVi (As := [.ref (E.2.1 28)]) (st := []) C (m_X12_goes C.2.2.2.2.2.2.2.1 zia_28 hq6) kv_X12_goes gw_4_125 (by decide) (by decide) (zc_25 E) rfl rfl rfl rfl (Nat.le_of_ble_eq_true rfl) dX12_steps_24 ?_
    exact zw_ireturnE C h dX12_steps_27
def f_X12_steps (M : zM) : Option (Int32 × zM) := f_X12_steps_0 M
theorem m_X12_steps {l : Launch} {E : zE} (hI : zI E) {M M' : zM} {r : Int32} (h : f_X12_steps M = some (r, M')) : zMet l E yX12_steps cX12_steps 1 (some .int) 4 [.ref (E.2.1 25)] M M' (some (.int r)) := zm_of hI (by decide) (Nat.le_of_ble_eq_true rfl) (fun X _ C => p_X12_steps_0 C h)
theorem kv_X12_steps : zKV yX12_steps cX12_steps 1 (some .int) 0 := ⟨⟨gw_4_200, gw_4_201, gw_1_13, gw_4_202⟩, ⟨by decide, by decide, by decide +kernel⟩, by decide⟩
-- WingDoorModel.leavesOn([II)V, 7 instructions, depth 0
def f_X12_leavesOn_0 (p0 : Nat) (x1 : Int32) (M : zM) : Option zM := zg (zin ((20 : Int32) + x1) 47) (some (zs M p0 ((20 : Int32) + x1).toNatClampNeg (3 : Int32)))
set_option maxRecDepth 20000 in
set_option maxHeartbeats 2000000 in
theorem p_X12_leavesOn_0 {X : zX} {E : zE} {p0 : Nat} {x1 : Int32} {M' : zM} (C : zC X E cX12_leavesOn 2 RX12 none 0) (hp0 : zia p0 47) {M : zM} (h : f_X12_leavesOn_0 p0 x1 M = some M') : zW X E (zRQ X E none M') M 0 [(0, .ref (E.2.1 p0)), (1, .int x1)] [] := by
  have h : (zg (zin ((20 : Int32) + x1) 47) (some (zs M p0 ((20 : Int32) + x1).toNatClampNeg (3 : Int32)))) = some M' := h
  refine zw_aload_n C 0 rfl dX12_leavesOn_0 rfl ?_
  refine zw_bipush (v := (20 : Int32)) C dX12_leavesOn_1 ct_b_20 ?_
  refine zw_iload_n C 1 rfl dX12_leavesOn_3 rfl ?_
  refine zw_iadd C dX12_leavesOn_4 ?_
  refine zw_iconst (v := (3 : Int32)) C dX12_leavesOn_5 ct_i_3 ?_
  obtain ⟨hi1, h⟩ := zg_e h
  refine zw_iast C hp0 (zin_e hi1) dX12_leavesOn_6 ?_
  exact zw_returnE C h dX12_leavesOn_7
def f_X12_leavesOn (M : zM) (p0 : Nat) (x1 : Int32) : Option zM := f_X12_leavesOn_0 p0 x1 M
theorem m_X12_leavesOn {l : Launch} {E : zE} (hI : zI E) {M M' : zM} {p0 : Nat} {x1 : Int32} (hp0 : zia p0 47) (h : f_X12_leavesOn M p0 x1 = some M') : zMet l E yX12_leavesOn cX12_leavesOn 2 none 0 [.ref (E.2.1 p0), .int x1] M M' none := zm_of hI (by decide) (Nat.le_of_ble_eq_true rfl) (fun X _ C => p_X12_leavesOn_0 C hp0 h)
theorem ks_X12_leavesOn : zKS yX12_leavesOn cX12_leavesOn 2 none 2 := ⟨⟨gw_4_208, gw_1_13, gw_4_209⟩, ⟨by decide, by decide, by decide +kernel⟩, by decide⟩
-- WingDoorModel.leaves(I)I, 31 instructions, depth 3
def f_X12_leaves_0 (x1 : Int32) (M : zM) : Option (Int32 × zM) := zbi (f_X12_isGoer M x1) (fun r2 M3 => if r2 = 0 then (some ((-1 : Int32), M3)) else (zg (zin ((20 : Int32) + x1) 47) (if (M3.1 28 ((20 : Int32) + x1).toNatClampNeg) = 0 then (zbv (f_X12_notes M3) (fun M9 => zbv (f_X12_leavesOn M9 28 x1) (fun M12 => zbv (f_X12_fills M12 28) (fun M15 => zbi (f_X12_those M15 28 (0 : Int32)) (fun r17 M18 => zbi (f_X12_bits M18 r17) (fun r20 M21 => some (r20, M21))))))) else (some ((-2 : Int32), M3)))))
set_option maxRecDepth 20000 in
set_option maxHeartbeats 2000000 in
theorem p_X12_leaves_0 {X : zX} {E : zE} {x1 : Int32} {r : Int32} {M' : zM} (C : zC X E cX12_leaves 2 RX12 (some .int) 3) {M : zM} (h : f_X12_leaves_0 x1 M = some (r, M')) : zW X E (zRQ X E (some (.int r)) M') M 0 [(0, .ref (E.2.1 25)), (1, .int x1)] [] := by
  have h : (zbi (f_X12_isGoer M x1) (fun r2 M3 => if r2 = 0 then (some ((-1 : Int32), M3)) else (zg (zin ((20 : Int32) + x1) 47) (if (M3.1 28 ((20 : Int32) + x1).toNatClampNeg) = 0 then (zbv (f_X12_notes M3) (fun M9 => zbv (f_X12_leavesOn M9 28 x1) (fun M12 => zbv (f_X12_fills M12 28) (fun M15 => zbi (f_X12_those M15 28 (0 : Int32)) (fun r17 M18 => zbi (f_X12_bits M18 r17) (fun r20 M21 => some (r20, M21))))))) else (some ((-2 : Int32), M3)))))) = some (r, M') := h
  refine zw_aload_n C 0 rfl dX12_leaves_0 rfl ?_
  refine zw_iload_n C 1 rfl dX12_leaves_1 rfl ?_
  obtain ⟨r2, M3, hq1, h⟩ := zbi_e h
  refine zw_callVi (As := [.int x1]) (st := []) C (m_X12_isGoer C.2.2.2.2.2.2.2.1 hq1) kv_X12_isGoer gw_4_106 (by decide) (by decide) (zc_25 E) rfl rfl rfl rfl (Nat.le_of_ble_eq_true rfl) dX12_leaves_2 ?_
  refine zw_if_ne (tgt := 10) C dX12_leaves_5 (by decide) (fun hb4 => ?_) (fun hb4 => ?_)
  · have h := zt_ hb4 h
    refine zw_iconst (v := (-1 : Int32)) C dX12_leaves_8 ct_i_m1 ?_
    exact zw_ireturnE C h dX12_leaves_9
  · have h := zf_ hb4 h
    refine zw_aload_n C 0 rfl dX12_leaves_10 rfl ?_
    refine zw_get (v := .ref (E.2.1 28)) C (by decide) (zc_25 E) rfl zin_X12 6 (by decide) gw_3_201 rfl dX12_leaves_11 ?_
    refine zw_bipush (v := (20 : Int32)) C dX12_leaves_14 ct_b_20 ?_
    refine zw_iload_n C 1 rfl dX12_leaves_16 rfl ?_
    refine zw_iadd C dX12_leaves_17 ?_
    obtain ⟨hi5, h⟩ := zg_e h
    refine zw_iald C zia_28 (zin_e hi5) dX12_leaves_18 ?_
    refine zw_if_eq (tgt := 25) C dX12_leaves_19 (by decide) (fun hb6 => ?_) (fun hb6 => ?_)
    · have h := zt_ hb6 h
      refine zw_aload_n C 0 rfl dX12_leaves_25 rfl ?_
      obtain ⟨M9, hq7, h⟩ := zbv_e h
      refine zw_callVv (As := []) (st := []) C (m_X12_notes C.2.2.2.2.2.2.2.1 hq7) kv_X12_notes gw_4_195 (by decide) (by decide) (zc_25 E) rfl rfl rfl rfl (Nat.le_of_ble_eq_true rfl) dX12_leaves_26 ?_
      refine zw_aload_n C 0 rfl dX12_leaves_29 rfl ?_
      refine zw_get (v := .ref (E.2.1 28)) C (by decide) (zc_25 E) rfl zin_X12 6 (by decide) gw_3_201 rfl dX12_leaves_30 ?_
      refine zw_iload_n C 1 rfl dX12_leaves_33 rfl ?_
      obtain ⟨M12, hq10, h⟩ := zbv_e h
      refine zw_callSv (As := [.ref (E.2.1 28), .int x1]) (st := []) C (m_X12_leavesOn C.2.2.2.2.2.2.2.1 zia_28 hq10) ks_X12_leavesOn gw_4_207 (by decide) rfl rfl (Nat.le_of_ble_eq_true rfl) dX12_leaves_34 ?_
      refine zw_aload_n C 0 rfl dX12_leaves_37 rfl ?_
      refine zw_aload_n C 0 rfl dX12_leaves_38 rfl ?_
      refine zw_get (v := .ref (E.2.1 28)) C (by decide) (zc_25 E) rfl zin_X12 6 (by decide) gw_3_201 rfl dX12_leaves_39 ?_
      obtain ⟨M15, hq13, h⟩ := zbv_e h
      refine zw_callVv (As := [.ref (E.2.1 28)]) (st := []) C (m_X12_fills C.2.2.2.2.2.2.2.1 zia_28 hq13) kv_X12_fills gw_4_151 (by decide) (by decide) (zc_25 E) rfl rfl rfl rfl (Nat.le_of_ble_eq_true rfl) dX12_leaves_42 ?_
      refine zw_aload_n C 0 rfl dX12_leaves_45 rfl ?_
      refine zw_get (v := .ref (E.2.1 28)) C (by decide) (zc_25 E) rfl zin_X12 6 (by decide) gw_3_201 rfl dX12_leaves_46 ?_
      refine zw_iconst (v := (0 : Int32)) C dX12_leaves_49 ct_i_0 ?_
      obtain ⟨r17, M18, hq16, h⟩ := zbi_e h
      refine zw_callSi (As := [.ref (E.2.1 28), .int (0 : Int32)]) (st := []) C (m_X12_those C.2.2.2.2.2.2.2.1 zia_28 hq16) ks_X12_those gw_4_133 (by decide) rfl rfl (Nat.le_of_ble_eq_true rfl) dX12_leaves_50 ?_
      obtain ⟨r20, M21, hq19, h⟩ := zbi_e h
      refine zw_callSi (As := [.int r17]) (st := []) C (m_X12_bits C.2.2.2.2.2.2.2.1 hq19) ks_X12_bits gw_4_144 (by decide) rfl rfl (Nat.le_of_ble_eq_true rfl) dX12_leaves_53 ?_
      exact zw_ireturnE C h dX12_leaves_56
    · have h := zf_ hb6 h
      refine zw_bipush (v := (-2 : Int32)) C dX12_leaves_22 ct_b_m2 ?_
      exact zw_ireturnE C h dX12_leaves_24
def f_X12_leaves (M : zM) (x1 : Int32) : Option (Int32 × zM) := f_X12_leaves_0 x1 M
theorem m_X12_leaves {l : Launch} {E : zE} (hI : zI E) {M M' : zM} {x1 : Int32} {r : Int32} (h : f_X12_leaves M x1 = some (r, M')) : zMet l E yX12_leaves cX12_leaves 2 (some .int) 3 [.ref (E.2.1 25), .int x1] M M' (some (.int r)) := zm_of hI (by decide) (Nat.le_of_ble_eq_true rfl) (fun X _ C => p_X12_leaves_0 C h)
theorem kv_X12_leaves : zKV yX12_leaves cX12_leaves 2 (some .int) 1 := ⟨⟨gw_4_204, gw_4_205, gw_1_13, gw_4_206⟩, ⟨by decide, by decide, by decide +kernel⟩, by decide⟩
-- WingDoorModel.letsOn([II)V, 19 instructions, depth 1
def f_X12_letsOn_0 (p0 : Nat) (x1 : Int32) (M : zM) : Option zM := zg (zin ((11 : Int32) + x1) 47) (zbi (f_X12_firstOn M p0 (M.1 p0 ((11 : Int32) + x1).toNatClampNeg)) (fun r3 M4 => zg (zin ((38 : Int32) + r3) 47) (zg (zin ((38 : Int32) + x1) 47) (some (zs M4 p0 ((38 : Int32) + x1).toNatClampNeg ((M4.1 p0 ((38 : Int32) + r3).toNatClampNeg) - (1 : Int32)))))))
set_option maxRecDepth 20000 in
set_option maxHeartbeats 2000000 in
theorem p_X12_letsOn_0 {X : zX} {E : zE} {p0 : Nat} {x1 : Int32} {M' : zM} (C : zC X E cX12_letsOn 2 RX12 none 1) (hp0 : zia p0 47) {M : zM} (h : f_X12_letsOn_0 p0 x1 M = some M') : zW X E (zRQ X E none M') M 0 [(0, .ref (E.2.1 p0)), (1, .int x1)] [] := by
  have h : (zg (zin ((11 : Int32) + x1) 47) (zbi (f_X12_firstOn M p0 (M.1 p0 ((11 : Int32) + x1).toNatClampNeg)) (fun r3 M4 => zg (zin ((38 : Int32) + r3) 47) (zg (zin ((38 : Int32) + x1) 47) (some (zs M4 p0 ((38 : Int32) + x1).toNatClampNeg ((M4.1 p0 ((38 : Int32) + r3).toNatClampNeg) - (1 : Int32)))))))) = some M' := h
  refine zw_aload_n C 0 rfl dX12_letsOn_0 rfl ?_
  refine zw_bipush (v := (38 : Int32)) C dX12_letsOn_1 ct_b_38 ?_
  refine zw_iload_n C 1 rfl dX12_letsOn_3 rfl ?_
  refine zw_iadd C dX12_letsOn_4 ?_
  refine zw_aload_n C 0 rfl dX12_letsOn_5 rfl ?_
  refine zw_bipush (v := (38 : Int32)) C dX12_letsOn_6 ct_b_38 ?_
  refine zw_aload_n C 0 rfl dX12_letsOn_8 rfl ?_
  refine zw_aload_n C 0 rfl dX12_letsOn_9 rfl ?_
  refine zw_bipush (v := (11 : Int32)) C dX12_letsOn_10 ct_b_11 ?_
  refine zw_iload_n C 1 rfl dX12_letsOn_12 rfl ?_
  refine zw_iadd C dX12_letsOn_13 ?_
  obtain ⟨hi1, h⟩ := zg_e h
  refine zw_iald C hp0 (zin_e hi1) dX12_letsOn_14 ?_
  obtain ⟨r3, M4, hq2, h⟩ := zbi_e h
  refine zw_callSi (As := [.ref (E.2.1 p0), .int (M.1 p0 ((11 : Int32) + x1).toNatClampNeg)]) (st := [.int (38 : Int32), .ref (E.2.1 p0), .int ((38 : Int32) + x1), .ref (E.2.1 p0)]) C (m_X12_firstOn C.2.2.2.2.2.2.2.1 hp0 hq2) ks_X12_firstOn gw_4_155 (by decide) rfl rfl (Nat.le_of_ble_eq_true rfl) dX12_letsOn_15 ?_
  refine zw_iadd C dX12_letsOn_18 ?_
  obtain ⟨hi5, h⟩ := zg_e h
  refine zw_iald C hp0 (zin_e hi5) dX12_letsOn_19 ?_
  refine zw_iconst (v := (1 : Int32)) C dX12_letsOn_20 ct_i_1 ?_
  refine zw_isub C dX12_letsOn_21 ?_
  obtain ⟨hi6, h⟩ := zg_e h
  refine zw_iast C hp0 (zin_e hi6) dX12_letsOn_22 ?_
  exact zw_returnE C h dX12_letsOn_23
def f_X12_letsOn (M : zM) (p0 : Nat) (x1 : Int32) : Option zM := f_X12_letsOn_0 p0 x1 M
theorem m_X12_letsOn {l : Launch} {E : zE} (hI : zI E) {M M' : zM} {p0 : Nat} {x1 : Int32} (hp0 : zia p0 47) (h : f_X12_letsOn M p0 x1 = some M') : zMet l E yX12_letsOn cX12_letsOn 2 none 1 [.ref (E.2.1 p0), .int x1] M M' none := zm_of hI (by decide) (Nat.le_of_ble_eq_true rfl) (fun X _ C => p_X12_letsOn_0 C hp0 h)
theorem ks_X12_letsOn : zKS yX12_letsOn cX12_letsOn 2 none 2 := ⟨⟨gw_4_215, gw_1_13, gw_4_216⟩, ⟨by decide, by decide, by decide +kernel⟩, by decide⟩
-- WingDoorModel.lets(I)I, 34 instructions, depth 3
def f_X12_lets_0 (x1 : Int32) (M : zM) : Option (Int32 × zM) := zbi (f_X12_isGoer M x1) (fun r2 M3 => if r2 = 0 then (some ((-1 : Int32), M3)) else (zbi (f_X12_aheadOf M3 28 x1) (fun r6 M7 => zg (zin ((20 : Int32) + x1) 47) (if (M7.1 28 ((20 : Int32) + x1).toNatClampNeg) = 0 then (if r6 = 0 then (some ((-2 : Int32), M7)) else (zbv (f_X12_notes M7) (fun M13 => zbv (f_X12_letsOn M13 28 x1) (fun M16 => zbv (f_X12_fills M16 28) (fun M19 => some (r6, M19)))))) else (some ((-2 : Int32), M7))))))
set_option maxRecDepth 20000 in
set_option maxHeartbeats 2000000 in
theorem p_X12_lets_0 {X : zX} {E : zE} {x1 : Int32} {r : Int32} {M' : zM} (C : zC X E cX12_lets 3 RX12 (some .int) 3) {M : zM} (h : f_X12_lets_0 x1 M = some (r, M')) : zW X E (zRQ X E (some (.int r)) M') M 0 [(0, .ref (E.2.1 25)), (1, .int x1)] [] := by
  have h : (zbi (f_X12_isGoer M x1) (fun r2 M3 => if r2 = 0 then (some ((-1 : Int32), M3)) else (zbi (f_X12_aheadOf M3 28 x1) (fun r6 M7 => zg (zin ((20 : Int32) + x1) 47) (if (M7.1 28 ((20 : Int32) + x1).toNatClampNeg) = 0 then (if r6 = 0 then (some ((-2 : Int32), M7)) else (zbv (f_X12_notes M7) (fun M13 => zbv (f_X12_letsOn M13 28 x1) (fun M16 => zbv (f_X12_fills M16 28) (fun M19 => some (r6, M19)))))) else (some ((-2 : Int32), M7))))))) = some (r, M') := h
  refine zw_aload_n C 0 rfl dX12_lets_0 rfl ?_
  refine zw_iload_n C 1 rfl dX12_lets_1 rfl ?_
  obtain ⟨r2, M3, hq1, h⟩ := zbi_e h
  refine zw_callVi (As := [.int x1]) (st := []) C (m_X12_isGoer C.2.2.2.2.2.2.2.1 hq1) kv_X12_isGoer gw_4_106 (by decide) (by decide) (zc_25 E) rfl rfl rfl rfl (Nat.le_of_ble_eq_true rfl) dX12_lets_2 ?_
  refine zw_if_ne (tgt := 10) C dX12_lets_5 (by decide) (fun hb4 => ?_) (fun hb4 => ?_)
  · have h := zt_ hb4 h
    refine zw_iconst (v := (-1 : Int32)) C dX12_lets_8 ct_i_m1 ?_
    exact zw_ireturnE C h dX12_lets_9
  · have h := zf_ hb4 h
    refine zw_aload_n C 0 rfl dX12_lets_10 rfl ?_
    refine zw_get (v := .ref (E.2.1 28)) C (by decide) (zc_25 E) rfl zin_X12 6 (by decide) gw_3_201 rfl dX12_lets_11 ?_
    refine zw_iload_n C 1 rfl dX12_lets_14 rfl ?_
    obtain ⟨r6, M7, hq5, h⟩ := zbi_e h
    refine zw_callSi (As := [.ref (E.2.1 28), .int x1]) (st := []) C (m_X12_aheadOf C.2.2.2.2.2.2.2.1 zia_28 hq5) ks_X12_aheadOf gw_4_110 (by decide) rfl rfl (Nat.le_of_ble_eq_true rfl) dX12_lets_15 ?_
    refine zw_istore_n (lv' := [(2, .int r6), (0, .ref (E.2.1 25)), (1, .int x1)]) C dX12_lets_18 rfl (by decide) rfl ?_
    refine zw_aload_n C 1 rfl dX12_lets_19 rfl ?_
    refine zw_get (v := .ref (E.2.1 28)) C (by decide) (zc_25 E) rfl zin_X12 6 (by decide) gw_3_201 rfl dX12_lets_20 ?_
    refine zw_bipush (v := (20 : Int32)) C dX12_lets_23 ct_b_20 ?_
    refine zw_iload_n C 2 rfl dX12_lets_25 rfl ?_
    refine zw_iadd C dX12_lets_26 ?_
    obtain ⟨hi8, h⟩ := zg_e h
    refine zw_iald C zia_28 (zin_e hi8) dX12_lets_27 ?_
    refine zw_if_ne (tgt := 35) C dX12_lets_28 (by decide) (fun hb9 => ?_) (fun hb9 => ?_)
    · have h := zt_ hb9 h
      refine zw_iload_n C 0 rfl dX12_lets_31 rfl ?_
      refine zw_if_ne (tgt := 38) C dX12_lets_32 (by decide) (fun hb10 => ?_) (fun hb10 => ?_)
      · have h := zt_ hb10 h
        refine zw_bipush (v := (-2 : Int32)) C dX12_lets_35 ct_b_m2 ?_
        exact zw_ireturnE C h dX12_lets_37
      · have h := zf_ hb10 h
        refine zw_aload_n C 1 rfl dX12_lets_38 rfl ?_
        obtain ⟨M13, hq11, h⟩ := zbv_e h
        refine zw_callVv (As := []) (st := []) C (m_X12_notes C.2.2.2.2.2.2.2.1 hq11) kv_X12_notes gw_4_195 (by decide) (by decide) (zc_25 E) rfl rfl rfl rfl (Nat.le_of_ble_eq_true rfl) dX12_lets_39 ?_
        refine zw_aload_n C 1 rfl dX12_lets_42 rfl ?_
        refine zw_get (v := .ref (E.2.1 28)) C (by decide) (zc_25 E) rfl zin_X12 6 (by decide) gw_3_201 rfl dX12_lets_43 ?_
        refine zw_iload_n C 2 rfl dX12_lets_46 rfl ?_
        obtain ⟨M16, hq14, h⟩ := zbv_e h
        refine zw_callSv (As := [.ref (E.2.1 28), .int x1]) (st := []) C (m_X12_letsOn C.2.2.2.2.2.2.2.1 zia_28 hq14) ks_X12_letsOn gw_4_214 (by decide) rfl rfl (Nat.le_of_ble_eq_true rfl) dX12_lets_47 ?_
        refine zw_aload_n C 1 rfl dX12_lets_50 rfl ?_
        refine zw_aload_n C 1 rfl dX12_lets_51 rfl ?_
        refine zw_get (v := .ref (E.2.1 28)) C (by decide) (zc_25 E) rfl zin_X12 6 (by decide) gw_3_201 rfl dX12_lets_52 ?_
        obtain ⟨M19, hq17, h⟩ := zbv_e h
        refine zw_callVv (As := [.ref (E.2.1 28)]) (st := []) C (m_X12_fills C.2.2.2.2.2.2.2.1 zia_28 hq17) kv_X12_fills gw_4_151 (by decide) (by decide) (zc_25 E) rfl rfl rfl rfl (Nat.le_of_ble_eq_true rfl) dX12_lets_55 ?_
        refine zw_iload_n C 0 rfl dX12_lets_58 rfl ?_
        exact zw_ireturnE C h dX12_lets_59
    · have h := zf_ hb9 h
      refine zw_bipush (v := (-2 : Int32)) C dX12_lets_35 ct_b_m2 ?_
      exact zw_ireturnE C h dX12_lets_37
def f_X12_lets (M : zM) (x1 : Int32) : Option (Int32 × zM) := f_X12_lets_0 x1 M
theorem m_X12_lets {l : Launch} {E : zE} (hI : zI E) {M M' : zM} {x1 : Int32} {r : Int32} (h : f_X12_lets M x1 = some (r, M')) : zMet l E yX12_lets cX12_lets 3 (some .int) 3 [.ref (E.2.1 25), .int x1] M M' (some (.int r)) := zm_of hI (by decide) (Nat.le_of_ble_eq_true rfl) (fun X _ C => p_X12_lets_0 C h)
theorem kv_X12_lets : zKV yX12_lets cX12_lets 3 (some .int) 1 := ⟨⟨gw_4_211, gw_4_212, gw_1_13, gw_4_213⟩, ⟨by decide, by decide, by decide +kernel⟩, by decide⟩
-- WingDoorModel.undo()I, 25 instructions, depth 1
def f_X12_undo_0 (M : zM) : Option (Int32 × zM) := if (M.1 25 9) = 0 then (some ((-2 : Int32), M)) else (zbv (f_X12_copies (zs M 25 9 ((M.1 25 9) - (1 : Int32))) 30 470 ((47 : Int32) * ((zs M 25 9 ((M.1 25 9) - (1 : Int32))).1 25 9)) 28 47 (0 : Int32) (47 : Int32)) (fun M4 => some (M4.1 25 9, M4)))
set_option maxRecDepth 20000 in
set_option maxHeartbeats 2000000 in
theorem p_X12_undo_0 {X : zX} {E : zE} {r : Int32} {M' : zM} (C : zC X E cX12_undo 1 RX12 (some .int) 1) {M : zM} (h : f_X12_undo_0  M = some (r, M')) : zW X E (zRQ X E (some (.int r)) M') M 0 [(0, .ref (E.2.1 25))] [] := by
  have h : (if (M.1 25 9) = 0 then (some ((-2 : Int32), M)) else (zbv (f_X12_copies (zs M 25 9 ((M.1 25 9) - (1 : Int32))) 30 470 ((47 : Int32) * ((zs M 25 9 ((M.1 25 9) - (1 : Int32))).1 25 9)) 28 47 (0 : Int32) (47 : Int32)) (fun M4 => some (M4.1 25 9, M4)))) = some (r, M') := h
  refine zw_aload_n C 0 rfl dX12_undo_0 rfl ?_
  refine zw_get (v := .int (M.1 25 9)) C (by decide) (zc_25 E) rfl zin_X12 9 (by decide) gw_3_204 rfl dX12_undo_1 ?_
  refine zw_if_ne (tgt := 10) C dX12_undo_4 (by decide) (fun hb1 => ?_) (fun hb1 => ?_)
  · have h := zt_ hb1 h
    refine zw_bipush (v := (-2 : Int32)) C dX12_undo_7 ct_b_m2 ?_
    exact zw_ireturnE C h dX12_undo_9
  · have h := zf_ hb1 h
    refine zw_aload_n C 0 rfl dX12_undo_10 rfl ?_
    refine zw_dup C rfl dX12_undo_11 ?_
    refine zw_get (v := .int (M.1 25 9)) C (by decide) (zc_25 E) rfl zin_X12 9 (by decide) gw_3_204 rfl dX12_undo_12 ?_
    refine zw_iconst (v := (1 : Int32)) C dX12_undo_15 ct_i_1 ?_
    refine zw_isub C dX12_undo_16 ?_
    refine zw_put (ty := .int) C (by decide) (zc_25 E) rfl zin_X12 tyX12 tyX12_ok nmX12 9 (by decide) gw_3_204 rfl rfl rfl rfl (fun _ _ => Nat.le_of_ble_eq_true rfl) (fun _ _ => rfl) dX12_undo_17 ?_
    refine zw_aload_n C 0 rfl dX12_undo_20 rfl ?_
    refine zw_get (v := .ref (E.2.1 30)) C (by decide) (zc_25 E) rfl zin_X12 8 (by decide) gw_3_203 rfl dX12_undo_21 ?_
    refine zw_bipush (v := (47 : Int32)) C dX12_undo_24 ct_b_47 ?_
    refine zw_aload_n C 0 rfl dX12_undo_26 rfl ?_
    refine zw_get (v := .int ((zs M 25 9 ((M.1 25 9) - (1 : Int32))).1 25 9)) C (by decide) (zc_25 E) rfl zin_X12 9 (by decide) gw_3_204 rfl dX12_undo_27 ?_
    refine zw_imul C dX12_undo_30 ?_
    refine zw_aload_n C 0 rfl dX12_undo_31 rfl ?_
    refine zw_get (v := .ref (E.2.1 28)) C (by decide) (zc_25 E) rfl zin_X12 6 (by decide) gw_3_201 rfl dX12_undo_32 ?_
    refine zw_iconst (v := (0 : Int32)) C dX12_undo_35 ct_i_0 ?_
    refine zw_bipush (v := (47 : Int32)) C dX12_undo_36 ct_b_47 ?_
    obtain ⟨M4, hq2, h⟩ := zbv_e h
    refine zw_callSv (As := [.ref (E.2.1 30), .int ((47 : Int32) * ((zs M 25 9 ((M.1 25 9) - (1 : Int32))).1 25 9)), .ref (E.2.1 28), .int (0 : Int32), .int (47 : Int32)]) (st := []) C (m_X12_copies C.2.2.2.2.2.2.2.1 zia_30 zia_28 hq2) ks_X12_copies gw_4_95 (by decide) rfl rfl (Nat.le_of_ble_eq_true rfl) dX12_undo_38 ?_
    refine zw_aload_n C 0 rfl dX12_undo_41 rfl ?_
    refine zw_get (v := .int (M4.1 25 9)) C (by decide) (zc_25 E) rfl zin_X12 9 (by decide) gw_3_204 rfl dX12_undo_42 ?_
    exact zw_ireturnE C h dX12_undo_45
def f_X12_undo (M : zM) : Option (Int32 × zM) := f_X12_undo_0 M
theorem m_X12_undo {l : Launch} {E : zE} (hI : zI E) {M M' : zM} {r : Int32} (h : f_X12_undo M = some (r, M')) : zMet l E yX12_undo cX12_undo 1 (some .int) 1 [.ref (E.2.1 25)] M M' (some (.int r)) := zm_of hI (by decide) (Nat.le_of_ble_eq_true rfl) (fun X _ C => p_X12_undo_0 C h)
theorem kv_X12_undo : zKV yX12_undo cX12_undo 1 (some .int) 0 := ⟨⟨gw_4_218, gw_4_219, gw_1_13, gw_4_220⟩, ⟨by decide, by decide, by decide +kernel⟩, by decide⟩
-- WingDoorModel.best(IZ)I, 72 instructions, depth 5
def f_X12_best_134 (x1 : Int32) (x2 : Int32) (k17 : zM → Int32 → Int32 → Int32 → Option (Int32 × zM)) (M : zM) (x4 : Int32) (x5 : Int32) (s0 : Int32) : Option (Int32 × zM) := k17 M s0 x4 (x5 + (1 : Int32))
set_option maxRecDepth 20000 in
set_option maxHeartbeats 2000000 in
theorem p_X12_best_134 {X : zX} {E : zE} {x1 : Int32} {x2 : Int32} {r : Int32} {M' : zM} {k17 : zM → Int32 → Int32 → Int32 → Option (Int32 × zM)} (C : zC X E cX12_best 7 RX12 (some .int) 5) (hk17 : ∀ (M : zM) (y3 : Int32) (y4 : Int32) (y5 : Int32), k17 M y3 y4 y5 = some (r, M') → zW X E (zRQ X E (some (.int r)) M') M 17 [(0, .ref (E.2.1 25)), (1, .int x1), (2, .int x2), (3, .int y3), (4, .int y4), (5, .int y5)] []) {M : zM} {x4 : Int32} {x5 : Int32} {s0 : Int32} (h : f_X12_best_134 x1 x2 k17 M x4 x5 s0 = some (r, M')) : zW X E (zRQ X E (some (.int r)) M') M 134 [(0, .ref (E.2.1 25)), (1, .int x1), (2, .int x2), (4, .int x4), (5, .int x5)] [.int s0] := by
  have h : (k17 M s0 x4 (x5 + (1 : Int32))) = some (r, M') := h
  refine zw_istore_n (lv' := [(3, .int s0), (0, .ref (E.2.1 25)), (1, .int x1), (2, .int x2), (4, .int x4), (5, .int x5)]) C dX12_best_134 rfl (by decide) rfl ?_
  refine zw_iinc (lv' := [(5, .int (x5 + (1 : Int32))), (3, .int s0), (0, .ref (E.2.1 25)), (1, .int x1), (2, .int x2), (4, .int x4)]) C 5 rfl dX12_best_135 (ct_n_1 _) (by decide) rfl ?_
  refine zw_goto (tgt := 17) C dX12_best_138 (by decide) ?_
  refine zw_sb [2, 3, 4, 1, 5, 0] rfl ?_
  exact hk17 _ _ _ _ h
def f_X12_best_120 (x1 : Int32) (x2 : Int32) (k17 : zM → Int32 → Int32 → Int32 → Option (Int32 × zM)) (M : zM) (x3 : Int32) (x5 : Int32) (x6 : Int32) (s0 : Int32) : Option (Int32 × zM) := if x3 ≤ x6 then (f_X12_best_134 x1 x2 k17 M s0 x5 x3) else (f_X12_best_134 x1 x2 k17 M s0 x5 x6)
set_option maxRecDepth 20000 in
set_option maxHeartbeats 2000000 in
theorem p_X12_best_120 {X : zX} {E : zE} {x1 : Int32} {x2 : Int32} {r : Int32} {M' : zM} {k17 : zM → Int32 → Int32 → Int32 → Option (Int32 × zM)} (C : zC X E cX12_best 7 RX12 (some .int) 5) (hk17 : ∀ (M : zM) (y3 : Int32) (y4 : Int32) (y5 : Int32), k17 M y3 y4 y5 = some (r, M') → zW X E (zRQ X E (some (.int r)) M') M 17 [(0, .ref (E.2.1 25)), (1, .int x1), (2, .int x2), (3, .int y3), (4, .int y4), (5, .int y5)] []) {M : zM} {x3 : Int32} {x5 : Int32} {x6 : Int32} {s0 : Int32} (h : f_X12_best_120 x1 x2 k17 M x3 x5 x6 s0 = some (r, M')) : zW X E (zRQ X E (some (.int r)) M') M 120 [(0, .ref (E.2.1 25)), (1, .int x1), (2, .int x2), (3, .int x3), (5, .int x5), (6, .int x6)] [.int s0] := by
  have h : (if x3 ≤ x6 then (f_X12_best_134 x1 x2 k17 M s0 x5 x3) else (f_X12_best_134 x1 x2 k17 M s0 x5 x6)) = some (r, M') := h
  refine zw_istore (lv' := [(4, .int s0), (0, .ref (E.2.1 25)), (1, .int x1), (2, .int x2), (3, .int x3), (5, .int x5), (6, .int x6)]) C dX12_best_120 (by decide) rfl ?_
  refine zw_iload C 6 rfl dX12_best_122 ?_
  refine zw_iload_n C 4 rfl dX12_best_124 rfl ?_
  refine zw_icmp_ge (tgt := 133) C dX12_best_125 (by decide) (fun hb1 => ?_) (fun hb1 => ?_)
  · have h := zt_ hb1 h
    refine zw_iload_n C 4 rfl dX12_best_133 rfl ?_
    refine zw_sb [1, 2, 3, 0, 5] rfl ?_
    exact p_X12_best_134 C hk17 h
  · have h := zf_ hb1 h
    refine zw_iload C 6 rfl dX12_best_128 ?_
    refine zw_goto (tgt := 134) C dX12_best_130 (by decide) ?_
    refine zw_sb [1, 2, 3, 0, 5] rfl ?_
    exact p_X12_best_134 C hk17 h
def f_X12_best_92 (x1 : Int32) (x2 : Int32) (k17 : zM → Int32 → Int32 → Int32 → Option (Int32 × zM)) (M : zM) (x3 : Int32) (x4 : Int32) (x5 : Int32) : Option (Int32 × zM) := zbv (f_X12_fills M 29) (fun M3 => zbi (f_X12_whenAside M3 x1) (fun r5 M6 => if x3 ≤ r5 then (f_X12_best_120 x1 x2 k17 M6 x3 x5 r5 x4) else (f_X12_best_120 x1 x2 k17 M6 x3 x5 r5 x5)))
set_option maxRecDepth 20000 in
set_option maxHeartbeats 2000000 in
theorem p_X12_best_92 {X : zX} {E : zE} {x1 : Int32} {x2 : Int32} {r : Int32} {M' : zM} {k17 : zM → Int32 → Int32 → Int32 → Option (Int32 × zM)} (C : zC X E cX12_best 7 RX12 (some .int) 5) (hk17 : ∀ (M : zM) (y3 : Int32) (y4 : Int32) (y5 : Int32), k17 M y3 y4 y5 = some (r, M') → zW X E (zRQ X E (some (.int r)) M') M 17 [(0, .ref (E.2.1 25)), (1, .int x1), (2, .int x2), (3, .int y3), (4, .int y4), (5, .int y5)] []) {M : zM} {x3 : Int32} {x4 : Int32} {x5 : Int32} (h : f_X12_best_92 x1 x2 k17 M x3 x4 x5 = some (r, M')) : zW X E (zRQ X E (some (.int r)) M') M 92 [(0, .ref (E.2.1 25)), (1, .int x1), (2, .int x2), (3, .int x3), (4, .int x4), (5, .int x5)] [] := by
  have h : (zbv (f_X12_fills M 29) (fun M3 => zbi (f_X12_whenAside M3 x1) (fun r5 M6 => if x3 ≤ r5 then (f_X12_best_120 x1 x2 k17 M6 x3 x5 r5 x4) else (f_X12_best_120 x1 x2 k17 M6 x3 x5 r5 x5)))) = some (r, M') := h
  refine zw_aload_n C 0 rfl dX12_best_92 rfl ?_
  refine zw_aload_n C 0 rfl dX12_best_93 rfl ?_
  refine zw_get (v := .ref (E.2.1 29)) C (by decide) (zc_25 E) rfl zin_X12 7 (by decide) gw_3_202 rfl dX12_best_94 ?_
  obtain ⟨M3, hq1, h⟩ := zbv_e h
  refine zw_callVv (As := [.ref (E.2.1 29)]) (st := []) C (m_X12_fills C.2.2.2.2.2.2.2.1 zia_29 hq1) kv_X12_fills gw_4_151 (by decide) (by decide) (zc_25 E) rfl rfl rfl rfl (Nat.le_of_ble_eq_true rfl) dX12_best_97 ?_
  refine zw_aload_n C 0 rfl dX12_best_100 rfl ?_
  refine zw_iload_n C 1 rfl dX12_best_101 rfl ?_
  obtain ⟨r5, M6, hq4, h⟩ := zbi_e h
  refine zw_callVi (As := [.int x1]) (st := []) C (m_X12_whenAside C.2.2.2.2.2.2.2.1 hq4) kv_X12_whenAside gw_4_121 (by decide) (by decide) (zc_25 E) rfl rfl rfl rfl (Nat.le_of_ble_eq_true rfl) dX12_best_102 ?_
  refine zw_istore (lv' := [(6, .int r5), (0, .ref (E.2.1 25)), (1, .int x1), (2, .int x2), (3, .int x3), (4, .int x4), (5, .int x5)]) C dX12_best_105 (by decide) rfl ?_
  refine zw_iload C 0 rfl dX12_best_107 ?_
  refine zw_iload_n C 4 rfl dX12_best_109 rfl ?_
  refine zw_icmp_ge (tgt := 118) C dX12_best_110 (by decide) (fun hb7 => ?_) (fun hb7 => ?_)
  · have h := zt_ hb7 h
    refine zw_iload C 5 rfl dX12_best_118 ?_
    refine zw_sb [1, 2, 3, 4, 6, 0] rfl ?_
    exact p_X12_best_120 C hk17 h
  · have h := zf_ hb7 h
    refine zw_iload C 6 rfl dX12_best_113 ?_
    refine zw_goto (tgt := 120) C dX12_best_115 (by decide) ?_
    refine zw_sb [1, 2, 3, 4, 6, 0] rfl ?_
    exact p_X12_best_120 C hk17 h
def f_X12_best_63 (x1 : Int32) (x2 : Int32) (k17 : zM → Int32 → Int32 → Int32 → Option (Int32 × zM)) (M : zM) (x3 : Int32) (x4 : Int32) (x5 : Int32) : Option (Int32 × zM) := zbv (f_X12_layAside M) (fun M3 => if x2 = 0 then (zbv (f_X12_letsOn M3 29 x5) (fun M7 => f_X12_best_92 x1 x2 k17 M7 x3 x4 x5)) else (zbv (f_X12_leavesOn M3 29 x5) (fun M10 => f_X12_best_92 x1 x2 k17 M10 x3 x4 x5)))
set_option maxRecDepth 20000 in
set_option maxHeartbeats 2000000 in
theorem p_X12_best_63 {X : zX} {E : zE} {x1 : Int32} {x2 : Int32} {r : Int32} {M' : zM} {k17 : zM → Int32 → Int32 → Int32 → Option (Int32 × zM)} (C : zC X E cX12_best 7 RX12 (some .int) 5) (hk17 : ∀ (M : zM) (y3 : Int32) (y4 : Int32) (y5 : Int32), k17 M y3 y4 y5 = some (r, M') → zW X E (zRQ X E (some (.int r)) M') M 17 [(0, .ref (E.2.1 25)), (1, .int x1), (2, .int x2), (3, .int y3), (4, .int y4), (5, .int y5)] []) {M : zM} {x3 : Int32} {x4 : Int32} {x5 : Int32} (h : f_X12_best_63 x1 x2 k17 M x3 x4 x5 = some (r, M')) : zW X E (zRQ X E (some (.int r)) M') M 63 [(0, .ref (E.2.1 25)), (1, .int x1), (2, .int x2), (3, .int x3), (4, .int x4), (5, .int x5)] [] := by
  have h : (zbv (f_X12_layAside M) (fun M3 => if x2 = 0 then (zbv (f_X12_letsOn M3 29 x5) (fun M7 => f_X12_best_92 x1 x2 k17 M7 x3 x4 x5)) else (zbv (f_X12_leavesOn M3 29 x5) (fun M10 => f_X12_best_92 x1 x2 k17 M10 x3 x4 x5)))) = some (r, M') := h
  refine zw_aload_n C 0 rfl dX12_best_63 rfl ?_
  obtain ⟨M3, hq1, h⟩ := zbv_e h
  refine zw_callVv (As := []) (st := []) C (m_X12_layAside C.2.2.2.2.2.2.2.1 hq1) kv_X12_layAside gw_4_117 (by decide) (by decide) (zc_25 E) rfl rfl rfl rfl (Nat.le_of_ble_eq_true rfl) dX12_best_64 ?_
  refine zw_iload_n C 2 rfl dX12_best_67 rfl ?_
  refine zw_if_eq (tgt := 83) C dX12_best_68 (by decide) (fun hb4 => ?_) (fun hb4 => ?_)
  · have h := zt_ hb4 h
    refine zw_aload_n C 0 rfl dX12_best_83 rfl ?_
    refine zw_get (v := .ref (E.2.1 29)) C (by decide) (zc_25 E) rfl zin_X12 7 (by decide) gw_3_202 rfl dX12_best_84 ?_
    refine zw_iload C 5 rfl dX12_best_87 ?_
    obtain ⟨M7, hq5, h⟩ := zbv_e h
    refine zw_callSv (As := [.ref (E.2.1 29), .int x5]) (st := []) C (m_X12_letsOn C.2.2.2.2.2.2.2.1 zia_29 hq5) ks_X12_letsOn gw_4_214 (by decide) rfl rfl (Nat.le_of_ble_eq_true rfl) dX12_best_89 ?_
    exact p_X12_best_92 C hk17 h
  · have h := zf_ hb4 h
    refine zw_aload_n C 0 rfl dX12_best_71 rfl ?_
    refine zw_get (v := .ref (E.2.1 29)) C (by decide) (zc_25 E) rfl zin_X12 7 (by decide) gw_3_202 rfl dX12_best_72 ?_
    refine zw_iload C 5 rfl dX12_best_75 ?_
    obtain ⟨M10, hq8, h⟩ := zbv_e h
    refine zw_callSv (As := [.ref (E.2.1 29), .int x5]) (st := []) C (m_X12_leavesOn C.2.2.2.2.2.2.2.1 zia_29 hq8) ks_X12_leavesOn gw_4_207 (by decide) rfl rfl (Nat.le_of_ble_eq_true rfl) dX12_best_77 ?_
    refine zw_goto (tgt := 92) C dX12_best_80 (by decide) ?_
    exact p_X12_best_92 C hk17 h
def f_X12_best_17 (x1 : Int32) (x2 : Int32) : Nat → zM → Int32 → Int32 → Int32 → Option (Int32 × zM)
  | 0, _, _, _, _ => none
  | n + 1, M, x3, x4, x5 => zg (zin (0 : Int32) 47) (if (M.1 28 (0 : Int32).toNatClampNeg) ≤ x5 then (some (x4, M)) else (if x5 = x1 then (f_X12_best_17 x1 x2 n M x3 x4 (x5 + (1 : Int32))) else (zg (zin ((20 : Int32) + x5) 47) (if (M.1 28 ((20 : Int32) + x5).toNatClampNeg) = 0 then (if x2 = 0 then (zbi (f_X12_aheadOf M 28 x5) (fun r8 M9 => if r8 ≤ 0 then (f_X12_best_17 x1 x2 n M9 x3 x4 (x5 + (1 : Int32))) else (f_X12_best_63 x1 x2 (f_X12_best_17 x1 x2 n) M9 x3 x4 x5))) else (f_X12_best_63 x1 x2 (f_X12_best_17 x1 x2 n) M x3 x4 x5)) else (f_X12_best_17 x1 x2 n M x3 x4 (x5 + (1 : Int32)))))))
set_option maxRecDepth 20000 in
set_option maxHeartbeats 2000000 in
theorem p_X12_best_17 {X : zX} {E : zE} {x1 : Int32} {x2 : Int32} {r : Int32} {M' : zM} (C : zC X E cX12_best 7 RX12 (some .int) 5) : ∀ (n : Nat) (M : zM) (x3 : Int32) (x4 : Int32) (x5 : Int32), f_X12_best_17 x1 x2 n M x3 x4 x5 = some (r, M') → zW X E (zRQ X E (some (.int r)) M') M 17 [(0, .ref (E.2.1 25)), (1, .int x1), (2, .int x2), (3, .int x3), (4, .int x4), (5, .int x5)] [] := by
  intro n
  induction n with
  | zero => intro M x3 x4 x5 h; cases h
  | succ n ih =>
    intro M x3 x4 x5 h
    have h : (zg (zin (0 : Int32) 47) (if (M.1 28 (0 : Int32).toNatClampNeg) ≤ x5 then (some (x4, M)) else (if x5 = x1 then (f_X12_best_17 x1 x2 n M x3 x4 (x5 + (1 : Int32))) else (zg (zin ((20 : Int32) + x5) 47) (if (M.1 28 ((20 : Int32) + x5).toNatClampNeg) = 0 then (if x2 = 0 then (zbi (f_X12_aheadOf M 28 x5) (fun r8 M9 => if r8 ≤ 0 then (f_X12_best_17 x1 x2 n M9 x3 x4 (x5 + (1 : Int32))) else (f_X12_best_63 x1 x2 (f_X12_best_17 x1 x2 n) M9 x3 x4 x5))) else (f_X12_best_63 x1 x2 (f_X12_best_17 x1 x2 n) M x3 x4 x5)) else (f_X12_best_17 x1 x2 n M x3 x4 (x5 + (1 : Int32)))))))) = some (r, M') := h
    refine zw_iload C 5 rfl dX12_best_17 ?_
    refine zw_aload_n C 0 rfl dX12_best_19 rfl ?_
    refine zw_get (v := .ref (E.2.1 28)) C (by decide) (zc_25 E) rfl zin_X12 6 (by decide) gw_3_201 rfl dX12_best_20 ?_
    refine zw_iconst (v := (0 : Int32)) C dX12_best_23 ct_i_0 ?_
    obtain ⟨hi1, h⟩ := zg_e h
    refine zw_iald C zia_28 (zin_e hi1) dX12_best_24 ?_
    refine zw_icmp_ge (tgt := 141) C dX12_best_25 (by decide) (fun hb2 => ?_) (fun hb2 => ?_)
    · have h := zt_ hb2 h
      refine zw_iload C 4 rfl dX12_best_141 ?_
      exact zw_ireturnE C h dX12_best_143
    · have h := zf_ hb2 h
      refine zw_iload C 5 rfl dX12_best_28 ?_
      refine zw_iload_n C 1 rfl dX12_best_30 rfl ?_
      refine zw_icmp_eq (tgt := 135) C dX12_best_31 (by decide) (fun hb3 => ?_) (fun hb3 => ?_)
      · have h := zt_ hb3 h
        refine zw_iinc (lv' := [(5, .int (x5 + (1 : Int32))), (0, .ref (E.2.1 25)), (1, .int x1), (2, .int x2), (3, .int x3), (4, .int x4)]) C 5 rfl dX12_best_135 (ct_n_1 _) (by decide) rfl ?_
        refine zw_goto (tgt := 17) C dX12_best_138 (by decide) ?_
        refine zw_sb [1, 2, 3, 4, 5, 0] rfl ?_
        exact ih _ _ _ _ h
      · have h := zf_ hb3 h
        refine zw_aload_n C 0 rfl dX12_best_34 rfl ?_
        refine zw_get (v := .ref (E.2.1 28)) C (by decide) (zc_25 E) rfl zin_X12 6 (by decide) gw_3_201 rfl dX12_best_35 ?_
        refine zw_bipush (v := (20 : Int32)) C dX12_best_38 ct_b_20 ?_
        refine zw_iload C 5 rfl dX12_best_40 ?_
        refine zw_iadd C dX12_best_42 ?_
        obtain ⟨hi4, h⟩ := zg_e h
        refine zw_iald C zia_28 (zin_e hi4) dX12_best_43 ?_
        refine zw_if_ne (tgt := 135) C dX12_best_44 (by decide) (fun hb5 => ?_) (fun hb5 => ?_)
        · have h := zt_ hb5 h
          refine zw_iload_n C 2 rfl dX12_best_47 rfl ?_
          refine zw_if_ne (tgt := 63) C dX12_best_48 (by decide) (fun hb6 => ?_) (fun hb6 => ?_)
          · have h := zt_ hb6 h
            refine zw_aload_n C 0 rfl dX12_best_51 rfl ?_
            refine zw_get (v := .ref (E.2.1 28)) C (by decide) (zc_25 E) rfl zin_X12 6 (by decide) gw_3_201 rfl dX12_best_52 ?_
            refine zw_iload C 5 rfl dX12_best_55 ?_
            obtain ⟨r8, M9, hq7, h⟩ := zbi_e h
            refine zw_callSi (As := [.ref (E.2.1 28), .int x5]) (st := []) C (m_X12_aheadOf C.2.2.2.2.2.2.2.1 zia_28 hq7) ks_X12_aheadOf gw_4_110 (by decide) rfl rfl (Nat.le_of_ble_eq_true rfl) dX12_best_57 ?_
            refine zw_if_le (tgt := 135) C dX12_best_60 (by decide) (fun hb10 => ?_) (fun hb10 => ?_)
            · have h := zt_ hb10 h
              refine zw_iinc (lv' := [(5, .int (x5 + (1 : Int32))), (0, .ref (E.2.1 25)), (1, .int x1), (2, .int x2), (3, .int x3), (4, .int x4)]) C 5 rfl dX12_best_135 (ct_n_1 _) (by decide) rfl ?_
              refine zw_goto (tgt := 17) C dX12_best_138 (by decide) ?_
              refine zw_sb [1, 2, 3, 4, 5, 0] rfl ?_
              exact ih _ _ _ _ h
            · have h := zf_ hb10 h
              exact p_X12_best_63 C (fun _ _ _ _ h => ih _ _ _ _ h) h
          · have h := zf_ hb6 h
            exact p_X12_best_63 C (fun _ _ _ _ h => ih _ _ _ _ h) h
        · have h := zf_ hb5 h
          refine zw_iinc (lv' := [(5, .int (x5 + (1 : Int32))), (0, .ref (E.2.1 25)), (1, .int x1), (2, .int x2), (3, .int x3), (4, .int x4)]) C 5 rfl dX12_best_135 (ct_n_1 _) (by decide) rfl ?_
          refine zw_goto (tgt := 17) C dX12_best_138 (by decide) ?_
          refine zw_sb [1, 2, 3, 4, 5, 0] rfl ?_
          exact ih _ _ _ _ h
def f_X12_best_0 (x1 : Int32) (x2 : Int32) (M : zM) : Option (Int32 × zM) := zbv (f_X12_layAside M) (fun M3 => zbi (f_X12_whenAside M3 x1) (fun r5 M6 => f_X12_best_17 x1 x2 zFU M6 r5 (-9 : Int32) (0 : Int32)))
set_option maxRecDepth 20000 in
set_option maxHeartbeats 2000000 in
theorem p_X12_best_0 {X : zX} {E : zE} {x1 : Int32} {x2 : Int32} {r : Int32} {M' : zM} (C : zC X E cX12_best 7 RX12 (some .int) 5) {M : zM} (h : f_X12_best_0 x1 x2 M = some (r, M')) : zW X E (zRQ X E (some (.int r)) M') M 0 [(0, .ref (E.2.1 25)), (1, .int x1), (2, .int x2)] [] := by
  have h : (zbv (f_X12_layAside M) (fun M3 => zbi (f_X12_whenAside M3 x1) (fun r5 M6 => f_X12_best_17 x1 x2 zFU M6 r5 (-9 : Int32) (0 : Int32)))) = some (r, M') := h
  refine zw_aload_n C 0 rfl dX12_best_0 rfl ?_
  obtain ⟨M3, hq1, h⟩ := zbv_e h
  refine zw_callVv (As := []) (st := []) C (m_X12_layAside C.2.2.2.2.2.2.2.1 hq1) kv_X12_layAside gw_4_117 (by decide) (by decide) (zc_25 E) rfl rfl rfl rfl (Nat.le_of_ble_eq_true rfl) dX12_best_1 ?_
  refine zw_aload_n C 0 rfl dX12_best_4 rfl ?_
  refine zw_iload_n C 1 rfl dX12_best_5 rfl ?_
  obtain ⟨r5, M6, hq4, h⟩ := zbi_e h
  refine zw_callVi (As := [.int x1]) (st := []) C (m_X12_whenAside C.2.2.2.2.2.2.2.1 hq4) kv_X12_whenAside gw_4_121 (by decide) (by decide) (zc_25 E) rfl rfl rfl rfl (Nat.le_of_ble_eq_true rfl) dX12_best_6 ?_
  refine zw_istore_n (lv' := [(3, .int r5), (0, .ref (E.2.1 25)), (1, .int x1), (2, .int x2)]) C dX12_best_9 rfl (by decide) rfl ?_
  refine zw_bipush (v := (-9 : Int32)) C dX12_best_10 ct_b_m9 ?_
  refine zw_istore (lv' := [(4, .int (-9 : Int32)), (3, .int r5), (0, .ref (E.2.1 25)), (1, .int x1), (2, .int x2)]) C dX12_best_12 (by decide) rfl ?_
  refine zw_iconst (v := (0 : Int32)) C dX12_best_14 ct_i_0 ?_
  refine zw_istore (lv' := [(5, .int (0 : Int32)), (4, .int (-9 : Int32)), (3, .int r5), (0, .ref (E.2.1 25)), (1, .int x1), (2, .int x2)]) C dX12_best_15 (by decide) rfl ?_
  refine zw_sb [3, 4, 5, 2, 1, 0] rfl ?_
  exact p_X12_best_17 C zFU _ _ _ _ h
def f_X12_best (M : zM) (x1 : Int32) (x2 : Int32) : Option (Int32 × zM) := f_X12_best_0 x1 x2 M
theorem m_X12_best {l : Launch} {E : zE} (hI : zI E) {M M' : zM} {x1 : Int32} {x2 : Int32} {r : Int32} (h : f_X12_best M x1 x2 = some (r, M')) : zMet l E yX12_best cX12_best 7 (some .int) 5 [.ref (E.2.1 25), .int x1, .int x2] M M' (some (.int r)) := zm_of hI (by decide) (Nat.le_of_ble_eq_true rfl) (fun X _ C => p_X12_best_0 C h)
theorem kv_X12_best : zKV yX12_best cX12_best 7 (some .int) 2 := ⟨⟨gw_4_227, gs_42, gw_1_13, gw_4_228⟩, ⟨by decide, by decide, by decide +kernel⟩, by decide⟩
-- WingDoorModel.spare(I)I, 11 instructions, depth 6
def f_X12_spare_0 (x1 : Int32) (M : zM) : Option (Int32 × zM) := zbi (f_X12_isGoer M x1) (fun r2 M3 => if r2 = 0 then (some ((-1 : Int32), M3)) else (zbi (f_X12_best M3 x1 (1 : Int32)) (fun r6 M7 => some (r6, M7))))
set_option maxRecDepth 20000 in
set_option maxHeartbeats 2000000 in
theorem p_X12_spare_0 {X : zX} {E : zE} {x1 : Int32} {r : Int32} {M' : zM} (C : zC X E cX12_spare 2 RX12 (some .int) 6) {M : zM} (h : f_X12_spare_0 x1 M = some (r, M')) : zW X E (zRQ X E (some (.int r)) M') M 0 [(0, .ref (E.2.1 25)), (1, .int x1)] [] := by
  have h : (zbi (f_X12_isGoer M x1) (fun r2 M3 => if r2 = 0 then (some ((-1 : Int32), M3)) else (zbi (f_X12_best M3 x1 (1 : Int32)) (fun r6 M7 => some (r6, M7))))) = some (r, M') := h
  refine zw_aload_n C 0 rfl dX12_spare_0 rfl ?_
  refine zw_iload_n C 1 rfl dX12_spare_1 rfl ?_
  obtain ⟨r2, M3, hq1, h⟩ := zbi_e h
  refine zw_callVi (As := [.int x1]) (st := []) C (m_X12_isGoer C.2.2.2.2.2.2.2.1 hq1) kv_X12_isGoer gw_4_106 (by decide) (by decide) (zc_25 E) rfl rfl rfl rfl (Nat.le_of_ble_eq_true rfl) dX12_spare_2 ?_
  refine zw_if_eq (tgt := 17) C dX12_spare_5 (by decide) (fun hb4 => ?_) (fun hb4 => ?_)
  · have h := zt_ hb4 h
    refine zw_iconst (v := (-1 : Int32)) C dX12_spare_17 ct_i_m1 ?_
    exact zw_ireturnE C h dX12_spare_18
  · have h := zf_ hb4 h
    refine zw_aload_n C 0 rfl dX12_spare_8 rfl ?_
    refine zw_iload_n C 1 rfl dX12_spare_9 rfl ?_
    refine zw_iconst (v := (1 : Int32)) C dX12_spare_10 ct_i_1 ?_
    obtain ⟨r6, M7, hq5, h⟩ := zbi_e h
    refine zw_callVi (As := [.int x1, .int (1 : Int32)]) (st := []) C (m_X12_best C.2.2.2.2.2.2.2.1 hq5) kv_X12_best gw_4_225 (by decide) (by decide) (zc_25 E) rfl rfl rfl rfl (Nat.le_of_ble_eq_true rfl) dX12_spare_11 ?_
    refine zw_goto (tgt := 18) C dX12_spare_14 (by decide) ?_
    exact zw_ireturnE C h dX12_spare_18
def f_X12_spare (M : zM) (x1 : Int32) : Option (Int32 × zM) := f_X12_spare_0 x1 M
theorem m_X12_spare {l : Launch} {E : zE} (hI : zI E) {M M' : zM} {x1 : Int32} {r : Int32} (h : f_X12_spare M x1 = some (r, M')) : zMet l E yX12_spare cX12_spare 2 (some .int) 6 [.ref (E.2.1 25), .int x1] M M' (some (.int r)) := zm_of hI (by decide) (Nat.le_of_ble_eq_true rfl) (fun X _ C => p_X12_spare_0 C h)
theorem kv_X12_spare : zKV yX12_spare cX12_spare 2 (some .int) 1 := ⟨⟨gw_4_222, gw_4_223, gw_1_13, gw_4_224⟩, ⟨by decide, by decide, by decide +kernel⟩, by decide⟩
-- WingDoorModel.ahead(I)I, 11 instructions, depth 6
def f_X12_ahead_0 (x1 : Int32) (M : zM) : Option (Int32 × zM) := zbi (f_X12_isGoer M x1) (fun r2 M3 => if r2 = 0 then (some ((-1 : Int32), M3)) else (zbi (f_X12_best M3 x1 (0 : Int32)) (fun r6 M7 => some (r6, M7))))
set_option maxRecDepth 20000 in
set_option maxHeartbeats 2000000 in
theorem p_X12_ahead_0 {X : zX} {E : zE} {x1 : Int32} {r : Int32} {M' : zM} (C : zC X E cX12_ahead 2 RX12 (some .int) 6) {M : zM} (h : f_X12_ahead_0 x1 M = some (r, M')) : zW X E (zRQ X E (some (.int r)) M') M 0 [(0, .ref (E.2.1 25)), (1, .int x1)] [] := by
  have h : (zbi (f_X12_isGoer M x1) (fun r2 M3 => if r2 = 0 then (some ((-1 : Int32), M3)) else (zbi (f_X12_best M3 x1 (0 : Int32)) (fun r6 M7 => some (r6, M7))))) = some (r, M') := h
  refine zw_aload_n C 0 rfl dX12_ahead_0 rfl ?_
  refine zw_iload_n C 1 rfl dX12_ahead_1 rfl ?_
  obtain ⟨r2, M3, hq1, h⟩ := zbi_e h
  refine zw_callVi (As := [.int x1]) (st := []) C (m_X12_isGoer C.2.2.2.2.2.2.2.1 hq1) kv_X12_isGoer gw_4_106 (by decide) (by decide) (zc_25 E) rfl rfl rfl rfl (Nat.le_of_ble_eq_true rfl) dX12_ahead_2 ?_
  refine zw_if_eq (tgt := 17) C dX12_ahead_5 (by decide) (fun hb4 => ?_) (fun hb4 => ?_)
  · have h := zt_ hb4 h
    refine zw_iconst (v := (-1 : Int32)) C dX12_ahead_17 ct_i_m1 ?_
    exact zw_ireturnE C h dX12_ahead_18
  · have h := zf_ hb4 h
    refine zw_aload_n C 0 rfl dX12_ahead_8 rfl ?_
    refine zw_iload_n C 1 rfl dX12_ahead_9 rfl ?_
    refine zw_iconst (v := (0 : Int32)) C dX12_ahead_10 ct_i_0 ?_
    obtain ⟨r6, M7, hq5, h⟩ := zbi_e h
    refine zw_callVi (As := [.int x1, .int (0 : Int32)]) (st := []) C (m_X12_best C.2.2.2.2.2.2.2.1 hq5) kv_X12_best gw_4_225 (by decide) (by decide) (zc_25 E) rfl rfl rfl rfl (Nat.le_of_ble_eq_true rfl) dX12_ahead_11 ?_
    refine zw_goto (tgt := 18) C dX12_ahead_14 (by decide) ?_
    exact zw_ireturnE C h dX12_ahead_18
def f_X12_ahead (M : zM) (x1 : Int32) : Option (Int32 × zM) := f_X12_ahead_0 x1 M
theorem m_X12_ahead {l : Launch} {E : zE} (hI : zI E) {M M' : zM} {x1 : Int32} {r : Int32} (h : f_X12_ahead M x1 = some (r, M')) : zMet l E yX12_ahead cX12_ahead 2 (some .int) 6 [.ref (E.2.1 25), .int x1] M M' (some (.int r)) := zm_of hI (by decide) (Nat.le_of_ble_eq_true rfl) (fun X _ C => p_X12_ahead_0 C h)
theorem kv_X12_ahead : zKV yX12_ahead cX12_ahead 2 (some .int) 1 := ⟨⟨gw_4_230, gw_4_231, gw_1_13, gw_4_232⟩, ⟨by decide, by decide, by decide +kernel⟩, by decide⟩
-- WingDoorModel.power(JI)J, 15 instructions, depth 0
def f_X12_power_5 (x0 : Int64) (x2 : Int32) : Nat → zM → Int64 → Int32 → Option (Int64 × zM)
  | 0, _, _, _ => none
  | n + 1, M, x3, x5 => if x2 ≤ x5 then (some (x3, M)) else (f_X12_power_5 x0 x2 n M (x3 * x0) (x5 + (1 : Int32)))
set_option maxRecDepth 20000 in
set_option maxHeartbeats 2000000 in
theorem p_X12_power_5 {X : zX} {E : zE} {x0 : Int64} {x2 : Int32} {r : Int64} {M' : zM} (C : zC X E cX12_power 6 RX12 (some .long) 0) : ∀ (n : Nat) (M : zM) (x3 : Int64) (x5 : Int32), f_X12_power_5 x0 x2 n M x3 x5 = some (r, M') → zW X E (zRQ X E (some (.long r)) M') M 5 [(0, .long x0), (2, .int x2), (3, .long x3), (5, .int x5)] [] := by
  intro n
  induction n with
  | zero => intro M x3 x5 h; cases h
  | succ n ih =>
    intro M x3 x5 h
    have h : (if x2 ≤ x5 then (some (x3, M)) else (f_X12_power_5 x0 x2 n M (x3 * x0) (x5 + (1 : Int32)))) = some (r, M') := h
    refine zw_iload C 3 rfl dX12_power_5 ?_
    refine zw_iload_n C 1 rfl dX12_power_7 rfl ?_
    refine zw_icmp_ge (tgt := 21) C dX12_power_8 (by decide) (fun hb1 => ?_) (fun hb1 => ?_)
    · have h := zt_ hb1 h
      refine zw_lload_n C 2 rfl dX12_power_21 rfl ?_
      exact zw_lreturnE C h dX12_power_22
    · have h := zf_ hb1 h
      refine zw_lload_n C 2 rfl dX12_power_11 rfl ?_
      refine zw_lload_n C 0 rfl dX12_power_12 rfl ?_
      refine zw_lmul C dX12_power_13 ?_
      refine zw_lstore_n (lv' := [(3, .long (x3 * x0)), (0, .long x0), (2, .int x2), (5, .int x5)]) C dX12_power_14 rfl (by decide) rfl ?_
      refine zw_iinc (lv' := [(5, .int (x5 + (1 : Int32))), (3, .long (x3 * x0)), (0, .long x0), (2, .int x2)]) C 3 rfl dX12_power_15 (ct_n_1 _) (by decide) rfl ?_
      refine zw_goto (tgt := 5) C dX12_power_18 (by decide) ?_
      refine zw_sb [2, 3, 1, 0] rfl ?_
      exact ih _ _ _ h
def f_X12_power_0 (x0 : Int64) (x2 : Int32) (M : zM) : Option (Int64 × zM) := f_X12_power_5 x0 x2 zFU M (1 : Int64) (0 : Int32)
set_option maxRecDepth 20000 in
set_option maxHeartbeats 2000000 in
theorem p_X12_power_0 {X : zX} {E : zE} {x0 : Int64} {x2 : Int32} {r : Int64} {M' : zM} (C : zC X E cX12_power 6 RX12 (some .long) 0) {M : zM} (h : f_X12_power_0 x0 x2 M = some (r, M')) : zW X E (zRQ X E (some (.long r)) M') M 0 [(0, .long x0), (2, .int x2)] [] := by
  have h : (f_X12_power_5 x0 x2 zFU M (1 : Int64) (0 : Int32)) = some (r, M') := h
  refine zw_lconst (v := (1 : Int64)) C dX12_power_0 rfl ?_
  refine zw_lstore_n (lv' := [(3, .long (1 : Int64)), (0, .long x0), (2, .int x2)]) C dX12_power_1 rfl (by decide) rfl ?_
  refine zw_iconst (v := (0 : Int32)) C dX12_power_2 ct_i_0 ?_
  refine zw_istore (lv' := [(5, .int (0 : Int32)), (3, .long (1 : Int64)), (0, .long x0), (2, .int x2)]) C dX12_power_3 (by decide) rfl ?_
  refine zw_sb [2, 3, 1, 0] rfl ?_
  exact p_X12_power_5 C zFU _ _ _ h
def f_X12_power (M : zM) (x0 : Int64) (x2 : Int32) : Option (Int64 × zM) := f_X12_power_0 x0 x2 M
theorem m_X12_power {l : Launch} {E : zE} (hI : zI E) {M M' : zM} {x0 : Int64} {x2 : Int32} {r : Int64} (h : f_X12_power M x0 x2 = some (r, M')) : zMet l E yX12_power cX12_power 6 (some .long) 0 [.long x0, .int x2] M M' (some (.long r)) := zm_of hI (by decide) (Nat.le_of_ble_eq_true rfl) (fun X _ C => p_X12_power_0 C h)
theorem ks_X12_power : zKS yX12_power cX12_power 6 (some .long) 2 := ⟨⟨gw_4_239, gw_1_13, gw_5_0⟩, ⟨by decide, by decide, by decide +kernel⟩, by decide⟩
-- WingDoorModel.odds(II)I, 126 instructions, depth 2
def f_X12_odds_123 (x1 : Int32) (x2 : Int32) (k59 : zM → Int32 → Int32 → Int32 → Int64 → Int32 → Option (Int32 × zM)) (k82 : zM → Int32 → Int32 → Int32 → Int64 → Int32 → Int32 → Int32 → Option (Int32 × zM)) (M : zM) (x3 : Int32) (x4 : Int32) (x5 : Int32) (x6 : Int64) (x8 : Int32) (x10 : Int32) (s0 : Int32) (s1 : Int32) : Option (Int32 × zM) := k82 M x3 x4 x5 x6 x8 (s1 + s0) (x10 + (1 : Int32))
set_option maxRecDepth 20000 in
set_option maxHeartbeats 2000000 in
theorem p_X12_odds_123 {X : zX} {E : zE} {x1 : Int32} {x2 : Int32} {r : Int32} {M' : zM} {k59 : zM → Int32 → Int32 → Int32 → Int64 → Int32 → Option (Int32 × zM)} {k82 : zM → Int32 → Int32 → Int32 → Int64 → Int32 → Int32 → Int32 → Option (Int32 × zM)} (C : zC X E cX12_odds 16 RX12 (some .int) 2) (hk59 : ∀ (M : zM) (y3 : Int32) (y4 : Int32) (y5 : Int32) (y6 : Int64) (y8 : Int32), k59 M y3 y4 y5 y6 y8 = some (r, M') → zW X E (zRQ X E (some (.int r)) M') M 59 [(0, .ref (E.2.1 25)), (1, .int x1), (2, .int x2), (3, .int y3), (4, .int y4), (5, .int y5), (6, .long y6), (8, .int y8)] []) (hk82 : ∀ (M : zM) (y3 : Int32) (y4 : Int32) (y5 : Int32) (y6 : Int64) (y8 : Int32) (y9 : Int32) (y10 : Int32), k82 M y3 y4 y5 y6 y8 y9 y10 = some (r, M') → zW X E (zRQ X E (some (.int r)) M') M 82 [(0, .ref (E.2.1 25)), (1, .int x1), (2, .int x2), (3, .int y3), (4, .int y4), (5, .int y5), (6, .long y6), (8, .int y8), (9, .int y9), (10, .int y10)] []) {M : zM} {x3 : Int32} {x4 : Int32} {x5 : Int32} {x6 : Int64} {x8 : Int32} {x10 : Int32} {s0 : Int32} {s1 : Int32} (h : f_X12_odds_123 x1 x2 k59 k82 M x3 x4 x5 x6 x8 x10 s0 s1 = some (r, M')) : zW X E (zRQ X E (some (.int r)) M') M 123 [(0, .ref (E.2.1 25)), (1, .int x1), (2, .int x2), (3, .int x3), (4, .int x4), (5, .int x5), (6, .long x6), (8, .int x8), (10, .int x10)] [.int s0, .int s1] := by
  have h : (k82 M x3 x4 x5 x6 x8 (s1 + s0) (x10 + (1 : Int32))) = some (r, M') := h
  refine zw_iadd C dX12_odds_123 ?_
  refine zw_istore (lv' := [(9, .int (s1 + s0)), (0, .ref (E.2.1 25)), (1, .int x1), (2, .int x2), (3, .int x3), (4, .int x4), (5, .int x5), (6, .long x6), (8, .int x8), (10, .int x10)]) C dX12_odds_124 (by decide) rfl ?_
  refine zw_iinc (lv' := [(10, .int (x10 + (1 : Int32))), (9, .int (s1 + s0)), (0, .ref (E.2.1 25)), (1, .int x1), (2, .int x2), (3, .int x3), (4, .int x4), (5, .int x5), (6, .long x6), (8, .int x8)]) C 9 rfl dX12_odds_126 (ct_n_1 _) (by decide) rfl ?_
  refine zw_goto (tgt := 82) C dX12_odds_129 (by decide) ?_
  refine zw_sb [2, 3, 4, 5, 6, 7, 8, 9, 1, 0] rfl ?_
  exact hk82 _ _ _ _ _ _ _ _ h
def f_X12_odds_172 (x1 : Int32) (x2 : Int32) (k59 : zM → Int32 → Int32 → Int32 → Int64 → Int32 → Option (Int32 × zM)) (M : zM) (x3 : Int32) (x4 : Int32) (x5 : Int32) (x8 : Int32) (s0 : Int64) (s1 : Int64) : Option (Int32 × zM) := k59 M x3 x4 x5 (s1 + s0) (x8 + (1 : Int32))
set_option maxRecDepth 20000 in
set_option maxHeartbeats 2000000 in
theorem p_X12_odds_172 {X : zX} {E : zE} {x1 : Int32} {x2 : Int32} {r : Int32} {M' : zM} {k59 : zM → Int32 → Int32 → Int32 → Int64 → Int32 → Option (Int32 × zM)} (C : zC X E cX12_odds 16 RX12 (some .int) 2) (hk59 : ∀ (M : zM) (y3 : Int32) (y4 : Int32) (y5 : Int32) (y6 : Int64) (y8 : Int32), k59 M y3 y4 y5 y6 y8 = some (r, M') → zW X E (zRQ X E (some (.int r)) M') M 59 [(0, .ref (E.2.1 25)), (1, .int x1), (2, .int x2), (3, .int y3), (4, .int y4), (5, .int y5), (6, .long y6), (8, .int y8)] []) {M : zM} {x3 : Int32} {x4 : Int32} {x5 : Int32} {x8 : Int32} {s0 : Int64} {s1 : Int64} (h : f_X12_odds_172 x1 x2 k59 M x3 x4 x5 x8 s0 s1 = some (r, M')) : zW X E (zRQ X E (some (.int r)) M') M 172 [(0, .ref (E.2.1 25)), (1, .int x1), (2, .int x2), (3, .int x3), (4, .int x4), (5, .int x5), (8, .int x8)] [.long s0, .long s1] := by
  have h : (k59 M x3 x4 x5 (s1 + s0) (x8 + (1 : Int32))) = some (r, M') := h
  refine zw_ladd C dX12_odds_172 ?_
  refine zw_lstore (lv' := [(6, .long (s1 + s0)), (0, .ref (E.2.1 25)), (1, .int x1), (2, .int x2), (3, .int x3), (4, .int x4), (5, .int x5), (8, .int x8)]) C dX12_odds_173 (by decide) rfl ?_
  refine zw_iinc (lv' := [(8, .int (x8 + (1 : Int32))), (6, .long (s1 + s0)), (0, .ref (E.2.1 25)), (1, .int x1), (2, .int x2), (3, .int x3), (4, .int x4), (5, .int x5)]) C 7 rfl dX12_odds_175 (ct_n_1 _) (by decide) rfl ?_
  refine zw_goto (tgt := 59) C dX12_odds_178 (by decide) ?_
  refine zw_sb [2, 3, 4, 5, 6, 7, 1, 0] rfl ?_
  exact hk59 _ _ _ _ _ _ h
def f_X12_odds_82 (x1 : Int32) (x2 : Int32) (k59 : zM → Int32 → Int32 → Int32 → Int64 → Int32 → Option (Int32 × zM)) : Nat → zM → Int32 → Int32 → Int32 → Int64 → Int32 → Int32 → Int32 → Option (Int32 × zM)
  | 0, _, _, _, _, _, _, _, _ => none
  | n + 1, M, x3, x4, x5, x6, x8, x9, x10 => zg (zin (0 : Int32) 47) (if (M.1 28 (0 : Int32).toNatClampNeg) ≤ x10 then (if x5 ≤ x9 then (zbi (f_X12_bits M x8) (fun r5 M6 => zbi (f_X12_power M6 (((10 : Int32) - x1).toInt64) r5) (fun r8 M9 => zbi (f_X12_bits M9 x8) (fun r11 M12 => zbi (f_X12_power M12 (x1.toInt64) (x4 - r11)) (fun r14 M15 => f_X12_odds_172 x1 x2 k59 M15 x3 x4 x5 x8 (r8 * r14) x6))))) else (f_X12_odds_172 x1 x2 k59 M x3 x4 x5 x8 (0 : Int64) x6)) else (zbi (f_X12_has M x8 x10) (fun r17 M18 => if r17 = 0 then (f_X12_odds_123 x1 x2 k59 (f_X12_odds_82 x1 x2 k59 n) M18 x3 x4 x5 x6 x8 x10 (0 : Int32) x9) else (zg (zin ((2 : Int32) + x10) 47) (zg (zin (M18.1 28 ((2 : Int32) + x10).toNatClampNeg) 6) (f_X12_odds_123 x1 x2 k59 (f_X12_odds_82 x1 x2 k59 n) M18 x3 x4 x5 x6 x8 x10 (M18.1 27 (M18.1 28 ((2 : Int32) + x10).toNatClampNeg).toNatClampNeg) x9))))))
set_option maxRecDepth 20000 in
set_option maxHeartbeats 2000000 in
theorem p_X12_odds_82 {X : zX} {E : zE} {x1 : Int32} {x2 : Int32} {r : Int32} {M' : zM} {k59 : zM → Int32 → Int32 → Int32 → Int64 → Int32 → Option (Int32 × zM)} (C : zC X E cX12_odds 16 RX12 (some .int) 2) (hk59 : ∀ (M : zM) (y3 : Int32) (y4 : Int32) (y5 : Int32) (y6 : Int64) (y8 : Int32), k59 M y3 y4 y5 y6 y8 = some (r, M') → zW X E (zRQ X E (some (.int r)) M') M 59 [(0, .ref (E.2.1 25)), (1, .int x1), (2, .int x2), (3, .int y3), (4, .int y4), (5, .int y5), (6, .long y6), (8, .int y8)] []) : ∀ (n : Nat) (M : zM) (x3 : Int32) (x4 : Int32) (x5 : Int32) (x6 : Int64) (x8 : Int32) (x9 : Int32) (x10 : Int32), f_X12_odds_82 x1 x2 k59 n M x3 x4 x5 x6 x8 x9 x10 = some (r, M') → zW X E (zRQ X E (some (.int r)) M') M 82 [(0, .ref (E.2.1 25)), (1, .int x1), (2, .int x2), (3, .int x3), (4, .int x4), (5, .int x5), (6, .long x6), (8, .int x8), (9, .int x9), (10, .int x10)] [] := by
  intro n
  induction n with
  | zero => intro M x3 x4 x5 x6 x8 x9 x10 h; cases h
  | succ n ih =>
    intro M x3 x4 x5 x6 x8 x9 x10 h
    have h : (zg (zin (0 : Int32) 47) (if (M.1 28 (0 : Int32).toNatClampNeg) ≤ x10 then (if x5 ≤ x9 then (zbi (f_X12_bits M x8) (fun r5 M6 => zbi (f_X12_power M6 (((10 : Int32) - x1).toInt64) r5) (fun r8 M9 => zbi (f_X12_bits M9 x8) (fun r11 M12 => zbi (f_X12_power M12 (x1.toInt64) (x4 - r11)) (fun r14 M15 => f_X12_odds_172 x1 x2 k59 M15 x3 x4 x5 x8 (r8 * r14) x6))))) else (f_X12_odds_172 x1 x2 k59 M x3 x4 x5 x8 (0 : Int64) x6)) else (zbi (f_X12_has M x8 x10) (fun r17 M18 => if r17 = 0 then (f_X12_odds_123 x1 x2 k59 (f_X12_odds_82 x1 x2 k59 n) M18 x3 x4 x5 x6 x8 x10 (0 : Int32) x9) else (zg (zin ((2 : Int32) + x10) 47) (zg (zin (M18.1 28 ((2 : Int32) + x10).toNatClampNeg) 6) (f_X12_odds_123 x1 x2 k59 (f_X12_odds_82 x1 x2 k59 n) M18 x3 x4 x5 x6 x8 x10 (M18.1 27 (M18.1 28 ((2 : Int32) + x10).toNatClampNeg).toNatClampNeg) x9))))))) = some (r, M') := h
    refine zw_iload C 9 rfl dX12_odds_82 ?_
    refine zw_aload_n C 0 rfl dX12_odds_84 rfl ?_
    refine zw_get (v := .ref (E.2.1 28)) C (by decide) (zc_25 E) rfl zin_X12 6 (by decide) gw_3_201 rfl dX12_odds_85 ?_
    refine zw_iconst (v := (0 : Int32)) C dX12_odds_88 ct_i_0 ?_
    obtain ⟨hi1, h⟩ := zg_e h
    refine zw_iald C zia_28 (zin_e hi1) dX12_odds_89 ?_
    refine zw_icmp_ge (tgt := 132) C dX12_odds_90 (by decide) (fun hb2 => ?_) (fun hb2 => ?_)
    · have h := zt_ hb2 h
      refine zw_lload C 6 rfl dX12_odds_132 ?_
      refine zw_iload C 8 rfl dX12_odds_134 ?_
      refine zw_iload C 5 rfl dX12_odds_136 ?_
      refine zw_icmp_ge (tgt := 145) C dX12_odds_138 (by decide) (fun hb3 => ?_) (fun hb3 => ?_)
      · have h := zt_ hb3 h
        refine zw_bipush (v := (10 : Int32)) C dX12_odds_145 ct_b_10 ?_
        refine zw_iload_n C 1 rfl dX12_odds_147 rfl ?_
        refine zw_isub C dX12_odds_148 ?_
        refine zw_i2l C dX12_odds_149 ?_
        refine zw_iload C 7 rfl dX12_odds_150 ?_
        obtain ⟨r5, M6, hq4, h⟩ := zbi_e h
        refine zw_callSi (As := [.int x8]) (st := [.long (((10 : Int32) - x1).toInt64), .long x6]) C (m_X12_bits C.2.2.2.2.2.2.2.1 hq4) ks_X12_bits gw_4_144 (by decide) rfl rfl (Nat.le_of_ble_eq_true rfl) dX12_odds_152 ?_
        obtain ⟨r8, M9, hq7, h⟩ := zbi_e h
        refine zw_callSi (As := [.long (((10 : Int32) - x1).toInt64), .int r5]) (st := [.long x6]) C (m_X12_power C.2.2.2.2.2.2.2.1 hq7) ks_X12_power gw_4_238 (by decide) rfl rfl (Nat.le_of_ble_eq_true rfl) dX12_odds_155 ?_
        refine zw_iload_n C 1 rfl dX12_odds_158 rfl ?_
        refine zw_i2l C dX12_odds_159 ?_
        refine zw_iload C 4 rfl dX12_odds_160 ?_
        refine zw_iload C 7 rfl dX12_odds_162 ?_
        obtain ⟨r11, M12, hq10, h⟩ := zbi_e h
        refine zw_callSi (As := [.int x8]) (st := [.int x4, .long (x1.toInt64), .long r8, .long x6]) C (m_X12_bits C.2.2.2.2.2.2.2.1 hq10) ks_X12_bits gw_4_144 (by decide) rfl rfl (Nat.le_of_ble_eq_true rfl) dX12_odds_164 ?_
        refine zw_isub C dX12_odds_167 ?_
        obtain ⟨r14, M15, hq13, h⟩ := zbi_e h
        refine zw_callSi (As := [.long (x1.toInt64), .int (x4 - r11)]) (st := [.long r8, .long x6]) C (m_X12_power C.2.2.2.2.2.2.2.1 hq13) ks_X12_power gw_4_238 (by decide) rfl rfl (Nat.le_of_ble_eq_true rfl) dX12_odds_168 ?_
        refine zw_lmul C dX12_odds_171 ?_
        refine zw_sb [0, 1, 2, 3, 4, 5, 7] rfl ?_
        exact p_X12_odds_172 C hk59 h
      · have h := zf_ hb3 h
        refine zw_lconst (v := (0 : Int64)) C dX12_odds_141 rfl ?_
        refine zw_goto (tgt := 172) C dX12_odds_142 (by decide) ?_
        refine zw_sb [0, 1, 2, 3, 4, 5, 7] rfl ?_
        exact p_X12_odds_172 C hk59 h
    · have h := zf_ hb2 h
      refine zw_iload C 8 rfl dX12_odds_93 ?_
      refine zw_iload C 7 rfl dX12_odds_95 ?_
      refine zw_iload C 9 rfl dX12_odds_97 ?_
      obtain ⟨r17, M18, hq16, h⟩ := zbi_e h
      refine zw_callSi (As := [.int x8, .int x10]) (st := [.int x9]) C (m_X12_has C.2.2.2.2.2.2.2.1 hq16) ks_X12_has gw_4_165 (by decide) rfl rfl (Nat.le_of_ble_eq_true rfl) dX12_odds_99 ?_
      refine zw_if_eq (tgt := 122) C dX12_odds_102 (by decide) (fun hb19 => ?_) (fun hb19 => ?_)
      · have h := zt_ hb19 h
        refine zw_iconst (v := (0 : Int32)) C dX12_odds_122 ct_i_0 ?_
        refine zw_sb [0, 1, 2, 3, 4, 5, 6, 7, 9] rfl ?_
        exact p_X12_odds_123 C hk59 (fun _ _ _ _ _ _ _ _ h => ih _ _ _ _ _ _ _ _ h) h
      · have h := zf_ hb19 h
        refine zw_aload_n C 0 rfl dX12_odds_105 rfl ?_
        refine zw_get (v := .ref (E.2.1 27)) C (by decide) (zc_25 E) rfl zin_X12 5 (by decide) gw_3_200 rfl dX12_odds_106 ?_
        refine zw_aload_n C 0 rfl dX12_odds_109 rfl ?_
        refine zw_get (v := .ref (E.2.1 28)) C (by decide) (zc_25 E) rfl zin_X12 6 (by decide) gw_3_201 rfl dX12_odds_110 ?_
        refine zw_iconst (v := (2 : Int32)) C dX12_odds_113 ct_i_2 ?_
        refine zw_iload C 9 rfl dX12_odds_114 ?_
        refine zw_iadd C dX12_odds_116 ?_
        obtain ⟨hi20, h⟩ := zg_e h
        refine zw_iald C zia_28 (zin_e hi20) dX12_odds_117 ?_
        obtain ⟨hi21, h⟩ := zg_e h
        refine zw_iald C zia_27 (zin_e hi21) dX12_odds_118 ?_
        refine zw_goto (tgt := 123) C dX12_odds_119 (by decide) ?_
        refine zw_sb [0, 1, 2, 3, 4, 5, 6, 7, 9] rfl ?_
        exact p_X12_odds_123 C hk59 (fun _ _ _ _ _ _ _ _ h => ih _ _ _ _ _ _ _ _ h) h
def f_X12_odds_235 (x1 : Int32) (x2 : Int32) (M : zM) (x10 : Int64) (s0 : Int64) : Option (Int32 × zM) := zg (znL x10) (some ((s0 / x10).toInt32, M))
set_option maxRecDepth 20000 in
set_option maxHeartbeats 2000000 in
theorem p_X12_odds_235 {X : zX} {E : zE} {x1 : Int32} {x2 : Int32} {r : Int32} {M' : zM} (C : zC X E cX12_odds 16 RX12 (some .int) 2) {M : zM} {x10 : Int64} {s0 : Int64} (h : f_X12_odds_235 x1 x2 M x10 s0 = some (r, M')) : zW X E (zRQ X E (some (.int r)) M') M 235 [(0, .ref (E.2.1 25)), (1, .int x1), (2, .int x2), (10, .long x10)] [.long s0] := by
  have h : (zg (znL x10) (some ((s0 / x10).toInt32, M))) = some (r, M') := h
  refine zw_lload C 3 rfl dX12_odds_235 ?_
  obtain ⟨hz1, h⟩ := zg_e h
  refine zw_ldiv C (znL_e hz1) dX12_odds_237 ?_
  refine zw_l2i C dX12_odds_238 ?_
  exact zw_ireturnE C h dX12_odds_239
def f_X12_odds_199 (x1 : Int32) (x2 : Int32) : Nat → zM → Int64 → Int64 → Int64 → Int64 → Option (Int32 × zM)
  | 0, _, _, _, _, _ => none
  | n + 1, M, x6, x8, x10, x12 => if (lg_cmp x12 (0 : Int64)) = 0 then (if x2 = 0 then (f_X12_odds_235 x1 x2 M x10 x6) else (f_X12_odds_235 x1 x2 M x10 x8)) else (zg (znL x12) (f_X12_odds_199 x1 x2 n M x6 x8 x12 (x10 - x10 / x12 * x12)))
set_option maxRecDepth 20000 in
set_option maxHeartbeats 2000000 in
theorem p_X12_odds_199 {X : zX} {E : zE} {x1 : Int32} {x2 : Int32} {r : Int32} {M' : zM} (C : zC X E cX12_odds 16 RX12 (some .int) 2) : ∀ (n : Nat) (M : zM) (x6 : Int64) (x8 : Int64) (x10 : Int64) (x12 : Int64), f_X12_odds_199 x1 x2 n M x6 x8 x10 x12 = some (r, M') → zW X E (zRQ X E (some (.int r)) M') M 199 [(0, .ref (E.2.1 25)), (1, .int x1), (2, .int x2), (6, .long x6), (8, .long x8), (10, .long x10), (12, .long x12)] [] := by
  intro n
  induction n with
  | zero => intro M x6 x8 x10 x12 h; cases h
  | succ n ih =>
    intro M x6 x8 x10 x12 h
    have h : (if (lg_cmp x12 (0 : Int64)) = 0 then (if x2 = 0 then (f_X12_odds_235 x1 x2 M x10 x6) else (f_X12_odds_235 x1 x2 M x10 x8)) else (zg (znL x12) (f_X12_odds_199 x1 x2 n M x6 x8 x12 (x10 - x10 / x12 * x12)))) = some (r, M') := h
    refine zw_lload C 6 rfl dX12_odds_199 ?_
    refine zw_lconst (v := (0 : Int64)) C dX12_odds_201 rfl ?_
    refine zw_lcmp C dX12_odds_202 ?_
    refine zw_if_eq (tgt := 224) C dX12_odds_203 (by decide) (fun hb1 => ?_) (fun hb1 => ?_)
    · have h := zt_ hb1 h
      refine zw_iload_n C 2 rfl dX12_odds_224 rfl ?_
      refine zw_if_ne (tgt := 233) C dX12_odds_225 (by decide) (fun hb2 => ?_) (fun hb2 => ?_)
      · have h := zt_ hb2 h
        refine zw_lload C 3 rfl dX12_odds_228 ?_
        refine zw_goto (tgt := 235) C dX12_odds_230 (by decide) ?_
        refine zw_sb [0, 1, 2, 5] rfl ?_
        exact p_X12_odds_235 C h
      · have h := zf_ hb2 h
        refine zw_lload C 4 rfl dX12_odds_233 ?_
        refine zw_sb [0, 1, 2, 5] rfl ?_
        exact p_X12_odds_235 C h
    · have h := zf_ hb1 h
      refine zw_lload C 5 rfl dX12_odds_206 ?_
      refine zw_lload C 6 rfl dX12_odds_208 ?_
      obtain ⟨hz3, h⟩ := zg_e h
      refine zw_lrem C (znL_e hz3) dX12_odds_210 ?_
      refine zw_lstore (lv' := [(14, .long (x10 - x10 / x12 * x12)), (0, .ref (E.2.1 25)), (1, .int x1), (2, .int x2), (6, .long x6), (8, .long x8), (10, .long x10), (12, .long x12)]) C dX12_odds_211 (by decide) rfl ?_
      refine zw_lload C 7 rfl dX12_odds_213 ?_
      refine zw_lstore (lv' := [(10, .long x12), (14, .long (x10 - x10 / x12 * x12)), (0, .ref (E.2.1 25)), (1, .int x1), (2, .int x2), (6, .long x6), (8, .long x8), (12, .long x12)]) C dX12_odds_215 (by decide) rfl ?_
      refine zw_lload C 1 rfl dX12_odds_217 ?_
      refine zw_lstore (lv' := [(12, .long (x10 - x10 / x12 * x12)), (10, .long x12), (14, .long (x10 - x10 / x12 * x12)), (0, .ref (E.2.1 25)), (1, .int x1), (2, .int x2), (6, .long x6), (8, .long x8)]) C dX12_odds_219 (by decide) rfl ?_
      refine zw_goto (tgt := 199) C dX12_odds_221 (by decide) ?_
      refine zw_sb [3, 4, 5, 6, 7, 1, 0] rfl ?_
      exact ih _ _ _ _ _ h
def f_X12_odds_59 (x1 : Int32) (x2 : Int32) : Nat → zM → Int32 → Int32 → Int32 → Int64 → Int32 → Option (Int32 × zM)
  | 0, _, _, _, _, _, _ => none
  | n + 1, M, x3, x4, x5, x6, x8 => if (512 : Int32) ≤ x8 then (zbi (f_X12_power M (10 : Int64) x4) (fun r3 M4 => f_X12_odds_199 x1 x2 zFU M4 x6 r3 x6 r3)) else (if (x8 &&& (x3 ^^^ (-1 : Int32))) = 0 then (f_X12_odds_82 x1 x2 (f_X12_odds_59 x1 x2 n) zFU M x3 x4 x5 x6 x8 (0 : Int32) (0 : Int32)) else (f_X12_odds_59 x1 x2 n M x3 x4 x5 x6 (x8 + (1 : Int32))))
set_option maxRecDepth 20000 in
set_option maxHeartbeats 2000000 in
theorem p_X12_odds_59 {X : zX} {E : zE} {x1 : Int32} {x2 : Int32} {r : Int32} {M' : zM} (C : zC X E cX12_odds 16 RX12 (some .int) 2) : ∀ (n : Nat) (M : zM) (x3 : Int32) (x4 : Int32) (x5 : Int32) (x6 : Int64) (x8 : Int32), f_X12_odds_59 x1 x2 n M x3 x4 x5 x6 x8 = some (r, M') → zW X E (zRQ X E (some (.int r)) M') M 59 [(0, .ref (E.2.1 25)), (1, .int x1), (2, .int x2), (3, .int x3), (4, .int x4), (5, .int x5), (6, .long x6), (8, .int x8)] [] := by
  intro n
  induction n with
  | zero => intro M x3 x4 x5 x6 x8 h; cases h
  | succ n ih =>
    intro M x3 x4 x5 x6 x8 h
    have h : (if (512 : Int32) ≤ x8 then (zbi (f_X12_power M (10 : Int64) x4) (fun r3 M4 => f_X12_odds_199 x1 x2 zFU M4 x6 r3 x6 r3)) else (if (x8 &&& (x3 ^^^ (-1 : Int32))) = 0 then (f_X12_odds_82 x1 x2 (f_X12_odds_59 x1 x2 n) zFU M x3 x4 x5 x6 x8 (0 : Int32) (0 : Int32)) else (f_X12_odds_59 x1 x2 n M x3 x4 x5 x6 (x8 + (1 : Int32))))) = some (r, M') := h
    refine zw_iload C 7 rfl dX12_odds_59 ?_
    refine zw_sipush (v := (512 : Int32)) C dX12_odds_61 ct_s_512 ?_
    refine zw_icmp_ge (tgt := 181) C dX12_odds_64 (by decide) (fun hb1 => ?_) (fun hb1 => ?_)
    · have h := zt_ hb1 h
      refine zw_ldc2 (v := (10 : Int64)) C gw_4_237 dX12_odds_181 ?_
      refine zw_iload C 4 rfl dX12_odds_184 ?_
      obtain ⟨r3, M4, hq2, h⟩ := zbi_e h
      refine zw_callSi (As := [.long (10 : Int64), .int x4]) (st := []) C (m_X12_power C.2.2.2.2.2.2.2.1 hq2) ks_X12_power gw_4_238 (by decide) rfl rfl (Nat.le_of_ble_eq_true rfl) dX12_odds_186 ?_
      refine zw_lstore (lv' := [(8, .long r3), (0, .ref (E.2.1 25)), (1, .int x1), (2, .int x2), (3, .int x3), (4, .int x4), (5, .int x5), (6, .long x6)]) C dX12_odds_189 (by decide) rfl ?_
      refine zw_lload C 7 rfl dX12_odds_191 ?_
      refine zw_lstore (lv' := [(10, .long x6), (8, .long r3), (0, .ref (E.2.1 25)), (1, .int x1), (2, .int x2), (3, .int x3), (4, .int x4), (5, .int x5), (6, .long x6)]) C dX12_odds_193 (by decide) rfl ?_
      refine zw_lload C 1 rfl dX12_odds_195 ?_
      refine zw_lstore (lv' := [(12, .long r3), (10, .long x6), (8, .long r3), (0, .ref (E.2.1 25)), (1, .int x1), (2, .int x2), (3, .int x3), (4, .int x4), (5, .int x5), (6, .long x6)]) C dX12_odds_197 (by decide) rfl ?_
      refine zw_sb [3, 4, 5, 9, 2, 1, 0] rfl ?_
      exact p_X12_odds_199 C zFU _ _ _ _ _ h
    · have h := zf_ hb1 h
      refine zw_iload C 7 rfl dX12_odds_67 ?_
      refine zw_iload_n C 3 rfl dX12_odds_69 rfl ?_
      refine zw_iconst (v := (-1 : Int32)) C dX12_odds_70 ct_i_m1 ?_
      refine zw_ixor C dX12_odds_71 ?_
      refine zw_iand C dX12_odds_72 ?_
      refine zw_if_ne (tgt := 175) C dX12_odds_73 (by decide) (fun hb5 => ?_) (fun hb5 => ?_)
      · have h := zt_ hb5 h
        refine zw_iconst (v := (0 : Int32)) C dX12_odds_76 ct_i_0 ?_
        refine zw_istore (lv' := [(9, .int (0 : Int32)), (0, .ref (E.2.1 25)), (1, .int x1), (2, .int x2), (3, .int x3), (4, .int x4), (5, .int x5), (6, .long x6), (8, .int x8)]) C dX12_odds_77 (by decide) rfl ?_
        refine zw_iconst (v := (0 : Int32)) C dX12_odds_79 ct_i_0 ?_
        refine zw_istore (lv' := [(10, .int (0 : Int32)), (9, .int (0 : Int32)), (0, .ref (E.2.1 25)), (1, .int x1), (2, .int x2), (3, .int x3), (4, .int x4), (5, .int x5), (6, .long x6), (8, .int x8)]) C dX12_odds_80 (by decide) rfl ?_
        refine zw_sb [2, 3, 4, 5, 6, 7, 8, 9, 1, 0] rfl ?_
        exact p_X12_odds_82 C (fun _ _ _ _ _ _ h => ih _ _ _ _ _ _ h) zFU _ _ _ _ _ _ _ _ h
      · have h := zf_ hb5 h
        refine zw_iinc (lv' := [(8, .int (x8 + (1 : Int32))), (0, .ref (E.2.1 25)), (1, .int x1), (2, .int x2), (3, .int x3), (4, .int x4), (5, .int x5), (6, .long x6)]) C 7 rfl dX12_odds_175 (ct_n_1 _) (by decide) rfl ?_
        refine zw_goto (tgt := 59) C dX12_odds_178 (by decide) ?_
        refine zw_sb [1, 2, 3, 4, 5, 6, 7, 0] rfl ?_
        exact ih _ _ _ _ _ _ h
def f_X12_odds_0 (x1 : Int32) (x2 : Int32) (M : zM) : Option (Int32 × zM) := zbi (f_X12_in M (x1.toInt64) (0 : Int64) (10 : Int64)) (fun r2 M3 => if r2 = 0 then (some ((-1 : Int32), M3)) else (zbi (f_X12_isBit M3 x2) (fun r6 M7 => if r6 = 0 then (some ((-1 : Int32), M7)) else (zbi (f_X12_those M7 28 (1 : Int32)) (fun r10 M11 => zbi (f_X12_bits M11 r10) (fun r13 M14 => if r13 = 0 then (some (x2, M14)) else (zbi (f_X12_dragOn M14 28) (fun r17 M18 => f_X12_odds_59 x1 x2 zFU M18 r10 r13 r17 (0 : Int64) (0 : Int32)))))))))
set_option maxRecDepth 20000 in
set_option maxHeartbeats 2000000 in
theorem p_X12_odds_0 {X : zX} {E : zE} {x1 : Int32} {x2 : Int32} {r : Int32} {M' : zM} (C : zC X E cX12_odds 16 RX12 (some .int) 2) {M : zM} (h : f_X12_odds_0 x1 x2 M = some (r, M')) : zW X E (zRQ X E (some (.int r)) M') M 0 [(0, .ref (E.2.1 25)), (1, .int x1), (2, .int x2)] [] := by
  have h : (zbi (f_X12_in M (x1.toInt64) (0 : Int64) (10 : Int64)) (fun r2 M3 => if r2 = 0 then (some ((-1 : Int32), M3)) else (zbi (f_X12_isBit M3 x2) (fun r6 M7 => if r6 = 0 then (some ((-1 : Int32), M7)) else (zbi (f_X12_those M7 28 (1 : Int32)) (fun r10 M11 => zbi (f_X12_bits M11 r10) (fun r13 M14 => if r13 = 0 then (some (x2, M14)) else (zbi (f_X12_dragOn M14 28) (fun r17 M18 => f_X12_odds_59 x1 x2 zFU M18 r10 r13 r17 (0 : Int64) (0 : Int32)))))))))) = some (r, M') := h
  refine zw_iload_n C 1 rfl dX12_odds_0 rfl ?_
  refine zw_i2l C dX12_odds_1 ?_
  refine zw_lconst (v := (0 : Int64)) C dX12_odds_2 rfl ?_
  refine zw_ldc2 (v := (10 : Int64)) C gw_4_237 dX12_odds_3 ?_
  obtain ⟨r2, M3, hq1, h⟩ := zbi_e h
  refine zw_callSi (As := [.long (x1.toInt64), .long (0 : Int64), .long (10 : Int64)]) (st := []) C (m_X12_in C.2.2.2.2.2.2.2.1 hq1) ks_X12_in gw_4_42 (by decide) rfl rfl (Nat.le_of_ble_eq_true rfl) dX12_odds_6 ?_
  refine zw_if_eq (tgt := 19) C dX12_odds_9 (by decide) (fun hb4 => ?_) (fun hb4 => ?_)
  · have h := zt_ hb4 h
    refine zw_iconst (v := (-1 : Int32)) C dX12_odds_19 ct_i_m1 ?_
    exact zw_ireturnE C h dX12_odds_20
  · have h := zf_ hb4 h
    refine zw_iload_n C 2 rfl dX12_odds_12 rfl ?_
    obtain ⟨r6, M7, hq5, h⟩ := zbi_e h
    refine zw_callSi (As := [.int x2]) (st := []) C (m_X12_isBit C.2.2.2.2.2.2.2.1 hq5) ks_X12_isBit gw_4_176 (by decide) rfl rfl (Nat.le_of_ble_eq_true rfl) dX12_odds_13 ?_
    refine zw_if_ne (tgt := 21) C dX12_odds_16 (by decide) (fun hb8 => ?_) (fun hb8 => ?_)
    · have h := zt_ hb8 h
      refine zw_iconst (v := (-1 : Int32)) C dX12_odds_19 ct_i_m1 ?_
      exact zw_ireturnE C h dX12_odds_20
    · have h := zf_ hb8 h
      refine zw_aload_n C 0 rfl dX12_odds_21 rfl ?_
      refine zw_get (v := .ref (E.2.1 28)) C (by decide) (zc_25 E) rfl zin_X12 6 (by decide) gw_3_201 rfl dX12_odds_22 ?_
      refine zw_iconst (v := (1 : Int32)) C dX12_odds_25 ct_i_1 ?_
      obtain ⟨r10, M11, hq9, h⟩ := zbi_e h
      refine zw_callSi (As := [.ref (E.2.1 28), .int (1 : Int32)]) (st := []) C (m_X12_those C.2.2.2.2.2.2.2.1 zia_28 hq9) ks_X12_those gw_4_133 (by decide) rfl rfl (Nat.le_of_ble_eq_true rfl) dX12_odds_26 ?_
      refine zw_istore_n (lv' := [(3, .int r10), (0, .ref (E.2.1 25)), (1, .int x1), (2, .int x2)]) C dX12_odds_29 rfl (by decide) rfl ?_
      refine zw_iload_n C 0 rfl dX12_odds_30 rfl ?_
      obtain ⟨r13, M14, hq12, h⟩ := zbi_e h
      refine zw_callSi (As := [.int r10]) (st := []) C (m_X12_bits C.2.2.2.2.2.2.2.1 hq12) ks_X12_bits gw_4_144 (by decide) rfl rfl (Nat.le_of_ble_eq_true rfl) dX12_odds_31 ?_
      refine zw_istore (lv' := [(4, .int r13), (3, .int r10), (0, .ref (E.2.1 25)), (1, .int x1), (2, .int x2)]) C dX12_odds_34 (by decide) rfl ?_
      refine zw_iload C 0 rfl dX12_odds_36 ?_
      refine zw_if_ne (tgt := 43) C dX12_odds_38 (by decide) (fun hb15 => ?_) (fun hb15 => ?_)
      · have h := zt_ hb15 h
        refine zw_iload_n C 4 rfl dX12_odds_41 rfl ?_
        exact zw_ireturnE C h dX12_odds_42
      · have h := zf_ hb15 h
        refine zw_aload_n C 2 rfl dX12_odds_43 rfl ?_
        refine zw_aload_n C 2 rfl dX12_odds_44 rfl ?_
        refine zw_get (v := .ref (E.2.1 28)) C (by decide) (zc_25 E) rfl zin_X12 6 (by decide) gw_3_201 rfl dX12_odds_45 ?_
        obtain ⟨r17, M18, hq16, h⟩ := zbi_e h
        refine zw_callVi (As := [.ref (E.2.1 28)]) (st := []) C (m_X12_dragOn C.2.2.2.2.2.2.2.1 zia_28 hq16) kv_X12_dragOn gw_4_140 (by decide) (by decide) (zc_25 E) rfl rfl rfl rfl (Nat.le_of_ble_eq_true rfl) dX12_odds_48 ?_
        refine zw_istore (lv' := [(5, .int r17), (4, .int r13), (3, .int r10), (0, .ref (E.2.1 25)), (1, .int x1), (2, .int x2)]) C dX12_odds_51 (by decide) rfl ?_
        refine zw_lconst (v := (0 : Int64)) C dX12_odds_53 rfl ?_
        refine zw_lstore (lv' := [(6, .long (0 : Int64)), (5, .int r17), (4, .int r13), (3, .int r10), (0, .ref (E.2.1 25)), (1, .int x1), (2, .int x2)]) C dX12_odds_54 (by decide) rfl ?_
        refine zw_iconst (v := (0 : Int32)) C dX12_odds_56 ct_i_0 ?_
        refine zw_istore (lv' := [(8, .int (0 : Int32)), (6, .long (0 : Int64)), (5, .int r17), (4, .int r13), (3, .int r10), (0, .ref (E.2.1 25)), (1, .int x1), (2, .int x2)]) C dX12_odds_57 (by decide) rfl ?_
        refine zw_sb [5, 6, 7, 4, 3, 2, 1, 0] rfl ?_
        exact p_X12_odds_59 C zFU _ _ _ _ _ _ h
def f_X12_odds (M : zM) (x1 : Int32) (x2 : Int32) : Option (Int32 × zM) := f_X12_odds_0 x1 x2 M
theorem m_X12_odds {l : Launch} {E : zE} (hI : zI E) {M M' : zM} {x1 : Int32} {x2 : Int32} {r : Int32} (h : f_X12_odds M x1 x2 = some (r, M')) : zMet l E yX12_odds cX12_odds 16 (some .int) 2 [.ref (E.2.1 25), .int x1, .int x2] M M' (some (.int r)) := zm_of hI (by decide) (Nat.le_of_ble_eq_true rfl) (fun X _ C => p_X12_odds_0 C h)
theorem kv_X12_odds : zKV yX12_odds cX12_odds 16 (some .int) 2 := ⟨⟨gw_4_234, gw_4_235, gw_1_13, gw_4_236⟩, ⟨by decide, by decide, by decide +kernel⟩, by decide⟩
-- WingDoorModel.sees(III)I, 66 instructions, depth 2
def f_X12_sees_109 (x1 : Int32) (x2 : Int32) (x3 : Int32) (M : zM) : Option (Int32 × zM) := some (M.1 25 13, M)
set_option maxRecDepth 20000 in
set_option maxHeartbeats 2000000 in
theorem p_X12_sees_109 {X : zX} {E : zE} {x1 : Int32} {x2 : Int32} {x3 : Int32} {r : Int32} {M' : zM} (C : zC X E cX12_sees 4 RX12 (some .int) 2) {M : zM} (h : f_X12_sees_109 x1 x2 x3 M = some (r, M')) : zW X E (zRQ X E (some (.int r)) M') M 109 [(0, .ref (E.2.1 25)), (1, .int x1), (2, .int x2), (3, .int x3)] [] := by
  have h : (some (M.1 25 13, M)) = some (r, M') := h
  refine zw_aload_n C 0 rfl dX12_sees_109 rfl ?_
  refine zw_get (v := .int (M.1 25 13)) C (by decide) (zc_25 E) rfl zin_X12 13 (by decide) gw_3_208 rfl dX12_sees_110 ?_
  exact zw_ireturnE C h dX12_sees_113
def f_X12_sees_85 (x1 : Int32) (x2 : Int32) (x3 : Int32) (M : zM) : Option (Int32 × zM) := zg (zin (((3 : Int32) * (M.1 25 13)) + (2 : Int32)) 18) (f_X12_sees_109 x1 x2 x3 (zs (zs M 33 (((3 : Int32) * (M.1 25 13)) + (2 : Int32)).toNatClampNeg x3) 25 13 (((zs M 33 (((3 : Int32) * (M.1 25 13)) + (2 : Int32)).toNatClampNeg x3).1 25 13) + (1 : Int32))))
set_option maxRecDepth 20000 in
set_option maxHeartbeats 2000000 in
theorem p_X12_sees_85 {X : zX} {E : zE} {x1 : Int32} {x2 : Int32} {x3 : Int32} {r : Int32} {M' : zM} (C : zC X E cX12_sees 4 RX12 (some .int) 2) {M : zM} (h : f_X12_sees_85 x1 x2 x3 M = some (r, M')) : zW X E (zRQ X E (some (.int r)) M') M 85 [(0, .ref (E.2.1 25)), (1, .int x1), (2, .int x2), (3, .int x3)] [] := by
  have h : (zg (zin (((3 : Int32) * (M.1 25 13)) + (2 : Int32)) 18) (f_X12_sees_109 x1 x2 x3 (zs (zs M 33 (((3 : Int32) * (M.1 25 13)) + (2 : Int32)).toNatClampNeg x3) 25 13 (((zs M 33 (((3 : Int32) * (M.1 25 13)) + (2 : Int32)).toNatClampNeg x3).1 25 13) + (1 : Int32))))) = some (r, M') := h
  refine zw_aload_n C 0 rfl dX12_sees_85 rfl ?_
  refine zw_get (v := .ref (E.2.1 33)) C (by decide) (zc_25 E) rfl zin_X12 12 (by decide) gw_3_207 rfl dX12_sees_86 ?_
  refine zw_iconst (v := (3 : Int32)) C dX12_sees_89 ct_i_3 ?_
  refine zw_aload_n C 0 rfl dX12_sees_90 rfl ?_
  refine zw_get (v := .int (M.1 25 13)) C (by decide) (zc_25 E) rfl zin_X12 13 (by decide) gw_3_208 rfl dX12_sees_91 ?_
  refine zw_imul C dX12_sees_94 ?_
  refine zw_iconst (v := (2 : Int32)) C dX12_sees_95 ct_i_2 ?_
  refine zw_iadd C dX12_sees_96 ?_
  refine zw_iload_n C 3 rfl dX12_sees_97 rfl ?_
  obtain ⟨hi1, h⟩ := zg_e h
  refine zw_iast C zia_33 (zin_e hi1) dX12_sees_98 ?_
  refine zw_aload_n C 0 rfl dX12_sees_99 rfl ?_
  refine zw_dup C rfl dX12_sees_100 ?_
  refine zw_get (v := .int ((zs M 33 (((3 : Int32) * (M.1 25 13)) + (2 : Int32)).toNatClampNeg x3).1 25 13)) C (by decide) (zc_25 E) rfl zin_X12 13 (by decide) gw_3_208 rfl dX12_sees_101 ?_
  refine zw_iconst (v := (1 : Int32)) C dX12_sees_104 ct_i_1 ?_
  refine zw_iadd C dX12_sees_105 ?_
  refine zw_put (ty := .int) C (by decide) (zc_25 E) rfl zin_X12 tyX12 tyX12_ok nmX12 13 (by decide) gw_3_208 rfl rfl rfl rfl (fun _ _ => Nat.le_of_ble_eq_true rfl) (fun _ _ => rfl) dX12_sees_106 ?_
  exact p_X12_sees_109 C h
def f_X12_sees_38 (x1 : Int32) (x2 : Int32) (x3 : Int32) (M : zM) : Option (Int32 × zM) := zbi (f_X12_isBit M x3) (fun r2 M3 => if r2 = 0 then (some ((-1 : Int32), M3)) else (if (M3.1 25 13) = (6 : Int32) then (some ((-3 : Int32), M3)) else (zg (zin ((3 : Int32) * (M3.1 25 13)) 18) (zg (zin (((3 : Int32) * ((zs M3 33 ((3 : Int32) * (M3.1 25 13)).toNatClampNeg x1).1 25 13)) + (1 : Int32)) 18) (f_X12_sees_85 x1 x2 x3 (zs (zs M3 33 ((3 : Int32) * (M3.1 25 13)).toNatClampNeg x1) 33 (((3 : Int32) * ((zs M3 33 ((3 : Int32) * (M3.1 25 13)).toNatClampNeg x1).1 25 13)) + (1 : Int32)).toNatClampNeg x2))))))
set_option maxRecDepth 20000 in
set_option maxHeartbeats 2000000 in
theorem p_X12_sees_38 {X : zX} {E : zE} {x1 : Int32} {x2 : Int32} {x3 : Int32} {r : Int32} {M' : zM} (C : zC X E cX12_sees 4 RX12 (some .int) 2) {M : zM} (h : f_X12_sees_38 x1 x2 x3 M = some (r, M')) : zW X E (zRQ X E (some (.int r)) M') M 38 [(0, .ref (E.2.1 25)), (1, .int x1), (2, .int x2), (3, .int x3)] [] := by
  have h : (zbi (f_X12_isBit M x3) (fun r2 M3 => if r2 = 0 then (some ((-1 : Int32), M3)) else (if (M3.1 25 13) = (6 : Int32) then (some ((-3 : Int32), M3)) else (zg (zin ((3 : Int32) * (M3.1 25 13)) 18) (zg (zin (((3 : Int32) * ((zs M3 33 ((3 : Int32) * (M3.1 25 13)).toNatClampNeg x1).1 25 13)) + (1 : Int32)) 18) (f_X12_sees_85 x1 x2 x3 (zs (zs M3 33 ((3 : Int32) * (M3.1 25 13)).toNatClampNeg x1) 33 (((3 : Int32) * ((zs M3 33 ((3 : Int32) * (M3.1 25 13)).toNatClampNeg x1).1 25 13)) + (1 : Int32)).toNatClampNeg x2))))))) = some (r, M') := h
  refine zw_iload_n C 3 rfl dX12_sees_38 rfl ?_
  obtain ⟨r2, M3, hq1, h⟩ := zbi_e h
  refine zw_callSi (As := [.int x3]) (st := []) C (m_X12_isBit C.2.2.2.2.2.2.2.1 hq1) ks_X12_isBit gw_4_176 (by decide) rfl rfl (Nat.le_of_ble_eq_true rfl) dX12_sees_39 ?_
  refine zw_if_ne (tgt := 47) C dX12_sees_42 (by decide) (fun hb4 => ?_) (fun hb4 => ?_)
  · have h := zt_ hb4 h
    refine zw_iconst (v := (-1 : Int32)) C dX12_sees_45 ct_i_m1 ?_
    exact zw_ireturnE C h dX12_sees_46
  · have h := zf_ hb4 h
    refine zw_aload_n C 0 rfl dX12_sees_47 rfl ?_
    refine zw_get (v := .int (M3.1 25 13)) C (by decide) (zc_25 E) rfl zin_X12 13 (by decide) gw_3_208 rfl dX12_sees_48 ?_
    refine zw_bipush (v := (6 : Int32)) C dX12_sees_51 ct_b_6 ?_
    refine zw_icmp_ne (tgt := 59) C dX12_sees_53 (by decide) (fun hb5 => ?_) (fun hb5 => ?_)
    · have h := zt_ hb5 h
      refine zw_bipush (v := (-3 : Int32)) C dX12_sees_56 ct_b_m3 ?_
      exact zw_ireturnE C h dX12_sees_58
    · have h := zf_ hb5 h
      refine zw_aload_n C 0 rfl dX12_sees_59 rfl ?_
      refine zw_get (v := .ref (E.2.1 33)) C (by decide) (zc_25 E) rfl zin_X12 12 (by decide) gw_3_207 rfl dX12_sees_60 ?_
      refine zw_iconst (v := (3 : Int32)) C dX12_sees_63 ct_i_3 ?_
      refine zw_aload_n C 0 rfl dX12_sees_64 rfl ?_
      refine zw_get (v := .int (M3.1 25 13)) C (by decide) (zc_25 E) rfl zin_X12 13 (by decide) gw_3_208 rfl dX12_sees_65 ?_
      refine zw_imul C dX12_sees_68 ?_
      refine zw_iload_n C 1 rfl dX12_sees_69 rfl ?_
      obtain ⟨hi6, h⟩ := zg_e h
      refine zw_iast C zia_33 (zin_e hi6) dX12_sees_70 ?_
      refine zw_aload_n C 0 rfl dX12_sees_71 rfl ?_
      refine zw_get (v := .ref (E.2.1 33)) C (by decide) (zc_25 E) rfl zin_X12 12 (by decide) gw_3_207 rfl dX12_sees_72 ?_
      refine zw_iconst (v := (3 : Int32)) C dX12_sees_75 ct_i_3 ?_
      refine zw_aload_n C 0 rfl dX12_sees_76 rfl ?_
      refine zw_get (v := .int ((zs M3 33 ((3 : Int32) * (M3.1 25 13)).toNatClampNeg x1).1 25 13)) C (by decide) (zc_25 E) rfl zin_X12 13 (by decide) gw_3_208 rfl dX12_sees_77 ?_
      refine zw_imul C dX12_sees_80 ?_
      refine zw_iconst (v := (1 : Int32)) C dX12_sees_81 ct_i_1 ?_
      refine zw_iadd C dX12_sees_82 ?_
      refine zw_iload_n C 2 rfl dX12_sees_83 rfl ?_
      obtain ⟨hi7, h⟩ := zg_e h
      refine zw_iast C zia_33 (zin_e hi7) dX12_sees_84 ?_
      exact p_X12_sees_85 C h
def f_X12_sees_0 (x1 : Int32) (x2 : Int32) (x3 : Int32) (M : zM) : Option (Int32 × zM) := zbi (f_X12_isBit M x1) (fun r2 M3 => if r2 = 0 then (some ((-1 : Int32), M3)) else (if x1 = 0 then (zbi (f_X12_in M3 (x2.toInt64) (1 : Int64) (5 : Int64)) (fun r7 M8 => if r7 = 0 then (some ((-1 : Int32), M8)) else (f_X12_sees_38 x1 x2 x3 M8))) else (zbi (f_X12_in M3 (x2.toInt64) (0 : Int64) (9 : Int64)) (fun r11 M12 => if r11 = 0 then (some ((-1 : Int32), M12)) else (f_X12_sees_38 x1 x2 x3 M12)))))
set_option maxRecDepth 20000 in
set_option maxHeartbeats 2000000 in
theorem p_X12_sees_0 {X : zX} {E : zE} {x1 : Int32} {x2 : Int32} {x3 : Int32} {r : Int32} {M' : zM} (C : zC X E cX12_sees 4 RX12 (some .int) 2) {M : zM} (h : f_X12_sees_0 x1 x2 x3 M = some (r, M')) : zW X E (zRQ X E (some (.int r)) M') M 0 [(0, .ref (E.2.1 25)), (1, .int x1), (2, .int x2), (3, .int x3)] [] := by
  have h : (zbi (f_X12_isBit M x1) (fun r2 M3 => if r2 = 0 then (some ((-1 : Int32), M3)) else (if x1 = 0 then (zbi (f_X12_in M3 (x2.toInt64) (1 : Int64) (5 : Int64)) (fun r7 M8 => if r7 = 0 then (some ((-1 : Int32), M8)) else (f_X12_sees_38 x1 x2 x3 M8))) else (zbi (f_X12_in M3 (x2.toInt64) (0 : Int64) (9 : Int64)) (fun r11 M12 => if r11 = 0 then (some ((-1 : Int32), M12)) else (f_X12_sees_38 x1 x2 x3 M12)))))) = some (r, M') := h
  refine zw_iload_n C 1 rfl dX12_sees_0 rfl ?_
  obtain ⟨r2, M3, hq1, h⟩ := zbi_e h
  refine zw_callSi (As := [.int x1]) (st := []) C (m_X12_isBit C.2.2.2.2.2.2.2.1 hq1) ks_X12_isBit gw_4_176 (by decide) rfl rfl (Nat.le_of_ble_eq_true rfl) dX12_sees_1 ?_
  refine zw_if_eq (tgt := 45) C dX12_sees_4 (by decide) (fun hb4 => ?_) (fun hb4 => ?_)
  · have h := zt_ hb4 h
    refine zw_iconst (v := (-1 : Int32)) C dX12_sees_45 ct_i_m1 ?_
    exact zw_ireturnE C h dX12_sees_46
  · have h := zf_ hb4 h
    refine zw_iload_n C 1 rfl dX12_sees_7 rfl ?_
    refine zw_if_ne (tgt := 26) C dX12_sees_8 (by decide) (fun hb5 => ?_) (fun hb5 => ?_)
    · have h := zt_ hb5 h
      refine zw_iload_n C 2 rfl dX12_sees_11 rfl ?_
      refine zw_i2l C dX12_sees_12 ?_
      refine zw_lconst (v := (1 : Int64)) C dX12_sees_13 rfl ?_
      refine zw_ldc2 (v := (5 : Int64)) C gw_5_5 dX12_sees_14 ?_
      obtain ⟨r7, M8, hq6, h⟩ := zbi_e h
      refine zw_callSi (As := [.long (x2.toInt64), .long (1 : Int64), .long (5 : Int64)]) (st := []) C (m_X12_in C.2.2.2.2.2.2.2.1 hq6) ks_X12_in gw_4_42 (by decide) rfl rfl (Nat.le_of_ble_eq_true rfl) dX12_sees_17 ?_
      refine zw_if_eq (tgt := 45) C dX12_sees_20 (by decide) (fun hb9 => ?_) (fun hb9 => ?_)
      · have h := zt_ hb9 h
        refine zw_iconst (v := (-1 : Int32)) C dX12_sees_45 ct_i_m1 ?_
        exact zw_ireturnE C h dX12_sees_46
      · have h := zf_ hb9 h
        refine zw_goto (tgt := 38) C dX12_sees_23 (by decide) ?_
        exact p_X12_sees_38 C h
    · have h := zf_ hb5 h
      refine zw_iload_n C 2 rfl dX12_sees_26 rfl ?_
      refine zw_i2l C dX12_sees_27 ?_
      refine zw_lconst (v := (0 : Int64)) C dX12_sees_28 rfl ?_
      refine zw_ldc2 (v := (9 : Int64)) C gw_5_6 dX12_sees_29 ?_
      obtain ⟨r11, M12, hq10, h⟩ := zbi_e h
      refine zw_callSi (As := [.long (x2.toInt64), .long (0 : Int64), .long (9 : Int64)]) (st := []) C (m_X12_in C.2.2.2.2.2.2.2.1 hq10) ks_X12_in gw_4_42 (by decide) rfl rfl (Nat.le_of_ble_eq_true rfl) dX12_sees_32 ?_
      refine zw_if_eq (tgt := 45) C dX12_sees_35 (by decide) (fun hb13 => ?_) (fun hb13 => ?_)
      · have h := zt_ hb13 h
        refine zw_iconst (v := (-1 : Int32)) C dX12_sees_45 ct_i_m1 ?_
        exact zw_ireturnE C h dX12_sees_46
      · have h := zf_ hb13 h
        exact p_X12_sees_38 C h
def f_X12_sees (M : zM) (x1 : Int32) (x2 : Int32) (x3 : Int32) : Option (Int32 × zM) := f_X12_sees_0 x1 x2 x3 M
theorem m_X12_sees {l : Launch} {E : zE} (hI : zI E) {M M' : zM} {x1 : Int32} {x2 : Int32} {x3 : Int32} {r : Int32} (h : f_X12_sees M x1 x2 x3 = some (r, M')) : zMet l E yX12_sees cX12_sees 4 (some .int) 2 [.ref (E.2.1 25), .int x1, .int x2, .int x3] M M' (some (.int r)) := zm_of hI (by decide) (Nat.le_of_ble_eq_true rfl) (fun X _ C => p_X12_sees_0 C h)
theorem kv_X12_sees : zKV yX12_sees cX12_sees 4 (some .int) 3 := ⟨⟨gw_5_2, gw_5_3, gw_1_13, gw_5_4⟩, ⟨by decide, by decide, by decide +kernel⟩, by decide⟩
-- WingDoorModel.forget()I, 8 instructions, depth 0
def f_X12_forget_0 (M : zM) : Option (Int32 × zM) := some (M.1 25 13, zs M 25 13 (0 : Int32))
set_option maxRecDepth 20000 in
set_option maxHeartbeats 2000000 in
theorem p_X12_forget_0 {X : zX} {E : zE} {r : Int32} {M' : zM} (C : zC X E cX12_forget 2 RX12 (some .int) 0) {M : zM} (h : f_X12_forget_0  M = some (r, M')) : zW X E (zRQ X E (some (.int r)) M') M 0 [(0, .ref (E.2.1 25))] [] := by
  have h : (some (M.1 25 13, zs M 25 13 (0 : Int32))) = some (r, M') := h
  refine zw_aload_n C 0 rfl dX12_forget_0 rfl ?_
  refine zw_get (v := .int (M.1 25 13)) C (by decide) (zc_25 E) rfl zin_X12 13 (by decide) gw_3_208 rfl dX12_forget_1 ?_
  refine zw_istore_n (lv' := [(1, .int (M.1 25 13)), (0, .ref (E.2.1 25))]) C dX12_forget_4 rfl (by decide) rfl ?_
  refine zw_aload_n C 1 rfl dX12_forget_5 rfl ?_
  refine zw_iconst (v := (0 : Int32)) C dX12_forget_6 ct_i_0 ?_
  refine zw_put (ty := .int) C (by decide) (zc_25 E) rfl zin_X12 tyX12 tyX12_ok nmX12 13 (by decide) gw_3_208 rfl rfl rfl rfl (fun _ _ => Nat.le_of_ble_eq_true rfl) (fun _ _ => rfl) dX12_forget_7 ?_
  refine zw_iload_n C 0 rfl dX12_forget_10 rfl ?_
  exact zw_ireturnE C h dX12_forget_11
def f_X12_forget (M : zM) : Option (Int32 × zM) := f_X12_forget_0 M
theorem m_X12_forget {l : Launch} {E : zE} (hI : zI E) {M M' : zM} {r : Int32} (h : f_X12_forget M = some (r, M')) : zMet l E yX12_forget cX12_forget 2 (some .int) 0 [.ref (E.2.1 25)] M M' (some (.int r)) := zm_of hI (by decide) (Nat.le_of_ble_eq_true rfl) (fun X _ C => p_X12_forget_0 C h)
theorem kv_X12_forget : zKV yX12_forget cX12_forget 2 (some .int) 0 := ⟨⟨gw_5_8, gw_5_9, gw_1_13, gw_5_10⟩, ⟨by decide, by decide, by decide +kernel⟩, by decide⟩
-- WingDoorModel.of(II)I, 12 instructions, depth 0
def f_X12_of_0 (x1 : Int32) (x2 : Int32) (M : zM) : Option (Int32 × zM) := if x2 = 0 then (zg (zin x1 6) (some (M.1 26 x1.toNatClampNeg, M))) else (zg (zin x1 6) (some (M.1 27 x1.toNatClampNeg, M)))
set_option maxRecDepth 20000 in
set_option maxHeartbeats 2000000 in
theorem p_X12_of_0 {X : zX} {E : zE} {x1 : Int32} {x2 : Int32} {r : Int32} {M' : zM} (C : zC X E cX12_of 3 RX12 (some .int) 0) {M : zM} (h : f_X12_of_0 x1 x2 M = some (r, M')) : zW X E (zRQ X E (some (.int r)) M') M 0 [(0, .ref (E.2.1 25)), (1, .int x1), (2, .int x2)] [] := by
  have h : (if x2 = 0 then (zg (zin x1 6) (some (M.1 26 x1.toNatClampNeg, M))) else (zg (zin x1 6) (some (M.1 27 x1.toNatClampNeg, M)))) = some (r, M') := h
  refine zw_iload_n C 2 rfl dX12_of_0 rfl ?_
  refine zw_if_ne (tgt := 13) C dX12_of_1 (by decide) (fun hb1 => ?_) (fun hb1 => ?_)
  · have h := zt_ hb1 h
    refine zw_aload_n C 0 rfl dX12_of_4 rfl ?_
    refine zw_get (v := .ref (E.2.1 26)) C (by decide) (zc_25 E) rfl zin_X12 4 (by decide) gw_3_199 rfl dX12_of_5 ?_
    refine zw_iload_n C 1 rfl dX12_of_8 rfl ?_
    obtain ⟨hi2, h⟩ := zg_e h
    refine zw_iald C zia_26 (zin_e hi2) dX12_of_9 ?_
    refine zw_goto (tgt := 19) C dX12_of_10 (by decide) ?_
    exact zw_ireturnE C h dX12_of_19
  · have h := zf_ hb1 h
    refine zw_aload_n C 0 rfl dX12_of_13 rfl ?_
    refine zw_get (v := .ref (E.2.1 27)) C (by decide) (zc_25 E) rfl zin_X12 5 (by decide) gw_3_200 rfl dX12_of_14 ?_
    refine zw_iload_n C 1 rfl dX12_of_17 rfl ?_
    obtain ⟨hi3, h⟩ := zg_e h
    refine zw_iald C zia_27 (zin_e hi3) dX12_of_18 ?_
    exact zw_ireturnE C h dX12_of_19
def f_X12_of (M : zM) (x1 : Int32) (x2 : Int32) : Option (Int32 × zM) := f_X12_of_0 x1 x2 M
theorem m_X12_of {l : Launch} {E : zE} (hI : zI E) {M M' : zM} {x1 : Int32} {x2 : Int32} {r : Int32} (h : f_X12_of M x1 x2 = some (r, M')) : zMet l E yX12_of cX12_of 3 (some .int) 0 [.ref (E.2.1 25), .int x1, .int x2] M M' (some (.int r)) := zm_of hI (by decide) (Nat.le_of_ble_eq_true rfl) (fun X _ C => p_X12_of_0 C h)
theorem kv_X12_of : zKV yX12_of cX12_of 3 (some .int) 2 := ⟨⟨gw_5_17, gs_43, gw_1_13, gw_5_18⟩, ⟨by decide, by decide, by decide +kernel⟩, by decide⟩
-- WingDoorModel.which()I, 69 instructions, depth 1
def f_X12_which_87 (k4 : zM → Int32 → Int32 → Option (Int32 × zM)) (k17 : zM → Int32 → Int32 → Int32 → Int32 → Option (Int32 × zM)) (M : zM) (x1 : Int32) (x2 : Int32) (x4 : Int32) (s0 : Int32) : Option (Int32 × zM) := k17 M x1 x2 s0 (x4 + (3 : Int32))
set_option maxRecDepth 20000 in
set_option maxHeartbeats 2000000 in
theorem p_X12_which_87 {X : zX} {E : zE} {r : Int32} {M' : zM} {k4 : zM → Int32 → Int32 → Option (Int32 × zM)} {k17 : zM → Int32 → Int32 → Int32 → Int32 → Option (Int32 × zM)} (C : zC X E cX12_which 5 RX12 (some .int) 1) (hk4 : ∀ (M : zM) (y1 : Int32) (y2 : Int32), k4 M y1 y2 = some (r, M') → zW X E (zRQ X E (some (.int r)) M') M 4 [(0, .ref (E.2.1 25)), (1, .int y1), (2, .int y2)] []) (hk17 : ∀ (M : zM) (y1 : Int32) (y2 : Int32) (y3 : Int32) (y4 : Int32), k17 M y1 y2 y3 y4 = some (r, M') → zW X E (zRQ X E (some (.int r)) M') M 17 [(0, .ref (E.2.1 25)), (1, .int y1), (2, .int y2), (3, .int y3), (4, .int y4)] []) {M : zM} {x1 : Int32} {x2 : Int32} {x4 : Int32} {s0 : Int32} (h : f_X12_which_87 k4 k17 M x1 x2 x4 s0 = some (r, M')) : zW X E (zRQ X E (some (.int r)) M') M 87 [(0, .ref (E.2.1 25)), (1, .int x1), (2, .int x2), (4, .int x4)] [.int s0] := by
  have h : (k17 M x1 x2 s0 (x4 + (3 : Int32))) = some (r, M') := h
  refine zw_istore_n (lv' := [(3, .int s0), (0, .ref (E.2.1 25)), (1, .int x1), (2, .int x2), (4, .int x4)]) C dX12_which_87 rfl (by decide) rfl ?_
  refine zw_iinc (lv' := [(4, .int (x4 + (3 : Int32))), (3, .int s0), (0, .ref (E.2.1 25)), (1, .int x1), (2, .int x2)]) C 4 rfl dX12_which_88 (ct_n_3 _) (by decide) rfl ?_
  refine zw_goto (tgt := 17) C dX12_which_91 (by decide) ?_
  refine zw_sb [2, 3, 4, 1, 0] rfl ?_
  exact hk17 _ _ _ _ _ h
def f_X12_which_79 (k4 : zM → Int32 → Int32 → Option (Int32 × zM)) (k17 : zM → Int32 → Int32 → Int32 → Int32 → Option (Int32 × zM)) (M : zM) (x1 : Int32) (x2 : Int32) (x4 : Int32) (s0 : Int32) (s1 : Int32) : Option (Int32 × zM) := if s1 = s0 then (f_X12_which_87 k4 k17 M x1 x2 x4 (1 : Int32)) else (f_X12_which_87 k4 k17 M x1 x2 x4 (0 : Int32))
set_option maxRecDepth 20000 in
set_option maxHeartbeats 2000000 in
theorem p_X12_which_79 {X : zX} {E : zE} {r : Int32} {M' : zM} {k4 : zM → Int32 → Int32 → Option (Int32 × zM)} {k17 : zM → Int32 → Int32 → Int32 → Int32 → Option (Int32 × zM)} (C : zC X E cX12_which 5 RX12 (some .int) 1) (hk4 : ∀ (M : zM) (y1 : Int32) (y2 : Int32), k4 M y1 y2 = some (r, M') → zW X E (zRQ X E (some (.int r)) M') M 4 [(0, .ref (E.2.1 25)), (1, .int y1), (2, .int y2)] []) (hk17 : ∀ (M : zM) (y1 : Int32) (y2 : Int32) (y3 : Int32) (y4 : Int32), k17 M y1 y2 y3 y4 = some (r, M') → zW X E (zRQ X E (some (.int r)) M') M 17 [(0, .ref (E.2.1 25)), (1, .int y1), (2, .int y2), (3, .int y3), (4, .int y4)] []) {M : zM} {x1 : Int32} {x2 : Int32} {x4 : Int32} {s0 : Int32} {s1 : Int32} (h : f_X12_which_79 k4 k17 M x1 x2 x4 s0 s1 = some (r, M')) : zW X E (zRQ X E (some (.int r)) M') M 79 [(0, .ref (E.2.1 25)), (1, .int x1), (2, .int x2), (4, .int x4)] [.int s0, .int s1] := by
  have h : (if s1 = s0 then (f_X12_which_87 k4 k17 M x1 x2 x4 (1 : Int32)) else (f_X12_which_87 k4 k17 M x1 x2 x4 (0 : Int32))) = some (r, M') := h
  refine zw_icmp_ne (tgt := 86) C dX12_which_79 (by decide) (fun hb1 => ?_) (fun hb1 => ?_)
  · have h := zt_ hb1 h
    refine zw_iconst (v := (1 : Int32)) C dX12_which_82 ct_i_1 ?_
    refine zw_goto (tgt := 87) C dX12_which_83 (by decide) ?_
    exact p_X12_which_87 C hk4 hk17 h
  · have h := zf_ hb1 h
    refine zw_iconst (v := (0 : Int32)) C dX12_which_86 ct_i_0 ?_
    exact p_X12_which_87 C hk4 hk17 h
def f_X12_which_61 (k4 : zM → Int32 → Int32 → Option (Int32 × zM)) (k17 : zM → Int32 → Int32 → Int32 → Int32 → Option (Int32 × zM)) (M : zM) (x1 : Int32) (x2 : Int32) (x4 : Int32) (s0 : Int32) : Option (Int32 × zM) := zg (zin (x4 + (2 : Int32)) 18) (if (M.1 33 (x4 + (2 : Int32)).toNatClampNeg) = (1 : Int32) then (f_X12_which_79 k4 k17 M x1 x2 x4 (1 : Int32) s0) else (f_X12_which_79 k4 k17 M x1 x2 x4 (0 : Int32) s0))
set_option maxRecDepth 20000 in
set_option maxHeartbeats 2000000 in
theorem p_X12_which_61 {X : zX} {E : zE} {r : Int32} {M' : zM} {k4 : zM → Int32 → Int32 → Option (Int32 × zM)} {k17 : zM → Int32 → Int32 → Int32 → Int32 → Option (Int32 × zM)} (C : zC X E cX12_which 5 RX12 (some .int) 1) (hk4 : ∀ (M : zM) (y1 : Int32) (y2 : Int32), k4 M y1 y2 = some (r, M') → zW X E (zRQ X E (some (.int r)) M') M 4 [(0, .ref (E.2.1 25)), (1, .int y1), (2, .int y2)] []) (hk17 : ∀ (M : zM) (y1 : Int32) (y2 : Int32) (y3 : Int32) (y4 : Int32), k17 M y1 y2 y3 y4 = some (r, M') → zW X E (zRQ X E (some (.int r)) M') M 17 [(0, .ref (E.2.1 25)), (1, .int y1), (2, .int y2), (3, .int y3), (4, .int y4)] []) {M : zM} {x1 : Int32} {x2 : Int32} {x4 : Int32} {s0 : Int32} (h : f_X12_which_61 k4 k17 M x1 x2 x4 s0 = some (r, M')) : zW X E (zRQ X E (some (.int r)) M') M 61 [(0, .ref (E.2.1 25)), (1, .int x1), (2, .int x2), (4, .int x4)] [.int s0] := by
  have h : (zg (zin (x4 + (2 : Int32)) 18) (if (M.1 33 (x4 + (2 : Int32)).toNatClampNeg) = (1 : Int32) then (f_X12_which_79 k4 k17 M x1 x2 x4 (1 : Int32) s0) else (f_X12_which_79 k4 k17 M x1 x2 x4 (0 : Int32) s0))) = some (r, M') := h
  refine zw_aload_n C 0 rfl dX12_which_61 rfl ?_
  refine zw_get (v := .ref (E.2.1 33)) C (by decide) (zc_25 E) rfl zin_X12 12 (by decide) gw_3_207 rfl dX12_which_62 ?_
  refine zw_iload C 3 rfl dX12_which_65 ?_
  refine zw_iconst (v := (2 : Int32)) C dX12_which_67 ct_i_2 ?_
  refine zw_iadd C dX12_which_68 ?_
  obtain ⟨hi1, h⟩ := zg_e h
  refine zw_iald C zia_33 (zin_e hi1) dX12_which_69 ?_
  refine zw_iconst (v := (1 : Int32)) C dX12_which_70 ct_i_1 ?_
  refine zw_icmp_ne (tgt := 78) C dX12_which_71 (by decide) (fun hb2 => ?_) (fun hb2 => ?_)
  · have h := zt_ hb2 h
    refine zw_iconst (v := (1 : Int32)) C dX12_which_74 ct_i_1 ?_
    refine zw_goto (tgt := 79) C dX12_which_75 (by decide) ?_
    exact p_X12_which_79 C hk4 hk17 h
  · have h := zf_ hb2 h
    refine zw_iconst (v := (0 : Int32)) C dX12_which_78 ct_i_0 ?_
    exact p_X12_which_79 C hk4 hk17 h
def f_X12_which_106 (k4 : zM → Int32 → Int32 → Option (Int32 × zM)) (M : zM) (x2 : Int32) (s0 : Int32) (s1 : Int32) : Option (Int32 × zM) := k4 M (s1 ||| s0) (x2 + (1 : Int32))
set_option maxRecDepth 20000 in
set_option maxHeartbeats 2000000 in
theorem p_X12_which_106 {X : zX} {E : zE} {r : Int32} {M' : zM} {k4 : zM → Int32 → Int32 → Option (Int32 × zM)} (C : zC X E cX12_which 5 RX12 (some .int) 1) (hk4 : ∀ (M : zM) (y1 : Int32) (y2 : Int32), k4 M y1 y2 = some (r, M') → zW X E (zRQ X E (some (.int r)) M') M 4 [(0, .ref (E.2.1 25)), (1, .int y1), (2, .int y2)] []) {M : zM} {x2 : Int32} {s0 : Int32} {s1 : Int32} (h : f_X12_which_106 k4 M x2 s0 s1 = some (r, M')) : zW X E (zRQ X E (some (.int r)) M') M 106 [(0, .ref (E.2.1 25)), (2, .int x2)] [.int s0, .int s1] := by
  have h : (k4 M (s1 ||| s0) (x2 + (1 : Int32))) = some (r, M') := h
  refine zw_ior C dX12_which_106 ?_
  refine zw_istore_n (lv' := [(1, .int (s1 ||| s0)), (0, .ref (E.2.1 25)), (2, .int x2)]) C dX12_which_107 rfl (by decide) rfl ?_
  refine zw_iinc (lv' := [(2, .int (x2 + (1 : Int32))), (1, .int (s1 ||| s0)), (0, .ref (E.2.1 25))]) C 2 rfl dX12_which_108 (ct_n_1 _) (by decide) rfl ?_
  refine zw_goto (tgt := 4) C dX12_which_111 (by decide) ?_
  refine zw_sb [2, 1, 0] rfl ?_
  exact hk4 _ _ _ h
def f_X12_which_17 (k4 : zM → Int32 → Int32 → Option (Int32 × zM)) : Nat → zM → Int32 → Int32 → Int32 → Int32 → Option (Int32 × zM)
  | 0, _, _, _, _, _ => none
  | n + 1, M, x1, x2, x3, x4 => if ((3 : Int32) * (M.1 25 13)) ≤ x4 then (if x3 = 0 then (f_X12_which_106 k4 M x2 (0 : Int32) x1) else (f_X12_which_106 k4 M x2 ((1 : Int32) <<< (x2 &&& 31)) x1)) else (if x3 = 0 then (f_X12_which_87 k4 (f_X12_which_17 k4 n) M x1 x2 x4 (0 : Int32)) else (zg (zin x4 18) (zbi (f_X12_of M x2 (M.1 33 x4.toNatClampNeg)) (fun r6 M7 => zg (zin (x4 + (1 : Int32)) 18) (if (M7.1 33 (x4 + (1 : Int32)).toNatClampNeg) < r6 then (f_X12_which_61 k4 (f_X12_which_17 k4 n) M7 x1 x2 x4 (0 : Int32)) else (f_X12_which_61 k4 (f_X12_which_17 k4 n) M7 x1 x2 x4 (1 : Int32)))))))
set_option maxRecDepth 20000 in
set_option maxHeartbeats 2000000 in
theorem p_X12_which_17 {X : zX} {E : zE} {r : Int32} {M' : zM} {k4 : zM → Int32 → Int32 → Option (Int32 × zM)} (C : zC X E cX12_which 5 RX12 (some .int) 1) (hk4 : ∀ (M : zM) (y1 : Int32) (y2 : Int32), k4 M y1 y2 = some (r, M') → zW X E (zRQ X E (some (.int r)) M') M 4 [(0, .ref (E.2.1 25)), (1, .int y1), (2, .int y2)] []) : ∀ (n : Nat) (M : zM) (x1 : Int32) (x2 : Int32) (x3 : Int32) (x4 : Int32), f_X12_which_17 k4 n M x1 x2 x3 x4 = some (r, M') → zW X E (zRQ X E (some (.int r)) M') M 17 [(0, .ref (E.2.1 25)), (1, .int x1), (2, .int x2), (3, .int x3), (4, .int x4)] [] := by
  intro n
  induction n with
  | zero => intro M x1 x2 x3 x4 h; cases h
  | succ n ih =>
    intro M x1 x2 x3 x4 h
    have h : (if ((3 : Int32) * (M.1 25 13)) ≤ x4 then (if x3 = 0 then (f_X12_which_106 k4 M x2 (0 : Int32) x1) else (f_X12_which_106 k4 M x2 ((1 : Int32) <<< (x2 &&& 31)) x1)) else (if x3 = 0 then (f_X12_which_87 k4 (f_X12_which_17 k4 n) M x1 x2 x4 (0 : Int32)) else (zg (zin x4 18) (zbi (f_X12_of M x2 (M.1 33 x4.toNatClampNeg)) (fun r6 M7 => zg (zin (x4 + (1 : Int32)) 18) (if (M7.1 33 (x4 + (1 : Int32)).toNatClampNeg) < r6 then (f_X12_which_61 k4 (f_X12_which_17 k4 n) M7 x1 x2 x4 (0 : Int32)) else (f_X12_which_61 k4 (f_X12_which_17 k4 n) M7 x1 x2 x4 (1 : Int32)))))))) = some (r, M') := h
    refine zw_iload C 4 rfl dX12_which_17 ?_
    refine zw_iconst (v := (3 : Int32)) C dX12_which_19 ct_i_3 ?_
    refine zw_aload_n C 0 rfl dX12_which_20 rfl ?_
    refine zw_get (v := .int (M.1 25 13)) C (by decide) (zc_25 E) rfl zin_X12 13 (by decide) gw_3_208 rfl dX12_which_21 ?_
    refine zw_imul C dX12_which_24 ?_
    refine zw_icmp_ge (tgt := 94) C dX12_which_25 (by decide) (fun hb1 => ?_) (fun hb1 => ?_)
    · have h := zt_ hb1 h
      refine zw_iload_n C 1 rfl dX12_which_94 rfl ?_
      refine zw_iload_n C 3 rfl dX12_which_95 rfl ?_
      refine zw_if_eq (tgt := 105) C dX12_which_96 (by decide) (fun hb2 => ?_) (fun hb2 => ?_)
      · have h := zt_ hb2 h
        refine zw_iconst (v := (0 : Int32)) C dX12_which_105 ct_i_0 ?_
        refine zw_sb [0, 2] rfl ?_
        exact p_X12_which_106 C hk4 h
      · have h := zf_ hb2 h
        refine zw_iconst (v := (1 : Int32)) C dX12_which_99 ct_i_1 ?_
        refine zw_iload_n C 2 rfl dX12_which_100 rfl ?_
        refine zw_ishl C dX12_which_101 ?_
        refine zw_goto (tgt := 106) C dX12_which_102 (by decide) ?_
        refine zw_sb [0, 2] rfl ?_
        exact p_X12_which_106 C hk4 h
    · have h := zf_ hb1 h
      refine zw_iload_n C 3 rfl dX12_which_28 rfl ?_
      refine zw_if_eq (tgt := 86) C dX12_which_29 (by decide) (fun hb3 => ?_) (fun hb3 => ?_)
      · have h := zt_ hb3 h
        refine zw_iconst (v := (0 : Int32)) C dX12_which_86 ct_i_0 ?_
        refine zw_sb [0, 1, 2, 4] rfl ?_
        exact p_X12_which_87 C hk4 (fun _ _ _ _ _ h => ih _ _ _ _ _ h) h
      · have h := zf_ hb3 h
        refine zw_aload_n C 0 rfl dX12_which_32 rfl ?_
        refine zw_iload_n C 2 rfl dX12_which_33 rfl ?_
        refine zw_aload_n C 0 rfl dX12_which_34 rfl ?_
        refine zw_get (v := .ref (E.2.1 33)) C (by decide) (zc_25 E) rfl zin_X12 12 (by decide) gw_3_207 rfl dX12_which_35 ?_
        refine zw_iload C 4 rfl dX12_which_38 ?_
        obtain ⟨hi4, h⟩ := zg_e h
        refine zw_iald C zia_33 (zin_e hi4) dX12_which_40 ?_
        obtain ⟨r6, M7, hq5, h⟩ := zbi_e h
        refine zw_callVi (As := [.int x2, .int (M.1 33 x4.toNatClampNeg)]) (st := []) C (m_X12_of C.2.2.2.2.2.2.2.1 hq5) kv_X12_of gw_5_15 (by decide) (by decide) (zc_25 E) rfl rfl rfl rfl (Nat.le_of_ble_eq_true rfl) dX12_which_41 ?_
        refine zw_aload_n C 0 rfl dX12_which_44 rfl ?_
        refine zw_get (v := .ref (E.2.1 33)) C (by decide) (zc_25 E) rfl zin_X12 12 (by decide) gw_3_207 rfl dX12_which_45 ?_
        refine zw_iload C 4 rfl dX12_which_48 ?_
        refine zw_iconst (v := (1 : Int32)) C dX12_which_50 ct_i_1 ?_
        refine zw_iadd C dX12_which_51 ?_
        obtain ⟨hi8, h⟩ := zg_e h
        refine zw_iald C zia_33 (zin_e hi8) dX12_which_52 ?_
        refine zw_icmp_gt (tgt := 60) C dX12_which_53 (by decide) (fun hb9 => ?_) (fun hb9 => ?_)
        · have h := zt_ hb9 h
          refine zw_iconst (v := (0 : Int32)) C dX12_which_60 ct_i_0 ?_
          refine zw_sb [0, 1, 2, 4] rfl ?_
          exact p_X12_which_61 C hk4 (fun _ _ _ _ _ h => ih _ _ _ _ _ h) h
        · have h := zf_ hb9 h
          refine zw_iconst (v := (1 : Int32)) C dX12_which_56 ct_i_1 ?_
          refine zw_goto (tgt := 61) C dX12_which_57 (by decide) ?_
          refine zw_sb [0, 1, 2, 4] rfl ?_
          exact p_X12_which_61 C hk4 (fun _ _ _ _ _ h => ih _ _ _ _ _ h) h
def f_X12_which_4 : Nat → zM → Int32 → Int32 → Option (Int32 × zM)
  | 0, _, _, _ => none
  | n + 1, M, x1, x2 => if (M.1 25 3) ≤ x2 then (some (x1, M)) else (f_X12_which_17 (f_X12_which_4 n) zFU M x1 x2 (1 : Int32) (0 : Int32))
set_option maxRecDepth 20000 in
set_option maxHeartbeats 2000000 in
theorem p_X12_which_4 {X : zX} {E : zE} {r : Int32} {M' : zM} (C : zC X E cX12_which 5 RX12 (some .int) 1) : ∀ (n : Nat) (M : zM) (x1 : Int32) (x2 : Int32), f_X12_which_4  n M x1 x2 = some (r, M') → zW X E (zRQ X E (some (.int r)) M') M 4 [(0, .ref (E.2.1 25)), (1, .int x1), (2, .int x2)] [] := by
  intro n
  induction n with
  | zero => intro M x1 x2 h; cases h
  | succ n ih =>
    intro M x1 x2 h
    have h : (if (M.1 25 3) ≤ x2 then (some (x1, M)) else (f_X12_which_17 (f_X12_which_4 n) zFU M x1 x2 (1 : Int32) (0 : Int32))) = some (r, M') := h
    refine zw_iload_n C 2 rfl dX12_which_4 rfl ?_
    refine zw_aload_n C 0 rfl dX12_which_5 rfl ?_
    refine zw_get (v := .int (M.1 25 3)) C (by decide) (zc_25 E) rfl zin_X12 3 (by decide) gw_3_198 rfl dX12_which_6 ?_
    refine zw_icmp_ge (tgt := 114) C dX12_which_9 (by decide) (fun hb1 => ?_) (fun hb1 => ?_)
    · have h := zt_ hb1 h
      refine zw_iload_n C 1 rfl dX12_which_114 rfl ?_
      exact zw_ireturnE C h dX12_which_115
    · have h := zf_ hb1 h
      refine zw_iconst (v := (1 : Int32)) C dX12_which_12 ct_i_1 ?_
      refine zw_istore_n (lv' := [(3, .int (1 : Int32)), (0, .ref (E.2.1 25)), (1, .int x1), (2, .int x2)]) C dX12_which_13 rfl (by decide) rfl ?_
      refine zw_iconst (v := (0 : Int32)) C dX12_which_14 ct_i_0 ?_
      refine zw_istore (lv' := [(4, .int (0 : Int32)), (3, .int (1 : Int32)), (0, .ref (E.2.1 25)), (1, .int x1), (2, .int x2)]) C dX12_which_15 (by decide) rfl ?_
      refine zw_sb [2, 3, 4, 1, 0] rfl ?_
      exact p_X12_which_17 C (fun _ _ _ h => ih _ _ _ h) zFU _ _ _ _ _ h
def f_X12_which_0 (M : zM) : Option (Int32 × zM) := f_X12_which_4 zFU M (0 : Int32) (0 : Int32)
set_option maxRecDepth 20000 in
set_option maxHeartbeats 2000000 in
theorem p_X12_which_0 {X : zX} {E : zE} {r : Int32} {M' : zM} (C : zC X E cX12_which 5 RX12 (some .int) 1) {M : zM} (h : f_X12_which_0  M = some (r, M')) : zW X E (zRQ X E (some (.int r)) M') M 0 [(0, .ref (E.2.1 25))] [] := by
  have h : (f_X12_which_4 zFU M (0 : Int32) (0 : Int32)) = some (r, M') := h
  refine zw_iconst (v := (0 : Int32)) C dX12_which_0 ct_i_0 ?_
  refine zw_istore_n (lv' := [(1, .int (0 : Int32)), (0, .ref (E.2.1 25))]) C dX12_which_1 rfl (by decide) rfl ?_
  refine zw_iconst (v := (0 : Int32)) C dX12_which_2 ct_i_0 ?_
  refine zw_istore_n (lv' := [(2, .int (0 : Int32)), (1, .int (0 : Int32)), (0, .ref (E.2.1 25))]) C dX12_which_3 rfl (by decide) rfl ?_
  refine zw_sb [2, 1, 0] rfl ?_
  exact p_X12_which_4 C zFU _ _ _ h
def f_X12_which (M : zM) : Option (Int32 × zM) := f_X12_which_0 M
theorem m_X12_which {l : Launch} {E : zE} (hI : zI E) {M M' : zM} {r : Int32} (h : f_X12_which M = some (r, M')) : zMet l E yX12_which cX12_which 5 (some .int) 1 [.ref (E.2.1 25)] M M' (some (.int r)) := zm_of hI (by decide) (Nat.le_of_ble_eq_true rfl) (fun X _ C => p_X12_which_0 C h)
theorem kv_X12_which : zKV yX12_which cX12_which 5 (some .int) 0 := ⟨⟨gw_5_12, gw_5_13, gw_1_13, gw_5_14⟩, ⟨by decide, by decide, by decide +kernel⟩, by decide⟩
-- WingDoorModel.look(I)I, 86 instructions, depth 2
def f_X12_look_102 (x1 : Int32) (k38 : zM → Int32 → Int32 → Int32 → Int32 → Int32 → Option (Int32 × zM)) (k65 : zM → Int32 → Int32 → Int32 → Int32 → Int32 → Int32 → Int32 → Option (Int32 × zM)) (M : zM) (x2 : Int32) (x3 : Int32) (x4 : Int32) (x5 : Int32) (x6 : Int32) (x8 : Int32) (s0 : Int32) (s1 : Int32) : Option (Int32 × zM) := k65 M x2 x3 x4 x5 x6 (s1 + s0) (x8 + (1 : Int32))
set_option maxRecDepth 20000 in
set_option maxHeartbeats 2000000 in
theorem p_X12_look_102 {X : zX} {E : zE} {x1 : Int32} {r : Int32} {M' : zM} {k38 : zM → Int32 → Int32 → Int32 → Int32 → Int32 → Option (Int32 × zM)} {k65 : zM → Int32 → Int32 → Int32 → Int32 → Int32 → Int32 → Int32 → Option (Int32 × zM)} (C : zC X E cX12_look 9 RX12 (some .int) 2) (hk38 : ∀ (M : zM) (y2 : Int32) (y3 : Int32) (y4 : Int32) (y5 : Int32) (y6 : Int32), k38 M y2 y3 y4 y5 y6 = some (r, M') → zW X E (zRQ X E (some (.int r)) M') M 38 [(0, .ref (E.2.1 25)), (1, .int x1), (2, .int y2), (3, .int y3), (4, .int y4), (5, .int y5), (6, .int y6)] []) (hk65 : ∀ (M : zM) (y2 : Int32) (y3 : Int32) (y4 : Int32) (y5 : Int32) (y6 : Int32) (y7 : Int32) (y8 : Int32), k65 M y2 y3 y4 y5 y6 y7 y8 = some (r, M') → zW X E (zRQ X E (some (.int r)) M') M 65 [(0, .ref (E.2.1 25)), (1, .int x1), (2, .int y2), (3, .int y3), (4, .int y4), (5, .int y5), (6, .int y6), (7, .int y7), (8, .int y8)] []) {M : zM} {x2 : Int32} {x3 : Int32} {x4 : Int32} {x5 : Int32} {x6 : Int32} {x8 : Int32} {s0 : Int32} {s1 : Int32} (h : f_X12_look_102 x1 k38 k65 M x2 x3 x4 x5 x6 x8 s0 s1 = some (r, M')) : zW X E (zRQ X E (some (.int r)) M') M 102 [(0, .ref (E.2.1 25)), (1, .int x1), (2, .int x2), (3, .int x3), (4, .int x4), (5, .int x5), (6, .int x6), (8, .int x8)] [.int s0, .int s1] := by
  have h : (k65 M x2 x3 x4 x5 x6 (s1 + s0) (x8 + (1 : Int32))) = some (r, M') := h
  refine zw_iadd C dX12_look_102 ?_
  refine zw_istore (lv' := [(7, .int (s1 + s0)), (0, .ref (E.2.1 25)), (1, .int x1), (2, .int x2), (3, .int x3), (4, .int x4), (5, .int x5), (6, .int x6), (8, .int x8)]) C dX12_look_103 (by decide) rfl ?_
  refine zw_iinc (lv' := [(8, .int (x8 + (1 : Int32))), (7, .int (s1 + s0)), (0, .ref (E.2.1 25)), (1, .int x1), (2, .int x2), (3, .int x3), (4, .int x4), (5, .int x5), (6, .int x6)]) C 8 rfl dX12_look_105 (ct_n_1 _) (by decide) rfl ?_
  refine zw_goto (tgt := 65) C dX12_look_108 (by decide) ?_
  refine zw_sb [2, 3, 4, 5, 6, 7, 8, 1, 0] rfl ?_
  exact hk65 _ _ _ _ _ _ _ _ h
def f_X12_look_161 (x1 : Int32) (k38 : zM → Int32 → Int32 → Int32 → Int32 → Int32 → Option (Int32 × zM)) (M : zM) (x2 : Int32) (x3 : Int32) (x5 : Int32) (x6 : Int32) (s0 : Int32) : Option (Int32 × zM) := k38 M x2 x3 s0 x5 (x6 + (1 : Int32))
set_option maxRecDepth 20000 in
set_option maxHeartbeats 2000000 in
theorem p_X12_look_161 {X : zX} {E : zE} {x1 : Int32} {r : Int32} {M' : zM} {k38 : zM → Int32 → Int32 → Int32 → Int32 → Int32 → Option (Int32 × zM)} (C : zC X E cX12_look 9 RX12 (some .int) 2) (hk38 : ∀ (M : zM) (y2 : Int32) (y3 : Int32) (y4 : Int32) (y5 : Int32) (y6 : Int32), k38 M y2 y3 y4 y5 y6 = some (r, M') → zW X E (zRQ X E (some (.int r)) M') M 38 [(0, .ref (E.2.1 25)), (1, .int x1), (2, .int y2), (3, .int y3), (4, .int y4), (5, .int y5), (6, .int y6)] []) {M : zM} {x2 : Int32} {x3 : Int32} {x5 : Int32} {x6 : Int32} {s0 : Int32} (h : f_X12_look_161 x1 k38 M x2 x3 x5 x6 s0 = some (r, M')) : zW X E (zRQ X E (some (.int r)) M') M 161 [(0, .ref (E.2.1 25)), (1, .int x1), (2, .int x2), (3, .int x3), (5, .int x5), (6, .int x6)] [.int s0] := by
  have h : (k38 M x2 x3 s0 x5 (x6 + (1 : Int32))) = some (r, M') := h
  refine zw_istore (lv' := [(4, .int s0), (0, .ref (E.2.1 25)), (1, .int x1), (2, .int x2), (3, .int x3), (5, .int x5), (6, .int x6)]) C dX12_look_161 (by decide) rfl ?_
  refine zw_iinc (lv' := [(6, .int (x6 + (1 : Int32))), (4, .int s0), (0, .ref (E.2.1 25)), (1, .int x1), (2, .int x2), (3, .int x3), (5, .int x5)]) C 6 rfl dX12_look_163 (ct_n_1 _) (by decide) rfl ?_
  refine zw_goto (tgt := 38) C dX12_look_166 (by decide) ?_
  refine zw_sb [2, 3, 4, 5, 1, 6, 0] rfl ?_
  exact hk38 _ _ _ _ _ _ h
def f_X12_look_145 (x1 : Int32) (k38 : zM → Int32 → Int32 → Int32 → Int32 → Int32 → Option (Int32 × zM)) (M : zM) (x2 : Int32) (x3 : Int32) (x4 : Int32) (x6 : Int32) (x8 : Int32) (s0 : Int32) : Option (Int32 × zM) := if x4 ≤ x8 then (f_X12_look_161 x1 k38 M x2 x3 s0 x6 x4) else (f_X12_look_161 x1 k38 M x2 x3 s0 x6 x8)
set_option maxRecDepth 20000 in
set_option maxHeartbeats 2000000 in
theorem p_X12_look_145 {X : zX} {E : zE} {x1 : Int32} {r : Int32} {M' : zM} {k38 : zM → Int32 → Int32 → Int32 → Int32 → Int32 → Option (Int32 × zM)} (C : zC X E cX12_look 9 RX12 (some .int) 2) (hk38 : ∀ (M : zM) (y2 : Int32) (y3 : Int32) (y4 : Int32) (y5 : Int32) (y6 : Int32), k38 M y2 y3 y4 y5 y6 = some (r, M') → zW X E (zRQ X E (some (.int r)) M') M 38 [(0, .ref (E.2.1 25)), (1, .int x1), (2, .int y2), (3, .int y3), (4, .int y4), (5, .int y5), (6, .int y6)] []) {M : zM} {x2 : Int32} {x3 : Int32} {x4 : Int32} {x6 : Int32} {x8 : Int32} {s0 : Int32} (h : f_X12_look_145 x1 k38 M x2 x3 x4 x6 x8 s0 = some (r, M')) : zW X E (zRQ X E (some (.int r)) M') M 145 [(0, .ref (E.2.1 25)), (1, .int x1), (2, .int x2), (3, .int x3), (4, .int x4), (6, .int x6), (8, .int x8)] [.int s0] := by
  have h : (if x4 ≤ x8 then (f_X12_look_161 x1 k38 M x2 x3 s0 x6 x4) else (f_X12_look_161 x1 k38 M x2 x3 s0 x6 x8)) = some (r, M') := h
  refine zw_istore (lv' := [(5, .int s0), (0, .ref (E.2.1 25)), (1, .int x1), (2, .int x2), (3, .int x3), (4, .int x4), (6, .int x6), (8, .int x8)]) C dX12_look_145 (by decide) rfl ?_
  refine zw_iload C 7 rfl dX12_look_147 ?_
  refine zw_iload C 5 rfl dX12_look_149 ?_
  refine zw_icmp_ge (tgt := 159) C dX12_look_151 (by decide) (fun hb1 => ?_) (fun hb1 => ?_)
  · have h := zt_ hb1 h
    refine zw_iload C 5 rfl dX12_look_159 ?_
    refine zw_sb [1, 2, 3, 4, 0, 6] rfl ?_
    exact p_X12_look_161 C hk38 h
  · have h := zf_ hb1 h
    refine zw_iload C 7 rfl dX12_look_154 ?_
    refine zw_goto (tgt := 161) C dX12_look_156 (by decide) ?_
    refine zw_sb [1, 2, 3, 4, 0, 6] rfl ?_
    exact p_X12_look_161 C hk38 h
def f_X12_look_129 (x1 : Int32) (k38 : zM → Int32 → Int32 → Int32 → Int32 → Int32 → Option (Int32 × zM)) (M : zM) (x2 : Int32) (x3 : Int32) (x4 : Int32) (x5 : Int32) (x6 : Int32) (s0 : Int32) : Option (Int32 × zM) := if x4 ≤ s0 then (f_X12_look_145 x1 k38 M x2 x3 x4 x6 s0 x5) else (f_X12_look_145 x1 k38 M x2 x3 x4 x6 s0 x6)
set_option maxRecDepth 20000 in
set_option maxHeartbeats 2000000 in
theorem p_X12_look_129 {X : zX} {E : zE} {x1 : Int32} {r : Int32} {M' : zM} {k38 : zM → Int32 → Int32 → Int32 → Int32 → Int32 → Option (Int32 × zM)} (C : zC X E cX12_look 9 RX12 (some .int) 2) (hk38 : ∀ (M : zM) (y2 : Int32) (y3 : Int32) (y4 : Int32) (y5 : Int32) (y6 : Int32), k38 M y2 y3 y4 y5 y6 = some (r, M') → zW X E (zRQ X E (some (.int r)) M') M 38 [(0, .ref (E.2.1 25)), (1, .int x1), (2, .int y2), (3, .int y3), (4, .int y4), (5, .int y5), (6, .int y6)] []) {M : zM} {x2 : Int32} {x3 : Int32} {x4 : Int32} {x5 : Int32} {x6 : Int32} {s0 : Int32} (h : f_X12_look_129 x1 k38 M x2 x3 x4 x5 x6 s0 = some (r, M')) : zW X E (zRQ X E (some (.int r)) M') M 129 [(0, .ref (E.2.1 25)), (1, .int x1), (2, .int x2), (3, .int x3), (4, .int x4), (5, .int x5), (6, .int x6)] [.int s0] := by
  have h : (if x4 ≤ s0 then (f_X12_look_145 x1 k38 M x2 x3 x4 x6 s0 x5) else (f_X12_look_145 x1 k38 M x2 x3 x4 x6 s0 x6)) = some (r, M') := h
  refine zw_istore (lv' := [(8, .int s0), (0, .ref (E.2.1 25)), (1, .int x1), (2, .int x2), (3, .int x3), (4, .int x4), (5, .int x5), (6, .int x6)]) C dX12_look_129 (by decide) rfl ?_
  refine zw_iload C 0 rfl dX12_look_131 ?_
  refine zw_iload C 5 rfl dX12_look_133 ?_
  refine zw_icmp_ge (tgt := 143) C dX12_look_135 (by decide) (fun hb1 => ?_) (fun hb1 => ?_)
  · have h := zt_ hb1 h
    refine zw_iload C 6 rfl dX12_look_143 ?_
    refine zw_sb [1, 2, 3, 4, 5, 7, 0] rfl ?_
    exact p_X12_look_145 C hk38 h
  · have h := zf_ hb1 h
    refine zw_iload C 7 rfl dX12_look_138 ?_
    refine zw_goto (tgt := 145) C dX12_look_140 (by decide) ?_
    refine zw_sb [1, 2, 3, 4, 5, 7, 0] rfl ?_
    exact p_X12_look_145 C hk38 h
def f_X12_look_65 (x1 : Int32) (k38 : zM → Int32 → Int32 → Int32 → Int32 → Int32 → Option (Int32 × zM)) : Nat → zM → Int32 → Int32 → Int32 → Int32 → Int32 → Int32 → Int32 → Option (Int32 × zM)
  | 0, _, _, _, _, _, _, _, _ => none
  | n + 1, M, x2, x3, x4, x5, x6, x7, x8 => if (M.1 25 3) ≤ x8 then (if x7 ≤ (x3 - x7) then (f_X12_look_129 x1 k38 M x2 x3 x4 x5 x6 (x3 - x7)) else (f_X12_look_129 x1 k38 M x2 x3 x4 x5 x6 x7)) else (zbi (f_X12_has M x2 x8) (fun r4 M5 => if r4 = 0 then (f_X12_look_102 x1 k38 (f_X12_look_65 x1 k38 n) M5 x2 x3 x4 x5 x6 x8 (0 : Int32) x7) else (zbi (f_X12_of M5 x8 x1) (fun r8 M9 => if x6 < r8 then (f_X12_look_102 x1 k38 (f_X12_look_65 x1 k38 n) M9 x2 x3 x4 x5 x6 x8 (0 : Int32) x7) else (f_X12_look_102 x1 k38 (f_X12_look_65 x1 k38 n) M9 x2 x3 x4 x5 x6 x8 (1 : Int32) x7)))))
set_option maxRecDepth 20000 in
set_option maxHeartbeats 2000000 in
theorem p_X12_look_65 {X : zX} {E : zE} {x1 : Int32} {r : Int32} {M' : zM} {k38 : zM → Int32 → Int32 → Int32 → Int32 → Int32 → Option (Int32 × zM)} (C : zC X E cX12_look 9 RX12 (some .int) 2) (hk38 : ∀ (M : zM) (y2 : Int32) (y3 : Int32) (y4 : Int32) (y5 : Int32) (y6 : Int32), k38 M y2 y3 y4 y5 y6 = some (r, M') → zW X E (zRQ X E (some (.int r)) M') M 38 [(0, .ref (E.2.1 25)), (1, .int x1), (2, .int y2), (3, .int y3), (4, .int y4), (5, .int y5), (6, .int y6)] []) : ∀ (n : Nat) (M : zM) (x2 : Int32) (x3 : Int32) (x4 : Int32) (x5 : Int32) (x6 : Int32) (x7 : Int32) (x8 : Int32), f_X12_look_65 x1 k38 n M x2 x3 x4 x5 x6 x7 x8 = some (r, M') → zW X E (zRQ X E (some (.int r)) M') M 65 [(0, .ref (E.2.1 25)), (1, .int x1), (2, .int x2), (3, .int x3), (4, .int x4), (5, .int x5), (6, .int x6), (7, .int x7), (8, .int x8)] [] := by
  intro n
  induction n with
  | zero => intro M x2 x3 x4 x5 x6 x7 x8 h; cases h
  | succ n ih =>
    intro M x2 x3 x4 x5 x6 x7 x8 h
    have h : (if (M.1 25 3) ≤ x8 then (if x7 ≤ (x3 - x7) then (f_X12_look_129 x1 k38 M x2 x3 x4 x5 x6 (x3 - x7)) else (f_X12_look_129 x1 k38 M x2 x3 x4 x5 x6 x7)) else (zbi (f_X12_has M x2 x8) (fun r4 M5 => if r4 = 0 then (f_X12_look_102 x1 k38 (f_X12_look_65 x1 k38 n) M5 x2 x3 x4 x5 x6 x8 (0 : Int32) x7) else (zbi (f_X12_of M5 x8 x1) (fun r8 M9 => if x6 < r8 then (f_X12_look_102 x1 k38 (f_X12_look_65 x1 k38 n) M9 x2 x3 x4 x5 x6 x8 (0 : Int32) x7) else (f_X12_look_102 x1 k38 (f_X12_look_65 x1 k38 n) M9 x2 x3 x4 x5 x6 x8 (1 : Int32) x7)))))) = some (r, M') := h
    refine zw_iload C 8 rfl dX12_look_65 ?_
    refine zw_aload_n C 0 rfl dX12_look_67 rfl ?_
    refine zw_get (v := .int (M.1 25 3)) C (by decide) (zc_25 E) rfl zin_X12 3 (by decide) gw_3_198 rfl dX12_look_68 ?_
    refine zw_icmp_ge (tgt := 111) C dX12_look_71 (by decide) (fun hb1 => ?_) (fun hb1 => ?_)
    · have h := zt_ hb1 h
      refine zw_iload C 7 rfl dX12_look_111 ?_
      refine zw_iload_n C 3 rfl dX12_look_113 rfl ?_
      refine zw_iload C 7 rfl dX12_look_114 ?_
      refine zw_isub C dX12_look_116 ?_
      refine zw_icmp_le (tgt := 125) C dX12_look_117 (by decide) (fun hb2 => ?_) (fun hb2 => ?_)
      · have h := zt_ hb2 h
        refine zw_iload_n C 3 rfl dX12_look_125 rfl ?_
        refine zw_iload C 7 rfl dX12_look_126 ?_
        refine zw_isub C dX12_look_128 ?_
        refine zw_sb [0, 1, 2, 3, 4, 5, 6] rfl ?_
        exact p_X12_look_129 C hk38 h
      · have h := zf_ hb2 h
        refine zw_iload C 7 rfl dX12_look_120 ?_
        refine zw_goto (tgt := 129) C dX12_look_122 (by decide) ?_
        refine zw_sb [0, 1, 2, 3, 4, 5, 6] rfl ?_
        exact p_X12_look_129 C hk38 h
    · have h := zf_ hb1 h
      refine zw_iload C 7 rfl dX12_look_74 ?_
      refine zw_iload_n C 2 rfl dX12_look_76 rfl ?_
      refine zw_iload C 8 rfl dX12_look_77 ?_
      obtain ⟨r4, M5, hq3, h⟩ := zbi_e h
      refine zw_callSi (As := [.int x2, .int x8]) (st := [.int x7]) C (m_X12_has C.2.2.2.2.2.2.2.1 hq3) ks_X12_has gw_4_165 (by decide) rfl rfl (Nat.le_of_ble_eq_true rfl) dX12_look_79 ?_
      refine zw_if_eq (tgt := 101) C dX12_look_82 (by decide) (fun hb6 => ?_) (fun hb6 => ?_)
      · have h := zt_ hb6 h
        refine zw_iconst (v := (0 : Int32)) C dX12_look_101 ct_i_0 ?_
        refine zw_sb [0, 1, 2, 3, 4, 5, 6, 8] rfl ?_
        exact p_X12_look_102 C hk38 (fun _ _ _ _ _ _ _ _ h => ih _ _ _ _ _ _ _ _ h) h
      · have h := zf_ hb6 h
        refine zw_aload_n C 0 rfl dX12_look_85 rfl ?_
        refine zw_iload C 8 rfl dX12_look_86 ?_
        refine zw_iload_n C 1 rfl dX12_look_88 rfl ?_
        obtain ⟨r8, M9, hq7, h⟩ := zbi_e h
        refine zw_callVi (As := [.int x8, .int x1]) (st := [.int x7]) C (m_X12_of C.2.2.2.2.2.2.2.1 hq7) kv_X12_of gw_5_15 (by decide) (by decide) (zc_25 E) rfl rfl rfl rfl (Nat.le_of_ble_eq_true rfl) dX12_look_89 ?_
        refine zw_iload C 6 rfl dX12_look_92 ?_
        refine zw_icmp_gt (tgt := 101) C dX12_look_94 (by decide) (fun hb10 => ?_) (fun hb10 => ?_)
        · have h := zt_ hb10 h
          refine zw_iconst (v := (0 : Int32)) C dX12_look_101 ct_i_0 ?_
          refine zw_sb [0, 1, 2, 3, 4, 5, 6, 8] rfl ?_
          exact p_X12_look_102 C hk38 (fun _ _ _ _ _ _ _ _ h => ih _ _ _ _ _ _ _ _ h) h
        · have h := zf_ hb10 h
          refine zw_iconst (v := (1 : Int32)) C dX12_look_97 ct_i_1 ?_
          refine zw_goto (tgt := 102) C dX12_look_98 (by decide) ?_
          refine zw_sb [0, 1, 2, 3, 4, 5, 6, 8] rfl ?_
          exact p_X12_look_102 C hk38 (fun _ _ _ _ _ _ _ _ h => ih _ _ _ _ _ _ _ _ h) h
def f_X12_look_51 (x1 : Int32) (k38 : zM → Int32 → Int32 → Int32 → Int32 → Int32 → Option (Int32 × zM)) (M : zM) (x2 : Int32) (x3 : Int32) (x4 : Int32) (x5 : Int32) (x6 : Int32) (s0 : Int32) (s1 : Int32) : Option (Int32 × zM) := if s0 ≤ s1 then (some (x5, M)) else (if x3 ≤ (1 : Int32) then (some (x5, M)) else (f_X12_look_65 x1 k38 zFU M x2 x3 x4 x5 x6 (0 : Int32) (0 : Int32)))
set_option maxRecDepth 20000 in
set_option maxHeartbeats 2000000 in
theorem p_X12_look_51 {X : zX} {E : zE} {x1 : Int32} {r : Int32} {M' : zM} {k38 : zM → Int32 → Int32 → Int32 → Int32 → Int32 → Option (Int32 × zM)} (C : zC X E cX12_look 9 RX12 (some .int) 2) (hk38 : ∀ (M : zM) (y2 : Int32) (y3 : Int32) (y4 : Int32) (y5 : Int32) (y6 : Int32), k38 M y2 y3 y4 y5 y6 = some (r, M') → zW X E (zRQ X E (some (.int r)) M') M 38 [(0, .ref (E.2.1 25)), (1, .int x1), (2, .int y2), (3, .int y3), (4, .int y4), (5, .int y5), (6, .int y6)] []) {M : zM} {x2 : Int32} {x3 : Int32} {x4 : Int32} {x5 : Int32} {x6 : Int32} {s0 : Int32} {s1 : Int32} (h : f_X12_look_51 x1 k38 M x2 x3 x4 x5 x6 s0 s1 = some (r, M')) : zW X E (zRQ X E (some (.int r)) M') M 51 [(0, .ref (E.2.1 25)), (1, .int x1), (2, .int x2), (3, .int x3), (4, .int x4), (5, .int x5), (6, .int x6)] [.int s0, .int s1] := by
  have h : (if s0 ≤ s1 then (some (x5, M)) else (if x3 ≤ (1 : Int32) then (some (x5, M)) else (f_X12_look_65 x1 k38 zFU M x2 x3 x4 x5 x6 (0 : Int32) (0 : Int32)))) = some (r, M') := h
  refine zw_icmp_ge (tgt := 169) C dX12_look_51 (by decide) (fun hb1 => ?_) (fun hb1 => ?_)
  · have h := zt_ hb1 h
    refine zw_iload C 5 rfl dX12_look_169 ?_
    exact zw_ireturnE C h dX12_look_171
  · have h := zf_ hb1 h
    refine zw_iload_n C 3 rfl dX12_look_54 rfl ?_
    refine zw_iconst (v := (1 : Int32)) C dX12_look_55 ct_i_1 ?_
    refine zw_icmp_le (tgt := 169) C dX12_look_56 (by decide) (fun hb2 => ?_) (fun hb2 => ?_)
    · have h := zt_ hb2 h
      refine zw_iload C 5 rfl dX12_look_169 ?_
      exact zw_ireturnE C h dX12_look_171
    · have h := zf_ hb2 h
      refine zw_iconst (v := (0 : Int32)) C dX12_look_59 ct_i_0 ?_
      refine zw_istore (lv' := [(7, .int (0 : Int32)), (0, .ref (E.2.1 25)), (1, .int x1), (2, .int x2), (3, .int x3), (4, .int x4), (5, .int x5), (6, .int x6)]) C dX12_look_60 (by decide) rfl ?_
      refine zw_iconst (v := (0 : Int32)) C dX12_look_62 ct_i_0 ?_
      refine zw_istore (lv' := [(8, .int (0 : Int32)), (7, .int (0 : Int32)), (0, .ref (E.2.1 25)), (1, .int x1), (2, .int x2), (3, .int x3), (4, .int x4), (5, .int x5), (6, .int x6)]) C dX12_look_63 (by decide) rfl ?_
      refine zw_sb [2, 3, 4, 5, 6, 7, 8, 1, 0] rfl ?_
      exact p_X12_look_65 C hk38 zFU _ _ _ _ _ _ _ _ h
def f_X12_look_38 (x1 : Int32) : Nat → zM → Int32 → Int32 → Int32 → Int32 → Int32 → Option (Int32 × zM)
  | 0, _, _, _, _, _, _ => none
  | n + 1, M, x2, x3, x4, x5, x6 => if x1 = 0 then (f_X12_look_51 x1 (f_X12_look_38 x1 n) M x2 x3 x4 x5 x6 (6 : Int32) x6) else (f_X12_look_51 x1 (f_X12_look_38 x1 n) M x2 x3 x4 x5 x6 (10 : Int32) x6)
set_option maxRecDepth 20000 in
set_option maxHeartbeats 2000000 in
theorem p_X12_look_38 {X : zX} {E : zE} {x1 : Int32} {r : Int32} {M' : zM} (C : zC X E cX12_look 9 RX12 (some .int) 2) : ∀ (n : Nat) (M : zM) (x2 : Int32) (x3 : Int32) (x4 : Int32) (x5 : Int32) (x6 : Int32), f_X12_look_38 x1 n M x2 x3 x4 x5 x6 = some (r, M') → zW X E (zRQ X E (some (.int r)) M') M 38 [(0, .ref (E.2.1 25)), (1, .int x1), (2, .int x2), (3, .int x3), (4, .int x4), (5, .int x5), (6, .int x6)] [] := by
  intro n
  induction n with
  | zero => intro M x2 x3 x4 x5 x6 h; cases h
  | succ n ih =>
    intro M x2 x3 x4 x5 x6 h
    have h : (if x1 = 0 then (f_X12_look_51 x1 (f_X12_look_38 x1 n) M x2 x3 x4 x5 x6 (6 : Int32) x6) else (f_X12_look_51 x1 (f_X12_look_38 x1 n) M x2 x3 x4 x5 x6 (10 : Int32) x6)) = some (r, M') := h
    refine zw_iload C 6 rfl dX12_look_38 ?_
    refine zw_iload_n C 1 rfl dX12_look_40 rfl ?_
    refine zw_if_ne (tgt := 49) C dX12_look_41 (by decide) (fun hb1 => ?_) (fun hb1 => ?_)
    · have h := zt_ hb1 h
      refine zw_bipush (v := (6 : Int32)) C dX12_look_44 ct_b_6 ?_
      refine zw_goto (tgt := 51) C dX12_look_46 (by decide) ?_
      exact p_X12_look_51 C (fun _ _ _ _ _ _ h => ih _ _ _ _ _ _ h) h
    · have h := zf_ hb1 h
      refine zw_bipush (v := (10 : Int32)) C dX12_look_49 ct_b_10 ?_
      exact p_X12_look_51 C (fun _ _ _ _ _ _ h => ih _ _ _ _ _ _ h) h
def f_X12_look_36 (x1 : Int32) (M : zM) (x2 : Int32) (x3 : Int32) (x4 : Int32) (x5 : Int32) (s0 : Int32) : Option (Int32 × zM) := f_X12_look_38 x1 zFU M x2 x3 x4 x5 s0
set_option maxRecDepth 20000 in
set_option maxHeartbeats 2000000 in
theorem p_X12_look_36 {X : zX} {E : zE} {x1 : Int32} {r : Int32} {M' : zM} (C : zC X E cX12_look 9 RX12 (some .int) 2) {M : zM} {x2 : Int32} {x3 : Int32} {x4 : Int32} {x5 : Int32} {s0 : Int32} (h : f_X12_look_36 x1 M x2 x3 x4 x5 s0 = some (r, M')) : zW X E (zRQ X E (some (.int r)) M') M 36 [(0, .ref (E.2.1 25)), (1, .int x1), (2, .int x2), (3, .int x3), (4, .int x4), (5, .int x5)] [.int s0] := by
  have h : (f_X12_look_38 x1 zFU M x2 x3 x4 x5 s0) = some (r, M') := h
  refine zw_istore (lv' := [(6, .int s0), (0, .ref (E.2.1 25)), (1, .int x1), (2, .int x2), (3, .int x3), (4, .int x4), (5, .int x5)]) C dX12_look_36 (by decide) rfl ?_
  refine zw_sb [1, 2, 3, 4, 5, 6, 0] rfl ?_
  exact p_X12_look_38 C zFU _ _ _ _ _ _ h
def f_X12_look_0 (x1 : Int32) (M : zM) : Option (Int32 × zM) := zbi (f_X12_isBit M x1) (fun r2 M3 => if r2 = 0 then (some ((-1 : Int32), M3)) else (zbi (f_X12_which M3) (fun r6 M7 => zbi (f_X12_bits M7 r6) (fun r9 M10 => if x1 = 0 then (f_X12_look_36 x1 M10 r6 r9 (7 : Int32) (-9 : Int32) (1 : Int32)) else (f_X12_look_36 x1 M10 r6 r9 (7 : Int32) (-9 : Int32) (0 : Int32))))))
set_option maxRecDepth 20000 in
set_option maxHeartbeats 2000000 in
theorem p_X12_look_0 {X : zX} {E : zE} {x1 : Int32} {r : Int32} {M' : zM} (C : zC X E cX12_look 9 RX12 (some .int) 2) {M : zM} (h : f_X12_look_0 x1 M = some (r, M')) : zW X E (zRQ X E (some (.int r)) M') M 0 [(0, .ref (E.2.1 25)), (1, .int x1)] [] := by
  have h : (zbi (f_X12_isBit M x1) (fun r2 M3 => if r2 = 0 then (some ((-1 : Int32), M3)) else (zbi (f_X12_which M3) (fun r6 M7 => zbi (f_X12_bits M7 r6) (fun r9 M10 => if x1 = 0 then (f_X12_look_36 x1 M10 r6 r9 (7 : Int32) (-9 : Int32) (1 : Int32)) else (f_X12_look_36 x1 M10 r6 r9 (7 : Int32) (-9 : Int32) (0 : Int32))))))) = some (r, M') := h
  refine zw_iload_n C 1 rfl dX12_look_0 rfl ?_
  obtain ⟨r2, M3, hq1, h⟩ := zbi_e h
  refine zw_callSi (As := [.int x1]) (st := []) C (m_X12_isBit C.2.2.2.2.2.2.2.1 hq1) ks_X12_isBit gw_4_176 (by decide) rfl rfl (Nat.le_of_ble_eq_true rfl) dX12_look_1 ?_
  refine zw_if_ne (tgt := 9) C dX12_look_4 (by decide) (fun hb4 => ?_) (fun hb4 => ?_)
  · have h := zt_ hb4 h
    refine zw_iconst (v := (-1 : Int32)) C dX12_look_7 ct_i_m1 ?_
    exact zw_ireturnE C h dX12_look_8
  · have h := zf_ hb4 h
    refine zw_aload_n C 0 rfl dX12_look_9 rfl ?_
    obtain ⟨r6, M7, hq5, h⟩ := zbi_e h
    refine zw_callVi (As := []) (st := []) C (m_X12_which C.2.2.2.2.2.2.2.1 hq5) kv_X12_which gw_5_23 (by decide) (by decide) (zc_25 E) rfl rfl rfl rfl (Nat.le_of_ble_eq_true rfl) dX12_look_10 ?_
    refine zw_istore_n (lv' := [(2, .int r6), (0, .ref (E.2.1 25)), (1, .int x1)]) C dX12_look_13 rfl (by decide) rfl ?_
    refine zw_iload_n C 0 rfl dX12_look_14 rfl ?_
    obtain ⟨r9, M10, hq8, h⟩ := zbi_e h
    refine zw_callSi (As := [.int r6]) (st := []) C (m_X12_bits C.2.2.2.2.2.2.2.1 hq8) ks_X12_bits gw_4_144 (by decide) rfl rfl (Nat.le_of_ble_eq_true rfl) dX12_look_15 ?_
    refine zw_istore_n (lv' := [(3, .int r9), (2, .int r6), (0, .ref (E.2.1 25)), (1, .int x1)]) C dX12_look_18 rfl (by decide) rfl ?_
    refine zw_bipush (v := (7 : Int32)) C dX12_look_19 ct_b_7 ?_
    refine zw_istore (lv' := [(4, .int (7 : Int32)), (3, .int r9), (2, .int r6), (0, .ref (E.2.1 25)), (1, .int x1)]) C dX12_look_21 (by decide) rfl ?_
    refine zw_bipush (v := (-9 : Int32)) C dX12_look_23 ct_b_m9 ?_
    refine zw_istore (lv' := [(5, .int (-9 : Int32)), (4, .int (7 : Int32)), (3, .int r9), (2, .int r6), (0, .ref (E.2.1 25)), (1, .int x1)]) C dX12_look_25 (by decide) rfl ?_
    refine zw_iload_n C 5 rfl dX12_look_27 rfl ?_
    refine zw_if_ne (tgt := 35) C dX12_look_28 (by decide) (fun hb11 => ?_) (fun hb11 => ?_)
    · have h := zt_ hb11 h
      refine zw_iconst (v := (1 : Int32)) C dX12_look_31 ct_i_1 ?_
      refine zw_goto (tgt := 36) C dX12_look_32 (by decide) ?_
      refine zw_sb [4, 5, 3, 2, 1, 0] rfl ?_
      exact p_X12_look_36 C h
    · have h := zf_ hb11 h
      refine zw_iconst (v := (0 : Int32)) C dX12_look_35 ct_i_0 ?_
      refine zw_sb [4, 5, 3, 2, 1, 0] rfl ?_
      exact p_X12_look_36 C h
def f_X12_look (M : zM) (x1 : Int32) : Option (Int32 × zM) := f_X12_look_0 x1 M
theorem m_X12_look {l : Launch} {E : zE} (hI : zI E) {M M' : zM} {x1 : Int32} {r : Int32} (h : f_X12_look M x1 = some (r, M')) : zMet l E yX12_look cX12_look 9 (some .int) 2 [.ref (E.2.1 25), .int x1] M M' (some (.int r)) := zm_of hI (by decide) (Nat.le_of_ble_eq_true rfl) (fun X _ C => p_X12_look_0 C h)
theorem kv_X12_look : zKV yX12_look cX12_look 9 (some .int) 1 := ⟨⟨gw_5_20, gw_5_21, gw_1_13, gw_5_22⟩, ⟨by decide, by decide, by decide +kernel⟩, by decide⟩
-- WingDoorModel.asDoor(I)I, 12 instructions, depth 1
def f_X12_asDoor_0 (x1 : Int32) (M : zM) : Option (Int32 × zM) := zbi (f_X12_bulkOf (zsL M 25 14 ((M.2 25 14) + (1 : Int64))) 28 x1) (fun r2 M3 => some (r2, M3))
set_option maxRecDepth 20000 in
set_option maxHeartbeats 2000000 in
theorem p_X12_asDoor_0 {X : zX} {E : zE} {x1 : Int32} {r : Int32} {M' : zM} (C : zC X E cX12_asDoor 2 RX12 (some .int) 1) {M : zM} (h : f_X12_asDoor_0 x1 M = some (r, M')) : zW X E (zRQ X E (some (.int r)) M') M 0 [(0, .ref (E.2.1 25)), (1, .int x1)] [] := by
  have h : (zbi (f_X12_bulkOf (zsL M 25 14 ((M.2 25 14) + (1 : Int64))) 28 x1) (fun r2 M3 => some (r2, M3))) = some (r, M') := h
  refine zw_aload_n C 0 rfl dX12_asDoor_0 rfl ?_
  refine zw_dup C rfl dX12_asDoor_1 ?_
  refine zw_get (v := .long (M.2 25 14)) C (by decide) (zc_25 E) rfl zin_X12 14 (by decide) gw_3_209 rfl dX12_asDoor_2 ?_
  refine zw_lconst (v := (1 : Int64)) C dX12_asDoor_5 rfl ?_
  refine zw_ladd C dX12_asDoor_6 ?_
  refine zw_putL C (by decide) (zc_25 E) rfl zin_X12 tyX12 tyX12_ok nmX12 14 (by decide) gw_3_209 rfl rfl (fun _ _ => Nat.le_of_ble_eq_true rfl) (fun _ _ => rfl) dX12_asDoor_7 ?_
  refine zw_aload_n C 0 rfl dX12_asDoor_10 rfl ?_
  refine zw_aload_n C 0 rfl dX12_asDoor_11 rfl ?_
  refine zw_get (v := .ref (E.2.1 28)) C (by decide) (zc_25 E) rfl zin_X12 6 (by decide) gw_3_201 rfl dX12_asDoor_12 ?_
  refine zw_iload_n C 1 rfl dX12_asDoor_15 rfl ?_
  obtain ⟨r2, M3, hq1, h⟩ := zbi_e h
  refine zw_callVi (As := [.ref (E.2.1 28), .int x1]) (st := []) C (m_X12_bulkOf C.2.2.2.2.2.2.2.1 zia_28 hq1) kv_X12_bulkOf gw_4_168 (by decide) (by decide) (zc_25 E) rfl rfl rfl rfl (Nat.le_of_ble_eq_true rfl) dX12_asDoor_16 ?_
  exact zw_ireturnE C h dX12_asDoor_19
def f_X12_asDoor (M : zM) (x1 : Int32) : Option (Int32 × zM) := f_X12_asDoor_0 x1 M
theorem m_X12_asDoor {l : Launch} {E : zE} (hI : zI E) {M M' : zM} {x1 : Int32} {r : Int32} (h : f_X12_asDoor M x1 = some (r, M')) : zMet l E yX12_asDoor cX12_asDoor 2 (some .int) 1 [.ref (E.2.1 25), .int x1] M M' (some (.int r)) := zm_of hI (by decide) (Nat.le_of_ble_eq_true rfl) (fun X _ C => p_X12_asDoor_0 C h)
theorem kv_X12_asDoor : zKV yX12_asDoor cX12_asDoor 2 (some .int) 1 := ⟨⟨gw_5_31, gs_44, gw_1_13, gw_5_32⟩, ⟨by decide, by decide, by decide +kernel⟩, by decide⟩
-- WingDoorModel.asBank(I)I, 20 instructions, depth 2
def f_X12_asBank_0 (x1 : Int32) (M : zM) : Option (Int32 × zM) := zbi (f_X12_asDoor (zsL M 25 14 ((M.2 25 14) + (10 : Int64))) x1) (fun r2 M3 => zg (zin ((2 : Int32) + x1) 47) (zg (zin (M3.1 28 ((2 : Int32) + x1).toNatClampNeg) 6) (some (r2 + (M3.1 27 (M3.1 28 ((2 : Int32) + x1).toNatClampNeg).toNatClampNeg), M3))))
set_option maxRecDepth 20000 in
set_option maxHeartbeats 2000000 in
theorem p_X12_asBank_0 {X : zX} {E : zE} {x1 : Int32} {r : Int32} {M' : zM} (C : zC X E cX12_asBank 2 RX12 (some .int) 2) {M : zM} (h : f_X12_asBank_0 x1 M = some (r, M')) : zW X E (zRQ X E (some (.int r)) M') M 0 [(0, .ref (E.2.1 25)), (1, .int x1)] [] := by
  have h : (zbi (f_X12_asDoor (zsL M 25 14 ((M.2 25 14) + (10 : Int64))) x1) (fun r2 M3 => zg (zin ((2 : Int32) + x1) 47) (zg (zin (M3.1 28 ((2 : Int32) + x1).toNatClampNeg) 6) (some (r2 + (M3.1 27 (M3.1 28 ((2 : Int32) + x1).toNatClampNeg).toNatClampNeg), M3))))) = some (r, M') := h
  refine zw_aload_n C 0 rfl dX12_asBank_0 rfl ?_
  refine zw_dup C rfl dX12_asBank_1 ?_
  refine zw_get (v := .long (M.2 25 14)) C (by decide) (zc_25 E) rfl zin_X12 14 (by decide) gw_3_209 rfl dX12_asBank_2 ?_
  refine zw_ldc2 (v := (10 : Int64)) C gw_4_237 dX12_asBank_5 ?_
  refine zw_ladd C dX12_asBank_8 ?_
  refine zw_putL C (by decide) (zc_25 E) rfl zin_X12 tyX12 tyX12_ok nmX12 14 (by decide) gw_3_209 rfl rfl (fun _ _ => Nat.le_of_ble_eq_true rfl) (fun _ _ => rfl) dX12_asBank_9 ?_
  refine zw_aload_n C 0 rfl dX12_asBank_12 rfl ?_
  refine zw_iload_n C 1 rfl dX12_asBank_13 rfl ?_
  obtain ⟨r2, M3, hq1, h⟩ := zbi_e h
  refine zw_callVi (As := [.int x1]) (st := []) C (m_X12_asDoor C.2.2.2.2.2.2.2.1 hq1) kv_X12_asDoor gw_5_29 (by decide) (by decide) (zc_25 E) rfl rfl rfl rfl (Nat.le_of_ble_eq_true rfl) dX12_asBank_14 ?_
  refine zw_aload_n C 0 rfl dX12_asBank_17 rfl ?_
  refine zw_get (v := .ref (E.2.1 27)) C (by decide) (zc_25 E) rfl zin_X12 5 (by decide) gw_3_200 rfl dX12_asBank_18 ?_
  refine zw_aload_n C 0 rfl dX12_asBank_21 rfl ?_
  refine zw_get (v := .ref (E.2.1 28)) C (by decide) (zc_25 E) rfl zin_X12 6 (by decide) gw_3_201 rfl dX12_asBank_22 ?_
  refine zw_iconst (v := (2 : Int32)) C dX12_asBank_25 ct_i_2 ?_
  refine zw_iload_n C 1 rfl dX12_asBank_26 rfl ?_
  refine zw_iadd C dX12_asBank_27 ?_
  obtain ⟨hi4, h⟩ := zg_e h
  refine zw_iald C zia_28 (zin_e hi4) dX12_asBank_28 ?_
  obtain ⟨hi5, h⟩ := zg_e h
  refine zw_iald C zia_27 (zin_e hi5) dX12_asBank_29 ?_
  refine zw_iadd C dX12_asBank_30 ?_
  exact zw_ireturnE C h dX12_asBank_31
def f_X12_asBank (M : zM) (x1 : Int32) : Option (Int32 × zM) := f_X12_asBank_0 x1 M
theorem m_X12_asBank {l : Launch} {E : zE} (hI : zI E) {M M' : zM} {x1 : Int32} {r : Int32} (h : f_X12_asBank M x1 = some (r, M')) : zMet l E yX12_asBank cX12_asBank 2 (some .int) 2 [.ref (E.2.1 25), .int x1] M M' (some (.int r)) := zm_of hI (by decide) (Nat.le_of_ble_eq_true rfl) (fun X _ C => p_X12_asBank_0 C h)
theorem kv_X12_asBank : zKV yX12_asBank cX12_asBank 2 (some .int) 1 := ⟨⟨gw_5_35, gs_45, gw_1_13, gw_5_36⟩, ⟨by decide, by decide, by decide +kernel⟩, by decide⟩
-- WingDoorModel.asHotel(I)I, 16 instructions, depth 2
def f_X12_asHotel_0 (x1 : Int32) (M : zM) : Option (Int32 × zM) := zbi (f_X12_asDoor (zsL M 25 14 ((M.2 25 14) + (100 : Int64))) x1) (fun r2 M3 => zbi (f_X12_those M3 28 (0 : Int32)) (fun r5 M6 => zbi (f_X12_bits M6 r5) (fun r8 M9 => some (r2 - r8, M9))))
set_option maxRecDepth 20000 in
set_option maxHeartbeats 2000000 in
theorem p_X12_asHotel_0 {X : zX} {E : zE} {x1 : Int32} {r : Int32} {M' : zM} (C : zC X E cX12_asHotel 2 RX12 (some .int) 2) {M : zM} (h : f_X12_asHotel_0 x1 M = some (r, M')) : zW X E (zRQ X E (some (.int r)) M') M 0 [(0, .ref (E.2.1 25)), (1, .int x1)] [] := by
  have h : (zbi (f_X12_asDoor (zsL M 25 14 ((M.2 25 14) + (100 : Int64))) x1) (fun r2 M3 => zbi (f_X12_those M3 28 (0 : Int32)) (fun r5 M6 => zbi (f_X12_bits M6 r5) (fun r8 M9 => some (r2 - r8, M9))))) = some (r, M') := h
  refine zw_aload_n C 0 rfl dX12_asHotel_0 rfl ?_
  refine zw_dup C rfl dX12_asHotel_1 ?_
  refine zw_get (v := .long (M.2 25 14)) C (by decide) (zc_25 E) rfl zin_X12 14 (by decide) gw_3_209 rfl dX12_asHotel_2 ?_
  refine zw_ldc2 (v := (100 : Int64)) C gw_5_41 dX12_asHotel_5 ?_
  refine zw_ladd C dX12_asHotel_8 ?_
  refine zw_putL C (by decide) (zc_25 E) rfl zin_X12 tyX12 tyX12_ok nmX12 14 (by decide) gw_3_209 rfl rfl (fun _ _ => Nat.le_of_ble_eq_true rfl) (fun _ _ => rfl) dX12_asHotel_9 ?_
  refine zw_aload_n C 0 rfl dX12_asHotel_12 rfl ?_
  refine zw_iload_n C 1 rfl dX12_asHotel_13 rfl ?_
  obtain ⟨r2, M3, hq1, h⟩ := zbi_e h
  refine zw_callVi (As := [.int x1]) (st := []) C (m_X12_asDoor C.2.2.2.2.2.2.2.1 hq1) kv_X12_asDoor gw_5_29 (by decide) (by decide) (zc_25 E) rfl rfl rfl rfl (Nat.le_of_ble_eq_true rfl) dX12_asHotel_14 ?_
  refine zw_aload_n C 0 rfl dX12_asHotel_17 rfl ?_
  refine zw_get (v := .ref (E.2.1 28)) C (by decide) (zc_25 E) rfl zin_X12 6 (by decide) gw_3_201 rfl dX12_asHotel_18 ?_
  refine zw_iconst (v := (0 : Int32)) C dX12_asHotel_21 ct_i_0 ?_
  obtain ⟨r5, M6, hq4, h⟩ := zbi_e h
  refine zw_callSi (As := [.ref (E.2.1 28), .int (0 : Int32)]) (st := [.int r2]) C (m_X12_those C.2.2.2.2.2.2.2.1 zia_28 hq4) ks_X12_those gw_4_133 (by decide) rfl rfl (Nat.le_of_ble_eq_true rfl) dX12_asHotel_22 ?_
  obtain ⟨r8, M9, hq7, h⟩ := zbi_e h
  refine zw_callSi (As := [.int r5]) (st := [.int r2]) C (m_X12_bits C.2.2.2.2.2.2.2.1 hq7) ks_X12_bits gw_4_144 (by decide) rfl rfl (Nat.le_of_ble_eq_true rfl) dX12_asHotel_25 ?_
  refine zw_isub C dX12_asHotel_28 ?_
  exact zw_ireturnE C h dX12_asHotel_29
def f_X12_asHotel (M : zM) (x1 : Int32) : Option (Int32 × zM) := f_X12_asHotel_0 x1 M
theorem m_X12_asHotel {l : Launch} {E : zE} (hI : zI E) {M M' : zM} {x1 : Int32} {r : Int32} (h : f_X12_asHotel M x1 = some (r, M')) : zMet l E yX12_asHotel cX12_asHotel 2 (some .int) 2 [.ref (E.2.1 25), .int x1] M M' (some (.int r)) := zm_of hI (by decide) (Nat.le_of_ble_eq_true rfl) (fun X _ C => p_X12_asHotel_0 C h)
theorem kv_X12_asHotel : zKV yX12_asHotel cX12_asHotel 2 (some .int) 1 := ⟨⟨gw_5_39, gs_46, gw_1_13, gw_5_40⟩, ⟨by decide, by decide, by decide +kernel⟩, by decide⟩
-- WingDoorModel.rate(II)I, 61 instructions, depth 3
def f_X12_rate_0 (x1 : Int32) (x2 : Int32) (M : zM) : Option (Int32 × zM) := zbi (f_X12_isGoer M x2) (fun r2 M3 => if r2 = 0 then (some ((-1000000 : Int32), M3)) else (if x1 = (0 : Int32) then (zbi (f_X12_asDoor M3 x2) (fun r7 M8 => some (r7, M8))) else if x1 = (1 : Int32) then (zbi (f_X12_asBank M3 x2) (fun r11 M12 => some (r11, M12))) else if x1 = (2 : Int32) then (zbi (f_X12_asHotel M3 x2) (fun r15 M16 => some (r15, M16))) else if x1 = (3 : Int32) then (zbi (f_X12_asBank (zsL M3 25 14 ((M3.2 25 14) + (1000 : Int64))) x2) (fun r19 M20 => some ((2 : Int32) * r19, M20))) else if x1 = (4 : Int32) then (zbi (f_X12_asHotel (zsL M3 25 14 ((M3.2 25 14) + (10000 : Int64))) x2) (fun r23 M24 => some (r23 + x2, M24))) else if x1 = (5 : Int32) then (zbi (f_X12_asDoor (zsL M3 25 14 ((M3.2 25 14) + (100000 : Int64))) x2) (fun r27 M28 => zg (zin (1 : Int32) 47) (some (r27 + (M28.1 28 (1 : Int32).toNatClampNeg), M28)))) else (some ((-1000000 : Int32), M3))))
set_option maxRecDepth 20000 in
set_option maxHeartbeats 2000000 in
theorem p_X12_rate_0 {X : zX} {E : zE} {x1 : Int32} {x2 : Int32} {r : Int32} {M' : zM} (C : zC X E cX12_rate 3 RX12 (some .int) 3) {M : zM} (h : f_X12_rate_0 x1 x2 M = some (r, M')) : zW X E (zRQ X E (some (.int r)) M') M 0 [(0, .ref (E.2.1 25)), (1, .int x1), (2, .int x2)] [] := by
  have h : (zbi (f_X12_isGoer M x2) (fun r2 M3 => if r2 = 0 then (some ((-1000000 : Int32), M3)) else (if x1 = (0 : Int32) then (zbi (f_X12_asDoor M3 x2) (fun r7 M8 => some (r7, M8))) else if x1 = (1 : Int32) then (zbi (f_X12_asBank M3 x2) (fun r11 M12 => some (r11, M12))) else if x1 = (2 : Int32) then (zbi (f_X12_asHotel M3 x2) (fun r15 M16 => some (r15, M16))) else if x1 = (3 : Int32) then (zbi (f_X12_asBank (zsL M3 25 14 ((M3.2 25 14) + (1000 : Int64))) x2) (fun r19 M20 => some ((2 : Int32) * r19, M20))) else if x1 = (4 : Int32) then (zbi (f_X12_asHotel (zsL M3 25 14 ((M3.2 25 14) + (10000 : Int64))) x2) (fun r23 M24 => some (r23 + x2, M24))) else if x1 = (5 : Int32) then (zbi (f_X12_asDoor (zsL M3 25 14 ((M3.2 25 14) + (100000 : Int64))) x2) (fun r27 M28 => zg (zin (1 : Int32) 47) (some (r27 + (M28.1 28 (1 : Int32).toNatClampNeg), M28)))) else (some ((-1000000 : Int32), M3))))) = some (r, M') := h
  refine zw_aload_n C 0 rfl dX12_rate_0 rfl ?_
  refine zw_iload_n C 2 rfl dX12_rate_1 rfl ?_
  obtain ⟨r2, M3, hq1, h⟩ := zbi_e h
  refine zw_callVi (As := [.int x2]) (st := []) C (m_X12_isGoer C.2.2.2.2.2.2.2.1 hq1) kv_X12_isGoer gw_4_106 (by decide) (by decide) (zc_25 E) rfl rfl rfl rfl (Nat.le_of_ble_eq_true rfl) dX12_rate_2 ?_
  refine zw_if_ne (tgt := 11) C dX12_rate_5 (by decide) (fun hb4 => ?_) (fun hb4 => ?_)
  · have h := zt_ hb4 h
    refine zw_ldc (v := (-1000000 : Int32)) C gw_5_28 dX12_rate_8 ?_
    exact zw_ireturnE C h dX12_rate_10
  · have h := zf_ hb4 h
    refine zw_iload_n C 1 rfl dX12_rate_11 rfl ?_
    by_cases hb5 : x1 = (0 : Int32)
    · have h := zt_ hb5 h
      refine zw_tabIn (v := (0 : Int32)) (tgt := 52) C hb5 dX12_rate_12 (by decide) (by decide) rfl (by decide) ?_
      refine zw_aload_n C 0 rfl dX12_rate_52 rfl ?_
      refine zw_iload_n C 2 rfl dX12_rate_53 rfl ?_
      obtain ⟨r7, M8, hq6, h⟩ := zbi_e h
      refine zw_callVi (As := [.int x2]) (st := []) C (m_X12_asDoor C.2.2.2.2.2.2.2.1 hq6) kv_X12_asDoor gw_5_29 (by decide) (by decide) (zc_25 E) rfl rfl rfl rfl (Nat.le_of_ble_eq_true rfl) dX12_rate_54 ?_
      exact zw_ireturnE C h dX12_rate_57
    have h := zf_ hb5 h
    by_cases hb9 : x1 = (1 : Int32)
    · have h := zt_ hb9 h
      refine zw_tabIn (v := (1 : Int32)) (tgt := 58) C hb9 dX12_rate_12 (by decide) (by decide) rfl (by decide) ?_
      refine zw_aload_n C 0 rfl dX12_rate_58 rfl ?_
      refine zw_iload_n C 2 rfl dX12_rate_59 rfl ?_
      obtain ⟨r11, M12, hq10, h⟩ := zbi_e h
      refine zw_callVi (As := [.int x2]) (st := []) C (m_X12_asBank C.2.2.2.2.2.2.2.1 hq10) kv_X12_asBank gw_5_33 (by decide) (by decide) (zc_25 E) rfl rfl rfl rfl (Nat.le_of_ble_eq_true rfl) dX12_rate_60 ?_
      exact zw_ireturnE C h dX12_rate_63
    have h := zf_ hb9 h
    by_cases hb13 : x1 = (2 : Int32)
    · have h := zt_ hb13 h
      refine zw_tabIn (v := (2 : Int32)) (tgt := 64) C hb13 dX12_rate_12 (by decide) (by decide) rfl (by decide) ?_
      refine zw_aload_n C 0 rfl dX12_rate_64 rfl ?_
      refine zw_iload_n C 2 rfl dX12_rate_65 rfl ?_
      obtain ⟨r15, M16, hq14, h⟩ := zbi_e h
      refine zw_callVi (As := [.int x2]) (st := []) C (m_X12_asHotel C.2.2.2.2.2.2.2.1 hq14) kv_X12_asHotel gw_5_37 (by decide) (by decide) (zc_25 E) rfl rfl rfl rfl (Nat.le_of_ble_eq_true rfl) dX12_rate_66 ?_
      exact zw_ireturnE C h dX12_rate_69
    have h := zf_ hb13 h
    by_cases hb17 : x1 = (3 : Int32)
    · have h := zt_ hb17 h
      refine zw_tabIn (v := (3 : Int32)) (tgt := 70) C hb17 dX12_rate_12 (by decide) (by decide) rfl (by decide) ?_
      refine zw_aload_n C 0 rfl dX12_rate_70 rfl ?_
      refine zw_dup C rfl dX12_rate_71 ?_
      refine zw_get (v := .long (M3.2 25 14)) C (by decide) (zc_25 E) rfl zin_X12 14 (by decide) gw_3_209 rfl dX12_rate_72 ?_
      refine zw_ldc2 (v := (1000 : Int64)) C gw_5_42 dX12_rate_75 ?_
      refine zw_ladd C dX12_rate_78 ?_
      refine zw_putL C (by decide) (zc_25 E) rfl zin_X12 tyX12 tyX12_ok nmX12 14 (by decide) gw_3_209 rfl rfl (fun _ _ => Nat.le_of_ble_eq_true rfl) (fun _ _ => rfl) dX12_rate_79 ?_
      refine zw_iconst (v := (2 : Int32)) C dX12_rate_82 ct_i_2 ?_
      refine zw_aload_n C 0 rfl dX12_rate_83 rfl ?_
      refine zw_iload_n C 2 rfl dX12_rate_84 rfl ?_
      obtain ⟨r19, M20, hq18, h⟩ := zbi_e h
      refine zw_callVi (As := [.int x2]) (st := [.int (2 : Int32)]) C (m_X12_asBank C.2.2.2.2.2.2.2.1 hq18) kv_X12_asBank gw_5_33 (by decide) (by decide) (zc_25 E) rfl rfl rfl rfl (Nat.le_of_ble_eq_true rfl) dX12_rate_85 ?_
      refine zw_imul C dX12_rate_88 ?_
      exact zw_ireturnE C h dX12_rate_89
    have h := zf_ hb17 h
    by_cases hb21 : x1 = (4 : Int32)
    · have h := zt_ hb21 h
      refine zw_tabIn (v := (4 : Int32)) (tgt := 90) C hb21 dX12_rate_12 (by decide) (by decide) rfl (by decide) ?_
      refine zw_aload_n C 0 rfl dX12_rate_90 rfl ?_
      refine zw_dup C rfl dX12_rate_91 ?_
      refine zw_get (v := .long (M3.2 25 14)) C (by decide) (zc_25 E) rfl zin_X12 14 (by decide) gw_3_209 rfl dX12_rate_92 ?_
      refine zw_ldc2 (v := (10000 : Int64)) C gw_5_43 dX12_rate_95 ?_
      refine zw_ladd C dX12_rate_98 ?_
      refine zw_putL C (by decide) (zc_25 E) rfl zin_X12 tyX12 tyX12_ok nmX12 14 (by decide) gw_3_209 rfl rfl (fun _ _ => Nat.le_of_ble_eq_true rfl) (fun _ _ => rfl) dX12_rate_99 ?_
      refine zw_aload_n C 0 rfl dX12_rate_102 rfl ?_
      refine zw_iload_n C 2 rfl dX12_rate_103 rfl ?_
      obtain ⟨r23, M24, hq22, h⟩ := zbi_e h
      refine zw_callVi (As := [.int x2]) (st := []) C (m_X12_asHotel C.2.2.2.2.2.2.2.1 hq22) kv_X12_asHotel gw_5_37 (by decide) (by decide) (zc_25 E) rfl rfl rfl rfl (Nat.le_of_ble_eq_true rfl) dX12_rate_104 ?_
      refine zw_iload_n C 2 rfl dX12_rate_107 rfl ?_
      refine zw_iadd C dX12_rate_108 ?_
      exact zw_ireturnE C h dX12_rate_109
    have h := zf_ hb21 h
    by_cases hb25 : x1 = (5 : Int32)
    · have h := zt_ hb25 h
      refine zw_tabIn (v := (5 : Int32)) (tgt := 110) C hb25 dX12_rate_12 (by decide) (by decide) rfl (by decide) ?_
      refine zw_aload_n C 0 rfl dX12_rate_110 rfl ?_
      refine zw_dup C rfl dX12_rate_111 ?_
      refine zw_get (v := .long (M3.2 25 14)) C (by decide) (zc_25 E) rfl zin_X12 14 (by decide) gw_3_209 rfl dX12_rate_112 ?_
      refine zw_ldc2 (v := (100000 : Int64)) C gw_5_44 dX12_rate_115 ?_
      refine zw_ladd C dX12_rate_118 ?_
      refine zw_putL C (by decide) (zc_25 E) rfl zin_X12 tyX12 tyX12_ok nmX12 14 (by decide) gw_3_209 rfl rfl (fun _ _ => Nat.le_of_ble_eq_true rfl) (fun _ _ => rfl) dX12_rate_119 ?_
      refine zw_aload_n C 0 rfl dX12_rate_122 rfl ?_
      refine zw_iload_n C 2 rfl dX12_rate_123 rfl ?_
      obtain ⟨r27, M28, hq26, h⟩ := zbi_e h
      refine zw_callVi (As := [.int x2]) (st := []) C (m_X12_asDoor C.2.2.2.2.2.2.2.1 hq26) kv_X12_asDoor gw_5_29 (by decide) (by decide) (zc_25 E) rfl rfl rfl rfl (Nat.le_of_ble_eq_true rfl) dX12_rate_124 ?_
      refine zw_aload_n C 0 rfl dX12_rate_127 rfl ?_
      refine zw_get (v := .ref (E.2.1 28)) C (by decide) (zc_25 E) rfl zin_X12 6 (by decide) gw_3_201 rfl dX12_rate_128 ?_
      refine zw_iconst (v := (1 : Int32)) C dX12_rate_131 ct_i_1 ?_
      obtain ⟨hi29, h⟩ := zg_e h
      refine zw_iald C zia_28 (zin_e hi29) dX12_rate_132 ?_
      refine zw_iadd C dX12_rate_133 ?_
      exact zw_ireturnE C h dX12_rate_134
    have h := zf_ hb25 h
    refine zw_tabOut (tgt := 135) C (by have e0 := lv_neT hb5 (show (0 : Int32).toInt = 0 by decide); have e1 := lv_neT hb9 (show (1 : Int32).toInt = 1 by decide); have e2 := lv_neT hb13 (show (2 : Int32).toInt = 2 by decide); have e3 := lv_neT hb17 (show (3 : Int32).toInt = 3 by decide); have e4 := lv_neT hb21 (show (4 : Int32).toInt = 4 by decide); have e5 := lv_neT hb25 (show (5 : Int32).toInt = 5 by decide); omega) dX12_rate_12 (by decide) ?_
    refine zw_ldc (v := (-1000000 : Int32)) C gw_5_28 dX12_rate_135 ?_
    exact zw_ireturnE C h dX12_rate_137
def f_X12_rate (M : zM) (x1 : Int32) (x2 : Int32) : Option (Int32 × zM) := f_X12_rate_0 x1 x2 M
theorem m_X12_rate {l : Launch} {E : zE} (hI : zI E) {M M' : zM} {x1 : Int32} {x2 : Int32} {r : Int32} (h : f_X12_rate M x1 x2 = some (r, M')) : zMet l E yX12_rate cX12_rate 3 (some .int) 3 [.ref (E.2.1 25), .int x1, .int x2] M M' (some (.int r)) := zm_of hI (by decide) (Nat.le_of_ble_eq_true rfl) (fun X _ C => p_X12_rate_0 C h)
theorem kv_X12_rate : zKV yX12_rate cX12_rate 3 (some .int) 2 := ⟨⟨gw_5_25, gw_5_26, gw_1_13, gw_5_27⟩, ⟨by decide, by decide, by decide +kernel⟩, by decide⟩
-- WingDoorModel.keep(I)I, 25 instructions, depth 2
def f_X12_keep_0 (x1 : Int32) (M : zM) : Option (Int32 × zM) := zbi (f_X12_isBit M x1) (fun r2 M3 => if r2 = 0 then (some ((-1 : Int32), M3)) else (zbv (f_X12_copies M3 28 47 (0 : Int32) 31 94 ((47 : Int32) * x1) (47 : Int32)) (fun M7 => zg (zin x1 2) (zg (zin (1 : Int32) 47) (some ((zs M7 32 x1.toNatClampNeg (1 : Int32)).1 28 (1 : Int32).toNatClampNeg, zs M7 32 x1.toNatClampNeg (1 : Int32)))))))
set_option maxRecDepth 20000 in
set_option maxHeartbeats 2000000 in
theorem p_X12_keep_0 {X : zX} {E : zE} {x1 : Int32} {r : Int32} {M' : zM} (C : zC X E cX12_keep 2 RX12 (some .int) 2) {M : zM} (h : f_X12_keep_0 x1 M = some (r, M')) : zW X E (zRQ X E (some (.int r)) M') M 0 [(0, .ref (E.2.1 25)), (1, .int x1)] [] := by
  have h : (zbi (f_X12_isBit M x1) (fun r2 M3 => if r2 = 0 then (some ((-1 : Int32), M3)) else (zbv (f_X12_copies M3 28 47 (0 : Int32) 31 94 ((47 : Int32) * x1) (47 : Int32)) (fun M7 => zg (zin x1 2) (zg (zin (1 : Int32) 47) (some ((zs M7 32 x1.toNatClampNeg (1 : Int32)).1 28 (1 : Int32).toNatClampNeg, zs M7 32 x1.toNatClampNeg (1 : Int32)))))))) = some (r, M') := h
  refine zw_iload_n C 1 rfl dX12_keep_0 rfl ?_
  obtain ⟨r2, M3, hq1, h⟩ := zbi_e h
  refine zw_callSi (As := [.int x1]) (st := []) C (m_X12_isBit C.2.2.2.2.2.2.2.1 hq1) ks_X12_isBit gw_4_176 (by decide) rfl rfl (Nat.le_of_ble_eq_true rfl) dX12_keep_1 ?_
  refine zw_if_ne (tgt := 9) C dX12_keep_4 (by decide) (fun hb4 => ?_) (fun hb4 => ?_)
  · have h := zt_ hb4 h
    refine zw_iconst (v := (-1 : Int32)) C dX12_keep_7 ct_i_m1 ?_
    exact zw_ireturnE C h dX12_keep_8
  · have h := zf_ hb4 h
    refine zw_aload_n C 0 rfl dX12_keep_9 rfl ?_
    refine zw_get (v := .ref (E.2.1 28)) C (by decide) (zc_25 E) rfl zin_X12 6 (by decide) gw_3_201 rfl dX12_keep_10 ?_
    refine zw_iconst (v := (0 : Int32)) C dX12_keep_13 ct_i_0 ?_
    refine zw_aload_n C 0 rfl dX12_keep_14 rfl ?_
    refine zw_get (v := .ref (E.2.1 31)) C (by decide) (zc_25 E) rfl zin_X12 10 (by decide) gw_3_205 rfl dX12_keep_15 ?_
    refine zw_bipush (v := (47 : Int32)) C dX12_keep_18 ct_b_47 ?_
    refine zw_iload_n C 1 rfl dX12_keep_20 rfl ?_
    refine zw_imul C dX12_keep_21 ?_
    refine zw_bipush (v := (47 : Int32)) C dX12_keep_22 ct_b_47 ?_
    obtain ⟨M7, hq5, h⟩ := zbv_e h
    refine zw_callSv (As := [.ref (E.2.1 28), .int (0 : Int32), .ref (E.2.1 31), .int ((47 : Int32) * x1), .int (47 : Int32)]) (st := []) C (m_X12_copies C.2.2.2.2.2.2.2.1 zia_28 zia_31 hq5) ks_X12_copies gw_4_95 (by decide) rfl rfl (Nat.le_of_ble_eq_true rfl) dX12_keep_24 ?_
    refine zw_aload_n C 0 rfl dX12_keep_27 rfl ?_
    refine zw_get (v := .ref (E.2.1 32)) C (by decide) (zc_25 E) rfl zin_X12 11 (by decide) gw_3_206 rfl dX12_keep_28 ?_
    refine zw_iload_n C 1 rfl dX12_keep_31 rfl ?_
    refine zw_iconst (v := (1 : Int32)) C dX12_keep_32 ct_i_1 ?_
    obtain ⟨hi8, h⟩ := zg_e h
    refine zw_zast C zza_32 rfl (zin_e hi8) dX12_keep_33 ?_
    refine zw_aload_n C 0 rfl dX12_keep_34 rfl ?_
    refine zw_get (v := .ref (E.2.1 28)) C (by decide) (zc_25 E) rfl zin_X12 6 (by decide) gw_3_201 rfl dX12_keep_35 ?_
    refine zw_iconst (v := (1 : Int32)) C dX12_keep_38 ct_i_1 ?_
    obtain ⟨hi9, h⟩ := zg_e h
    refine zw_iald C zia_28 (zin_e hi9) dX12_keep_39 ?_
    exact zw_ireturnE C h dX12_keep_40
def f_X12_keep (M : zM) (x1 : Int32) : Option (Int32 × zM) := f_X12_keep_0 x1 M
theorem m_X12_keep {l : Launch} {E : zE} (hI : zI E) {M M' : zM} {x1 : Int32} {r : Int32} (h : f_X12_keep M x1 = some (r, M')) : zMet l E yX12_keep cX12_keep 2 (some .int) 2 [.ref (E.2.1 25), .int x1] M M' (some (.int r)) := zm_of hI (by decide) (Nat.le_of_ble_eq_true rfl) (fun X _ C => p_X12_keep_0 C h)
theorem kv_X12_keep : zKV yX12_keep cX12_keep 2 (some .int) 1 := ⟨⟨gw_5_46, gw_5_47, gw_1_13, gw_5_48⟩, ⟨by decide, by decide, by decide +kernel⟩, by decide⟩
-- WingDoorModel.back(I)I, 30 instructions, depth 2
def f_X12_back_0 (x1 : Int32) (M : zM) : Option (Int32 × zM) := zbi (f_X12_isBit M x1) (fun r2 M3 => if r2 = 0 then (some ((-1 : Int32), M3)) else (zg (zin x1 2) (if (M3.1 32 x1.toNatClampNeg) = 0 then (some ((-2 : Int32), M3)) else (zbv (f_X12_copies M3 31 94 ((47 : Int32) * x1) 28 47 (0 : Int32) (47 : Int32)) (fun M9 => zg (zin (1 : Int32) 47) (some ((zs M9 25 9 (0 : Int32)).1 28 (1 : Int32).toNatClampNeg, zs M9 25 9 (0 : Int32))))))))
set_option maxRecDepth 20000 in
set_option maxHeartbeats 2000000 in
theorem p_X12_back_0 {X : zX} {E : zE} {x1 : Int32} {r : Int32} {M' : zM} (C : zC X E cX12_back 2 RX12 (some .int) 2) {M : zM} (h : f_X12_back_0 x1 M = some (r, M')) : zW X E (zRQ X E (some (.int r)) M') M 0 [(0, .ref (E.2.1 25)), (1, .int x1)] [] := by
  have h : (zbi (f_X12_isBit M x1) (fun r2 M3 => if r2 = 0 then (some ((-1 : Int32), M3)) else (zg (zin x1 2) (if (M3.1 32 x1.toNatClampNeg) = 0 then (some ((-2 : Int32), M3)) else (zbv (f_X12_copies M3 31 94 ((47 : Int32) * x1) 28 47 (0 : Int32) (47 : Int32)) (fun M9 => zg (zin (1 : Int32) 47) (some ((zs M9 25 9 (0 : Int32)).1 28 (1 : Int32).toNatClampNeg, zs M9 25 9 (0 : Int32))))))))) = some (r, M') := h
  refine zw_iload_n C 1 rfl dX12_back_0 rfl ?_
  obtain ⟨r2, M3, hq1, h⟩ := zbi_e h
  refine zw_callSi (As := [.int x1]) (st := []) C (m_X12_isBit C.2.2.2.2.2.2.2.1 hq1) ks_X12_isBit gw_4_176 (by decide) rfl rfl (Nat.le_of_ble_eq_true rfl) dX12_back_1 ?_
  refine zw_if_ne (tgt := 9) C dX12_back_4 (by decide) (fun hb4 => ?_) (fun hb4 => ?_)
  · have h := zt_ hb4 h
    refine zw_iconst (v := (-1 : Int32)) C dX12_back_7 ct_i_m1 ?_
    exact zw_ireturnE C h dX12_back_8
  · have h := zf_ hb4 h
    refine zw_aload_n C 0 rfl dX12_back_9 rfl ?_
    refine zw_get (v := .ref (E.2.1 32)) C (by decide) (zc_25 E) rfl zin_X12 11 (by decide) gw_3_206 rfl dX12_back_10 ?_
    refine zw_iload_n C 1 rfl dX12_back_13 rfl ?_
    obtain ⟨hi5, h⟩ := zg_e h
    refine zw_zald C zza_32 (zin_e hi5) dX12_back_14 ?_
    refine zw_if_ne (tgt := 21) C dX12_back_15 (by decide) (fun hb6 => ?_) (fun hb6 => ?_)
    · have h := zt_ hb6 h
      refine zw_bipush (v := (-2 : Int32)) C dX12_back_18 ct_b_m2 ?_
      exact zw_ireturnE C h dX12_back_20
    · have h := zf_ hb6 h
      refine zw_aload_n C 0 rfl dX12_back_21 rfl ?_
      refine zw_get (v := .ref (E.2.1 31)) C (by decide) (zc_25 E) rfl zin_X12 10 (by decide) gw_3_205 rfl dX12_back_22 ?_
      refine zw_bipush (v := (47 : Int32)) C dX12_back_25 ct_b_47 ?_
      refine zw_iload_n C 1 rfl dX12_back_27 rfl ?_
      refine zw_imul C dX12_back_28 ?_
      refine zw_aload_n C 0 rfl dX12_back_29 rfl ?_
      refine zw_get (v := .ref (E.2.1 28)) C (by decide) (zc_25 E) rfl zin_X12 6 (by decide) gw_3_201 rfl dX12_back_30 ?_
      refine zw_iconst (v := (0 : Int32)) C dX12_back_33 ct_i_0 ?_
      refine zw_bipush (v := (47 : Int32)) C dX12_back_34 ct_b_47 ?_
      obtain ⟨M9, hq7, h⟩ := zbv_e h
      refine zw_callSv (As := [.ref (E.2.1 31), .int ((47 : Int32) * x1), .ref (E.2.1 28), .int (0 : Int32), .int (47 : Int32)]) (st := []) C (m_X12_copies C.2.2.2.2.2.2.2.1 zia_31 zia_28 hq7) ks_X12_copies gw_4_95 (by decide) rfl rfl (Nat.le_of_ble_eq_true rfl) dX12_back_36 ?_
      refine zw_aload_n C 0 rfl dX12_back_39 rfl ?_
      refine zw_iconst (v := (0 : Int32)) C dX12_back_40 ct_i_0 ?_
      refine zw_put (ty := .int) C (by decide) (zc_25 E) rfl zin_X12 tyX12 tyX12_ok nmX12 9 (by decide) gw_3_204 rfl rfl rfl rfl (fun _ _ => Nat.le_of_ble_eq_true rfl) (fun _ _ => rfl) dX12_back_41 ?_
      refine zw_aload_n C 0 rfl dX12_back_44 rfl ?_
      refine zw_get (v := .ref (E.2.1 28)) C (by decide) (zc_25 E) rfl zin_X12 6 (by decide) gw_3_201 rfl dX12_back_45 ?_
      refine zw_iconst (v := (1 : Int32)) C dX12_back_48 ct_i_1 ?_
      obtain ⟨hi10, h⟩ := zg_e h
      refine zw_iald C zia_28 (zin_e hi10) dX12_back_49 ?_
      exact zw_ireturnE C h dX12_back_50
def f_X12_back (M : zM) (x1 : Int32) : Option (Int32 × zM) := f_X12_back_0 x1 M
theorem m_X12_back {l : Launch} {E : zE} (hI : zI E) {M M' : zM} {x1 : Int32} {r : Int32} (h : f_X12_back M x1 = some (r, M')) : zMet l E yX12_back cX12_back 2 (some .int) 2 [.ref (E.2.1 25), .int x1] M M' (some (.int r)) := zm_of hI (by decide) (Nat.le_of_ble_eq_true rfl) (fun X _ C => p_X12_back_0 C h)
theorem kv_X12_back : zKV yX12_back cX12_back 2 (some .int) 1 := ⟨⟨gw_5_50, gw_5_51, gw_1_13, gw_5_52⟩, ⟨by decide, by decide, by decide +kernel⟩, by decide⟩
-- WingDoorModel.count(I)I, 27 instructions, depth 0
def f_X12_count_0 (x1 : Int32) (M : zM) : Option (Int32 × zM) := if x1 = (0 : Int32) then (some (M.1 25 0, M)) else if x1 = (1 : Int32) then (some (M.1 25 1, M)) else if x1 = (2 : Int32) then (some (M.1 25 2, M)) else if x1 = (3 : Int32) then (some (M.1 25 3, M)) else if x1 = (4 : Int32) then (zg (zin (0 : Int32) 47) (some (M.1 28 (0 : Int32).toNatClampNeg, M))) else if x1 = (5 : Int32) then (some (M.1 25 13, M)) else if x1 = (6 : Int32) then (some (M.1 25 16, M)) else (some ((-1 : Int32), M))
set_option maxRecDepth 20000 in
set_option maxHeartbeats 2000000 in
theorem p_X12_count_0 {X : zX} {E : zE} {x1 : Int32} {r : Int32} {M' : zM} (C : zC X E cX12_count 2 RX12 (some .int) 0) {M : zM} (h : f_X12_count_0 x1 M = some (r, M')) : zW X E (zRQ X E (some (.int r)) M') M 0 [(0, .ref (E.2.1 25)), (1, .int x1)] [] := by
  have h : (if x1 = (0 : Int32) then (some (M.1 25 0, M)) else if x1 = (1 : Int32) then (some (M.1 25 1, M)) else if x1 = (2 : Int32) then (some (M.1 25 2, M)) else if x1 = (3 : Int32) then (some (M.1 25 3, M)) else if x1 = (4 : Int32) then (zg (zin (0 : Int32) 47) (some (M.1 28 (0 : Int32).toNatClampNeg, M))) else if x1 = (5 : Int32) then (some (M.1 25 13, M)) else if x1 = (6 : Int32) then (some (M.1 25 16, M)) else (some ((-1 : Int32), M))) = some (r, M') := h
  refine zw_iload_n C 1 rfl dX12_count_0 rfl ?_
  by_cases hb1 : x1 = (0 : Int32)
  · have h := zt_ hb1 h
    refine zw_tabIn (v := (0 : Int32)) (tgt := 44) C hb1 dX12_count_1 (by decide) (by decide) rfl (by decide) ?_
    refine zw_aload_n C 0 rfl dX12_count_44 rfl ?_
    refine zw_get (v := .int (M.1 25 0)) C (by decide) (zc_25 E) rfl zin_X12 0 (by decide) gw_3_195 rfl dX12_count_45 ?_
    exact zw_ireturnE C h dX12_count_48
  have h := zf_ hb1 h
  by_cases hb2 : x1 = (1 : Int32)
  · have h := zt_ hb2 h
    refine zw_tabIn (v := (1 : Int32)) (tgt := 49) C hb2 dX12_count_1 (by decide) (by decide) rfl (by decide) ?_
    refine zw_aload_n C 0 rfl dX12_count_49 rfl ?_
    refine zw_get (v := .int (M.1 25 1)) C (by decide) (zc_25 E) rfl zin_X12 1 (by decide) gw_3_196 rfl dX12_count_50 ?_
    exact zw_ireturnE C h dX12_count_53
  have h := zf_ hb2 h
  by_cases hb3 : x1 = (2 : Int32)
  · have h := zt_ hb3 h
    refine zw_tabIn (v := (2 : Int32)) (tgt := 54) C hb3 dX12_count_1 (by decide) (by decide) rfl (by decide) ?_
    refine zw_aload_n C 0 rfl dX12_count_54 rfl ?_
    refine zw_get (v := .int (M.1 25 2)) C (by decide) (zc_25 E) rfl zin_X12 2 (by decide) gw_3_197 rfl dX12_count_55 ?_
    exact zw_ireturnE C h dX12_count_58
  have h := zf_ hb3 h
  by_cases hb4 : x1 = (3 : Int32)
  · have h := zt_ hb4 h
    refine zw_tabIn (v := (3 : Int32)) (tgt := 59) C hb4 dX12_count_1 (by decide) (by decide) rfl (by decide) ?_
    refine zw_aload_n C 0 rfl dX12_count_59 rfl ?_
    refine zw_get (v := .int (M.1 25 3)) C (by decide) (zc_25 E) rfl zin_X12 3 (by decide) gw_3_198 rfl dX12_count_60 ?_
    exact zw_ireturnE C h dX12_count_63
  have h := zf_ hb4 h
  by_cases hb5 : x1 = (4 : Int32)
  · have h := zt_ hb5 h
    refine zw_tabIn (v := (4 : Int32)) (tgt := 64) C hb5 dX12_count_1 (by decide) (by decide) rfl (by decide) ?_
    refine zw_aload_n C 0 rfl dX12_count_64 rfl ?_
    refine zw_get (v := .ref (E.2.1 28)) C (by decide) (zc_25 E) rfl zin_X12 6 (by decide) gw_3_201 rfl dX12_count_65 ?_
    refine zw_iconst (v := (0 : Int32)) C dX12_count_68 ct_i_0 ?_
    obtain ⟨hi6, h⟩ := zg_e h
    refine zw_iald C zia_28 (zin_e hi6) dX12_count_69 ?_
    exact zw_ireturnE C h dX12_count_70
  have h := zf_ hb5 h
  by_cases hb7 : x1 = (5 : Int32)
  · have h := zt_ hb7 h
    refine zw_tabIn (v := (5 : Int32)) (tgt := 71) C hb7 dX12_count_1 (by decide) (by decide) rfl (by decide) ?_
    refine zw_aload_n C 0 rfl dX12_count_71 rfl ?_
    refine zw_get (v := .int (M.1 25 13)) C (by decide) (zc_25 E) rfl zin_X12 13 (by decide) gw_3_208 rfl dX12_count_72 ?_
    exact zw_ireturnE C h dX12_count_75
  have h := zf_ hb7 h
  by_cases hb8 : x1 = (6 : Int32)
  · have h := zt_ hb8 h
    refine zw_tabIn (v := (6 : Int32)) (tgt := 76) C hb8 dX12_count_1 (by decide) (by decide) rfl (by decide) ?_
    refine zw_aload_n C 0 rfl dX12_count_76 rfl ?_
    refine zw_get (v := .int (M.1 25 16)) C (by decide) (zc_25 E) rfl zin_X12 16 (by decide) gw_3_211 rfl dX12_count_77 ?_
    exact zw_ireturnE C h dX12_count_80
  have h := zf_ hb8 h
  refine zw_tabOut (tgt := 81) C (by have e0 := lv_neT hb1 (show (0 : Int32).toInt = 0 by decide); have e1 := lv_neT hb2 (show (1 : Int32).toInt = 1 by decide); have e2 := lv_neT hb3 (show (2 : Int32).toInt = 2 by decide); have e3 := lv_neT hb4 (show (3 : Int32).toInt = 3 by decide); have e4 := lv_neT hb5 (show (4 : Int32).toInt = 4 by decide); have e5 := lv_neT hb7 (show (5 : Int32).toInt = 5 by decide); have e6 := lv_neT hb8 (show (6 : Int32).toInt = 6 by decide); omega) dX12_count_1 (by decide) ?_
  refine zw_iconst (v := (-1 : Int32)) C dX12_count_81 ct_i_m1 ?_
  exact zw_ireturnE C h dX12_count_82
def f_X12_count (M : zM) (x1 : Int32) : Option (Int32 × zM) := f_X12_count_0 x1 M
theorem m_X12_count {l : Launch} {E : zE} (hI : zI E) {M M' : zM} {x1 : Int32} {r : Int32} (h : f_X12_count M x1 = some (r, M')) : zMet l E yX12_count cX12_count 2 (some .int) 0 [.ref (E.2.1 25), .int x1] M M' (some (.int r)) := zm_of hI (by decide) (Nat.le_of_ble_eq_true rfl) (fun X _ C => p_X12_count_0 C h)
theorem kv_X12_count : zKV yX12_count cX12_count 2 (some .int) 1 := ⟨⟨gw_5_54, gw_5_55, gw_1_13, gw_5_56⟩, ⟨by decide, by decide, by decide +kernel⟩, by decide⟩
-- WingDoorModel.trace()J, 3 instructions, depth 0
def f_X12_trace_0 (M : zM) : Option (Int64 × zM) := some (M.2 25 14, M)
set_option maxRecDepth 20000 in
set_option maxHeartbeats 2000000 in
theorem p_X12_trace_0 {X : zX} {E : zE} {r : Int64} {M' : zM} (C : zC X E cX12_trace 1 RX12 (some .long) 0) {M : zM} (h : f_X12_trace_0  M = some (r, M')) : zW X E (zRQ X E (some (.long r)) M') M 0 [(0, .ref (E.2.1 25))] [] := by
  have h : (some (M.2 25 14, M)) = some (r, M') := h
  refine zw_aload_n C 0 rfl dX12_trace_0 rfl ?_
  refine zw_get (v := .long (M.2 25 14)) C (by decide) (zc_25 E) rfl zin_X12 14 (by decide) gw_3_209 rfl dX12_trace_1 ?_
  exact zw_lreturnE C h dX12_trace_4
def f_X12_trace (M : zM) : Option (Int64 × zM) := f_X12_trace_0 M
theorem m_X12_trace {l : Launch} {E : zE} (hI : zI E) {M M' : zM} {r : Int64} (h : f_X12_trace M = some (r, M')) : zMet l E yX12_trace cX12_trace 1 (some .long) 0 [.ref (E.2.1 25)] M M' (some (.long r)) := zm_of hI (by decide) (Nat.le_of_ble_eq_true rfl) (fun X _ C => p_X12_trace_0 C h)
theorem kv_X12_trace : zKV yX12_trace cX12_trace 1 (some .long) 0 := ⟨⟨gw_5_58, gw_5_59, gw_1_13, gw_5_60⟩, ⟨by decide, by decide, by decide +kernel⟩, by decide⟩
