-- WingDoorModel.in(JJJ)Z, 12 instructions, depth 0
def f_X12_in_0 (x0 : Int64) (x2 : Int64) (x4 : Int64) (M : zM) : Option (Int32 × zM) := if (lg_cmp x0 x2) < 0 then (some ((0 : Int32), M)) else (if 0 < (lg_cmp x0 x4) then (some ((0 : Int32), M)) else (some ((1 : Int32), M)))
set_option maxRecDepth 20000 in
set_option maxHeartbeats 2000000 in
theorem p_X12_in_0 {X : zX} {E : zE} {x0 : Int64} {x2 : Int64} {x4 : Int64} {r : Int32} {M' : zM} (C : zC X E cX12_in 6 RX12 (some .boolean) 0) {M : zM} (h : f_X12_in_0 x0 x2 x4 M = some (r, M')) : zW X E (zRQ X E (some (.int r)) M') M 0 [(0, .long x0), (2, .long x2), (4, .long x4)] [] := by
  have h : (if (lg_cmp x0 x2) < 0 then (some ((0 : Int32), M)) else (if 0 < (lg_cmp x0 x4) then (some ((0 : Int32), M)) else (some ((1 : Int32), M)))) = some (r, M') := h
  refine zw_lload_n C 0 rfl dX12_in_0 rfl ?_
  refine zw_lload_n C 1 rfl dX12_in_1 rfl ?_
  refine zw_lcmp C dX12_in_2 ?_
  refine zw_if_lt (tgt := 17) C dX12_in_3 (by decide) (fun hb1 => ?_) (fun hb1 => ?_)
  · have h := zt_ hb1 h
    refine zw_iconst (v := (0 : Int32)) C dX12_in_17 ct_i_0 ?_
    exact zw_zreturnE C rfl h dX12_in_18
  · have h := zf_ hb1 h
    refine zw_lload_n C 0 rfl dX12_in_6 rfl ?_
    refine zw_lload C 2 rfl dX12_in_7 ?_
    refine zw_lcmp C dX12_in_9 ?_
    refine zw_if_gt (tgt := 17) C dX12_in_10 (by decide) (fun hb2 => ?_) (fun hb2 => ?_)
    · have h := zt_ hb2 h
      refine zw_iconst (v := (0 : Int32)) C dX12_in_17 ct_i_0 ?_
      exact zw_zreturnE C rfl h dX12_in_18
    · have h := zf_ hb2 h
      refine zw_iconst (v := (1 : Int32)) C dX12_in_13 ct_i_1 ?_
      refine zw_goto (tgt := 18) C dX12_in_14 (by decide) ?_
      exact zw_zreturnE C rfl h dX12_in_18
def f_X12_in (M : zM) (x0 : Int64) (x2 : Int64) (x4 : Int64) : Option (Int32 × zM) := f_X12_in_0 x0 x2 x4 M
theorem m_X12_in {l : Launch} {E : zE} (hI : zI E) {M M' : zM} {x0 : Int64} {x2 : Int64} {x4 : Int64} {r : Int32} (h : f_X12_in M x0 x2 x4 = some (r, M')) : zMet l E yX12_in cX12_in 6 (some .boolean) 0 [.long x0, .long x2, .long x4] M M' (some (.int r)) := zm_of hI (by decide) (Nat.le_of_ble_eq_true rfl) (fun X _ C => p_X12_in_0 C h)
theorem ks_X12_in : zKS yX12_in cX12_in 6 (some .boolean) 3 := ⟨⟨gw_4_43, gw_1_13, gw_4_44⟩, ⟨by decide, by decide, by decide +kernel⟩, by decide⟩
-- WingDoorModel.has(II)Z, 11 instructions, depth 0
def f_X12_has_0 (x0 : Int32) (x1 : Int32) (M : zM) : Option (Int32 × zM) := if ((x0 >>> (x1 &&& 31)) &&& (1 : Int32)) = (1 : Int32) then (some ((1 : Int32), M)) else (some ((0 : Int32), M))
set_option maxRecDepth 20000 in
set_option maxHeartbeats 2000000 in
theorem p_X12_has_0 {X : zX} {E : zE} {x0 : Int32} {x1 : Int32} {r : Int32} {M' : zM} (C : zC X E cX12_has 2 RX12 (some .boolean) 0) {M : zM} (h : f_X12_has_0 x0 x1 M = some (r, M')) : zW X E (zRQ X E (some (.int r)) M') M 0 [(0, .int x0), (1, .int x1)] [] := by
  have h : (if ((x0 >>> (x1 &&& 31)) &&& (1 : Int32)) = (1 : Int32) then (some ((1 : Int32), M)) else (some ((0 : Int32), M))) = some (r, M') := h
  refine zw_iload_n C 0 rfl dX12_has_0 rfl ?_
  refine zw_iload_n C 1 rfl dX12_has_1 rfl ?_
  refine zw_ishr C dX12_has_2 ?_
  refine zw_iconst (v := (1 : Int32)) C dX12_has_3 ct_i_1 ?_
  refine zw_iand C dX12_has_4 ?_
  refine zw_iconst (v := (1 : Int32)) C dX12_has_5 ct_i_1 ?_
  refine zw_icmp_ne (tgt := 13) C dX12_has_6 (by decide) (fun hb1 => ?_) (fun hb1 => ?_)
  · have h := zt_ hb1 h
    refine zw_iconst (v := (1 : Int32)) C dX12_has_9 ct_i_1 ?_
    refine zw_goto (tgt := 14) C dX12_has_10 (by decide) ?_
    exact zw_zreturnE C rfl h dX12_has_14
  · have h := zf_ hb1 h
    refine zw_iconst (v := (0 : Int32)) C dX12_has_13 ct_i_0 ?_
    exact zw_zreturnE C rfl h dX12_has_14
def f_X12_has (M : zM) (x0 : Int32) (x1 : Int32) : Option (Int32 × zM) := f_X12_has_0 x0 x1 M
theorem m_X12_has {l : Launch} {E : zE} (hI : zI E) {M M' : zM} {x0 : Int32} {x1 : Int32} {r : Int32} (h : f_X12_has M x0 x1 = some (r, M')) : zMet l E yX12_has cX12_has 2 (some .boolean) 0 [.int x0, .int x1] M M' (some (.int r)) := zm_of hI (by decide) (Nat.le_of_ble_eq_true rfl) (fun X _ C => p_X12_has_0 C h)
theorem ks_X12_has : zKS yX12_has cX12_has 2 (some .boolean) 2 := ⟨⟨gw_4_166, gw_1_13, gw_4_167⟩, ⟨by decide, by decide, by decide +kernel⟩, by decide⟩
-- WingDoorModel.bits(I)I, 16 instructions, depth 0
def f_X12_bits_4 (x0 : Int32) : Nat → zM → Int32 → Int32 → Option (Int32 × zM)
  | 0, _, _, _ => none
  | n + 1, M, x1, x2 => if x2 = 0 then (some (x1, M)) else (f_X12_bits_4 x0 n M (x1 + (1 : Int32)) (x2 &&& (x2 - (1 : Int32))))
set_option maxRecDepth 20000 in
set_option maxHeartbeats 2000000 in
theorem p_X12_bits_4 {X : zX} {E : zE} {x0 : Int32} {r : Int32} {M' : zM} (C : zC X E cX12_bits 3 RX12 (some .int) 0) : ∀ (n : Nat) (M : zM) (x1 : Int32) (x2 : Int32), f_X12_bits_4 x0 n M x1 x2 = some (r, M') → zW X E (zRQ X E (some (.int r)) M') M 4 [(0, .int x0), (1, .int x1), (2, .int x2)] [] := by
  intro n
  induction n with
  | zero => intro M x1 x2 h; cases h
  | succ n ih =>
    intro M x1 x2 h
    have h : (if x2 = 0 then (some (x1, M)) else (f_X12_bits_4 x0 n M (x1 + (1 : Int32)) (x2 &&& (x2 - (1 : Int32))))) = some (r, M') := h
    refine zw_iload_n C 2 rfl dX12_bits_4 rfl ?_
    refine zw_if_eq (tgt := 20) C dX12_bits_5 (by decide) (fun hb1 => ?_) (fun hb1 => ?_)
    · have h := zt_ hb1 h
      refine zw_iload_n C 1 rfl dX12_bits_20 rfl ?_
      exact zw_ireturnE C h dX12_bits_21
    · have h := zf_ hb1 h
      refine zw_iinc (lv' := [(1, .int (x1 + (1 : Int32))), (0, .int x0), (2, .int x2)]) C 1 rfl dX12_bits_8 (ct_n_1 _) (by decide) rfl ?_
      refine zw_iload_n C 2 rfl dX12_bits_11 rfl ?_
      refine zw_iload_n C 2 rfl dX12_bits_12 rfl ?_
      refine zw_iconst (v := (1 : Int32)) C dX12_bits_13 ct_i_1 ?_
      refine zw_isub C dX12_bits_14 ?_
      refine zw_iand C dX12_bits_15 ?_
      refine zw_istore_n (lv' := [(2, .int (x2 &&& (x2 - (1 : Int32)))), (1, .int (x1 + (1 : Int32))), (0, .int x0)]) C dX12_bits_16 rfl (by decide) rfl ?_
      refine zw_goto (tgt := 4) C dX12_bits_17 (by decide) ?_
      refine zw_sb [2, 1, 0] rfl ?_
      exact ih _ _ _ h
def f_X12_bits_0 (x0 : Int32) (M : zM) : Option (Int32 × zM) := f_X12_bits_4 x0 zFU M (0 : Int32) x0
set_option maxRecDepth 20000 in
set_option maxHeartbeats 2000000 in
theorem p_X12_bits_0 {X : zX} {E : zE} {x0 : Int32} {r : Int32} {M' : zM} (C : zC X E cX12_bits 3 RX12 (some .int) 0) {M : zM} (h : f_X12_bits_0 x0 M = some (r, M')) : zW X E (zRQ X E (some (.int r)) M') M 0 [(0, .int x0)] [] := by
  have h : (f_X12_bits_4 x0 zFU M (0 : Int32) x0) = some (r, M') := h
  refine zw_iconst (v := (0 : Int32)) C dX12_bits_0 ct_i_0 ?_
  refine zw_istore_n (lv' := [(1, .int (0 : Int32)), (0, .int x0)]) C dX12_bits_1 rfl (by decide) rfl ?_
  refine zw_iload_n C 1 rfl dX12_bits_2 rfl ?_
  refine zw_istore_n (lv' := [(2, .int x0), (1, .int (0 : Int32)), (0, .int x0)]) C dX12_bits_3 rfl (by decide) rfl ?_
  refine zw_sb [2, 1, 0] rfl ?_
  exact p_X12_bits_4 C zFU _ _ _ h
def f_X12_bits (M : zM) (x0 : Int32) : Option (Int32 × zM) := f_X12_bits_0 x0 M
theorem m_X12_bits {l : Launch} {E : zE} (hI : zI E) {M M' : zM} {x0 : Int32} {r : Int32} (h : f_X12_bits M x0 = some (r, M')) : zMet l E yX12_bits cX12_bits 3 (some .int) 0 [.int x0] M M' (some (.int r)) := zm_of hI (by decide) (Nat.le_of_ble_eq_true rfl) (fun X _ C => p_X12_bits_0 C h)
theorem ks_X12_bits : zKS yX12_bits cX12_bits 3 (some .int) 1 := ⟨⟨gw_4_145, gw_1_13, gw_4_146⟩, ⟨by decide, by decide, by decide +kernel⟩, by decide⟩
-- WingDoorModel.copies([II[III)V, 18 instructions, depth 0
def f_X12_copies_3 (p0 n0 : Nat) (x1 : Int32) (p2 n2 : Nat) (x3 : Int32) (x4 : Int32) : Nat → zM → Int32 → Option zM
  | 0, _, _ => none
  | n + 1, M, x5 => if x4 ≤ x5 then (some M) else (zg (zin (x1 + x5) n0) (zg (zin (x3 + x5) n2) (f_X12_copies_3 p0 n0 x1 p2 n2 x3 x4 n (zs M p2 (x3 + x5).toNatClampNeg (M.1 p0 (x1 + x5).toNatClampNeg)) (x5 + (1 : Int32)))))
set_option maxRecDepth 20000 in
set_option maxHeartbeats 2000000 in
theorem p_X12_copies_3 {X : zX} {E : zE} {p0 n0 : Nat} {x1 : Int32} {p2 n2 : Nat} {x3 : Int32} {x4 : Int32} {M' : zM} (C : zC X E cX12_copies 6 RX12 none 0) (hp0 : zia p0 n0) (hp2 : zia p2 n2) : ∀ (n : Nat) (M : zM) (x5 : Int32), f_X12_copies_3 p0 n0 x1 p2 n2 x3 x4 n M x5 = some M' → zW X E (zRQ X E none M') M 3 [(0, .ref (E.2.1 p0)), (1, .int x1), (2, .ref (E.2.1 p2)), (3, .int x3), (4, .int x4), (5, .int x5)] [] := by
  intro n
  induction n with
  | zero => intro M x5 h; cases h
  | succ n ih =>
    intro M x5 h
    have h : (if x4 ≤ x5 then (some M) else (zg (zin (x1 + x5) n0) (zg (zin (x3 + x5) n2) (f_X12_copies_3 p0 n0 x1 p2 n2 x3 x4 n (zs M p2 (x3 + x5).toNatClampNeg (M.1 p0 (x1 + x5).toNatClampNeg)) (x5 + (1 : Int32)))))) = some M' := h
    refine zw_iload C 5 rfl dX12_copies_3 ?_
    refine zw_iload C 4 rfl dX12_copies_5 ?_
    refine zw_icmp_ge (tgt := 28) C dX12_copies_7 (by decide) (fun hb1 => ?_) (fun hb1 => ?_)
    · have h := zt_ hb1 h
      exact zw_returnE C h dX12_copies_28
    · have h := zf_ hb1 h
      refine zw_aload_n C 2 rfl dX12_copies_10 rfl ?_
      refine zw_iload_n C 3 rfl dX12_copies_11 rfl ?_
      refine zw_iload C 5 rfl dX12_copies_12 ?_
      refine zw_iadd C dX12_copies_14 ?_
      refine zw_aload_n C 0 rfl dX12_copies_15 rfl ?_
      refine zw_iload_n C 1 rfl dX12_copies_16 rfl ?_
      refine zw_iload C 5 rfl dX12_copies_17 ?_
      refine zw_iadd C dX12_copies_19 ?_
      obtain ⟨hi2, h⟩ := zg_e h
      refine zw_iald C hp0 (zin_e hi2) dX12_copies_20 ?_
      obtain ⟨hi3, h⟩ := zg_e h
      refine zw_iast C hp2 (zin_e hi3) dX12_copies_21 ?_
      refine zw_iinc (lv' := [(5, .int (x5 + (1 : Int32))), (0, .ref (E.2.1 p0)), (1, .int x1), (2, .ref (E.2.1 p2)), (3, .int x3), (4, .int x4)]) C 5 rfl dX12_copies_22 (ct_n_1 _) (by decide) rfl ?_
      refine zw_goto (tgt := 3) C dX12_copies_25 (by decide) ?_
      refine zw_sb [1, 2, 3, 4, 5, 0] rfl ?_
      exact ih _ _ h
def f_X12_copies_0 (p0 n0 : Nat) (x1 : Int32) (p2 n2 : Nat) (x3 : Int32) (x4 : Int32) (M : zM) : Option zM := f_X12_copies_3 p0 n0 x1 p2 n2 x3 x4 zFU M (0 : Int32)
set_option maxRecDepth 20000 in
set_option maxHeartbeats 2000000 in
theorem p_X12_copies_0 {X : zX} {E : zE} {p0 n0 : Nat} {x1 : Int32} {p2 n2 : Nat} {x3 : Int32} {x4 : Int32} {M' : zM} (C : zC X E cX12_copies 6 RX12 none 0) (hp0 : zia p0 n0) (hp2 : zia p2 n2) {M : zM} (h : f_X12_copies_0 p0 n0 x1 p2 n2 x3 x4 M = some M') : zW X E (zRQ X E none M') M 0 [(0, .ref (E.2.1 p0)), (1, .int x1), (2, .ref (E.2.1 p2)), (3, .int x3), (4, .int x4)] [] := by
  have h : (f_X12_copies_3 p0 n0 x1 p2 n2 x3 x4 zFU M (0 : Int32)) = some M' := h
  refine zw_iconst (v := (0 : Int32)) C dX12_copies_0 ct_i_0 ?_
  refine zw_istore (lv' := [(5, .int (0 : Int32)), (0, .ref (E.2.1 p0)), (1, .int x1), (2, .ref (E.2.1 p2)), (3, .int x3), (4, .int x4)]) C dX12_copies_1 (by decide) rfl ?_
  refine zw_sb [1, 2, 3, 4, 5, 0] rfl ?_
  exact p_X12_copies_3 C hp0 hp2 zFU _ _ h
def f_X12_copies (M : zM) (p0 n0 : Nat) (x1 : Int32) (p2 n2 : Nat) (x3 : Int32) (x4 : Int32) : Option zM := f_X12_copies_0 p0 n0 x1 p2 n2 x3 x4 M
theorem m_X12_copies {l : Launch} {E : zE} (hI : zI E) {M M' : zM} {p0 n0 : Nat} {x1 : Int32} {p2 n2 : Nat} {x3 : Int32} {x4 : Int32} (hp0 : zia p0 n0) (hp2 : zia p2 n2) (h : f_X12_copies M p0 n0 x1 p2 n2 x3 x4 = some M') : zMet l E yX12_copies cX12_copies 6 none 0 [.ref (E.2.1 p0), .int x1, .ref (E.2.1 p2), .int x3, .int x4] M M' none := zm_of hI (by decide) (Nat.le_of_ble_eq_true rfl) (fun X _ C => p_X12_copies_0 C hp0 hp2 h)
theorem ks_X12_copies : zKS yX12_copies cX12_copies 6 none 5 := ⟨⟨gw_4_96, gw_1_13, gw_4_97⟩, ⟨by decide, by decide, by decide +kernel⟩, by decide⟩
-- WingDoorModel.type(I)I, 29 instructions, depth 1
def f_X12_type_46 (x1 : Int32) (M : zM) : Option (Int32 × zM) := some (M.1 25 16, M)
set_option maxRecDepth 20000 in
set_option maxHeartbeats 2000000 in
theorem p_X12_type_46 {X : zX} {E : zE} {x1 : Int32} {r : Int32} {M' : zM} (C : zC X E cX12_type 2 RX12 (some .int) 1) {M : zM} (h : f_X12_type_46 x1 M = some (r, M')) : zW X E (zRQ X E (some (.int r)) M') M 46 [(0, .ref (E.2.1 25)), (1, .int x1)] [] := by
  have h : (some (M.1 25 16, M)) = some (r, M') := h
  refine zw_aload_n C 0 rfl dX12_type_46 rfl ?_
  refine zw_get (v := .int (M.1 25 16)) C (by decide) (zc_25 E) rfl zin_X12 16 (by decide) gw_3_211 rfl dX12_type_47 ?_
  exact zw_ireturnE C h dX12_type_50
def f_X12_type_0 (x1 : Int32) (M : zM) : Option (Int32 × zM) := zbi (f_X12_in M (x1.toInt64) (0 : Int64) (255 : Int64)) (fun r2 M3 => if r2 = 0 then (some ((-1 : Int32), M3)) else (if (M3.1 25 16) = (100 : Int32) then (some ((-3 : Int32), M3)) else (zg (zin (M3.1 25 16) 100) (f_X12_type_46 x1 (zs (zs M3 34 (M3.1 25 16).toNatClampNeg x1) 25 16 (((zs M3 34 (M3.1 25 16).toNatClampNeg x1).1 25 16) + (1 : Int32)))))))
set_option maxRecDepth 20000 in
set_option maxHeartbeats 2000000 in
theorem p_X12_type_0 {X : zX} {E : zE} {x1 : Int32} {r : Int32} {M' : zM} (C : zC X E cX12_type 2 RX12 (some .int) 1) {M : zM} (h : f_X12_type_0 x1 M = some (r, M')) : zW X E (zRQ X E (some (.int r)) M') M 0 [(0, .ref (E.2.1 25)), (1, .int x1)] [] := by
  have h : (zbi (f_X12_in M (x1.toInt64) (0 : Int64) (255 : Int64)) (fun r2 M3 => if r2 = 0 then (some ((-1 : Int32), M3)) else (if (M3.1 25 16) = (100 : Int32) then (some ((-3 : Int32), M3)) else (zg (zin (M3.1 25 16) 100) (f_X12_type_46 x1 (zs (zs M3 34 (M3.1 25 16).toNatClampNeg x1) 25 16 (((zs M3 34 (M3.1 25 16).toNatClampNeg x1).1 25 16) + (1 : Int32)))))))) = some (r, M') := h
  refine zw_iload_n C 1 rfl dX12_type_0 rfl ?_
  refine zw_i2l C dX12_type_1 ?_
  refine zw_lconst (v := (0 : Int64)) C dX12_type_2 rfl ?_
  refine zw_ldc2 (v := (255 : Int64)) C gw_4_41 dX12_type_3 ?_
  obtain ⟨r2, M3, hq1, h⟩ := zbi_e h
  refine zw_callSi (As := [.long (x1.toInt64), .long (0 : Int64), .long (255 : Int64)]) (st := []) C (m_X12_in C.2.2.2.2.2.2.2.1 hq1) ks_X12_in gw_4_42 (by decide) rfl rfl (Nat.le_of_ble_eq_true rfl) dX12_type_6 ?_
  refine zw_if_ne (tgt := 14) C dX12_type_9 (by decide) (fun hb4 => ?_) (fun hb4 => ?_)
  · have h := zt_ hb4 h
    refine zw_iconst (v := (-1 : Int32)) C dX12_type_12 ct_i_m1 ?_
    exact zw_ireturnE C h dX12_type_13
  · have h := zf_ hb4 h
    refine zw_aload_n C 0 rfl dX12_type_14 rfl ?_
    refine zw_get (v := .int (M3.1 25 16)) C (by decide) (zc_25 E) rfl zin_X12 16 (by decide) gw_3_211 rfl dX12_type_15 ?_
    refine zw_bipush (v := (100 : Int32)) C dX12_type_18 ct_b_100 ?_
    refine zw_icmp_ne (tgt := 26) C dX12_type_20 (by decide) (fun hb5 => ?_) (fun hb5 => ?_)
    · have h := zt_ hb5 h
      refine zw_bipush (v := (-3 : Int32)) C dX12_type_23 ct_b_m3 ?_
      exact zw_ireturnE C h dX12_type_25
    · have h := zf_ hb5 h
      refine zw_aload_n C 0 rfl dX12_type_26 rfl ?_
      refine zw_get (v := .ref (E.2.1 34)) C (by decide) (zc_25 E) rfl zin_X12 15 (by decide) gw_3_210 rfl dX12_type_27 ?_
      refine zw_aload_n C 0 rfl dX12_type_30 rfl ?_
      refine zw_get (v := .int (M3.1 25 16)) C (by decide) (zc_25 E) rfl zin_X12 16 (by decide) gw_3_211 rfl dX12_type_31 ?_
      refine zw_iload_n C 1 rfl dX12_type_34 rfl ?_
      obtain ⟨hi6, h⟩ := zg_e h
      refine zw_iast C zia_34 (zin_e hi6) dX12_type_35 ?_
      refine zw_aload_n C 0 rfl dX12_type_36 rfl ?_
      refine zw_dup C rfl dX12_type_37 ?_
      refine zw_get (v := .int ((zs M3 34 (M3.1 25 16).toNatClampNeg x1).1 25 16)) C (by decide) (zc_25 E) rfl zin_X12 16 (by decide) gw_3_211 rfl dX12_type_38 ?_
      refine zw_iconst (v := (1 : Int32)) C dX12_type_41 ct_i_1 ?_
      refine zw_iadd C dX12_type_42 ?_
      refine zw_put (ty := .int) C (by decide) (zc_25 E) rfl zin_X12 tyX12 tyX12_ok nmX12 16 (by decide) gw_3_211 rfl rfl rfl rfl (fun _ _ => Nat.le_of_ble_eq_true rfl) (fun _ _ => rfl) dX12_type_43 ?_
      exact p_X12_type_46 C h
def f_X12_type (M : zM) (x1 : Int32) : Option (Int32 × zM) := f_X12_type_0 x1 M
theorem m_X12_type {l : Launch} {E : zE} (hI : zI E) {M M' : zM} {x1 : Int32} {r : Int32} (h : f_X12_type M x1 = some (r, M')) : zMet l E yX12_type cX12_type 2 (some .int) 1 [.ref (E.2.1 25), .int x1] M M' (some (.int r)) := zm_of hI (by decide) (Nat.le_of_ble_eq_true rfl) (fun X _ C => p_X12_type_0 C h)
theorem kv_X12_type : zKV yX12_type cX12_type 2 (some .int) 1 := ⟨⟨gw_4_38, gw_4_39, gw_1_13, gw_4_40⟩, ⟨by decide, by decide, by decide +kernel⟩, by decide⟩
-- WingDoorModel.clear()I, 8 instructions, depth 0
def f_X12_clear_0 (M : zM) : Option (Int32 × zM) := some (M.1 25 16, zs M 25 16 (0 : Int32))
set_option maxRecDepth 20000 in
set_option maxHeartbeats 2000000 in
theorem p_X12_clear_0 {X : zX} {E : zE} {r : Int32} {M' : zM} (C : zC X E cX12_clear 2 RX12 (some .int) 0) {M : zM} (h : f_X12_clear_0  M = some (r, M')) : zW X E (zRQ X E (some (.int r)) M') M 0 [(0, .ref (E.2.1 25))] [] := by
  have h : (some (M.1 25 16, zs M 25 16 (0 : Int32))) = some (r, M') := h
  refine zw_aload_n C 0 rfl dX12_clear_0 rfl ?_
  refine zw_get (v := .int (M.1 25 16)) C (by decide) (zc_25 E) rfl zin_X12 16 (by decide) gw_3_211 rfl dX12_clear_1 ?_
  refine zw_istore_n (lv' := [(1, .int (M.1 25 16)), (0, .ref (E.2.1 25))]) C dX12_clear_4 rfl (by decide) rfl ?_
  refine zw_aload_n C 1 rfl dX12_clear_5 rfl ?_
  refine zw_iconst (v := (0 : Int32)) C dX12_clear_6 ct_i_0 ?_
  refine zw_put (ty := .int) C (by decide) (zc_25 E) rfl zin_X12 tyX12 tyX12_ok nmX12 16 (by decide) gw_3_211 rfl rfl rfl rfl (fun _ _ => Nat.le_of_ble_eq_true rfl) (fun _ _ => rfl) dX12_clear_7 ?_
  refine zw_iload_n C 0 rfl dX12_clear_10 rfl ?_
  exact zw_ireturnE C h dX12_clear_11
def f_X12_clear (M : zM) : Option (Int32 × zM) := f_X12_clear_0 M
theorem m_X12_clear {l : Launch} {E : zE} (hI : zI E) {M M' : zM} {r : Int32} (h : f_X12_clear M = some (r, M')) : zMet l E yX12_clear cX12_clear 2 (some .int) 0 [.ref (E.2.1 25)] M M' (some (.int r)) := zm_of hI (by decide) (Nat.le_of_ble_eq_true rfl) (fun X _ C => p_X12_clear_0 C h)
theorem kv_X12_clear : zKV yX12_clear cX12_clear 2 (some .int) 0 := ⟨⟨gw_4_46, gw_4_47, gw_1_13, gw_4_48⟩, ⟨by decide, by decide, by decide +kernel⟩, by decide⟩
-- WingDoorModel.here()I, 13 instructions, depth 0
def f_X12_here_0 (M : zM) : Option (Int32 × zM) := if (M.1 25 16) ≤ (M.1 25 17) then (some ((-1 : Int32), M)) else (zg (zin (M.1 25 17) 100) (some (M.1 34 (M.1 25 17).toNatClampNeg, M)))
set_option maxRecDepth 20000 in
set_option maxHeartbeats 2000000 in
theorem p_X12_here_0 {X : zX} {E : zE} {r : Int32} {M' : zM} (C : zC X E cX12_here 1 RX12 (some .int) 0) {M : zM} (h : f_X12_here_0  M = some (r, M')) : zW X E (zRQ X E (some (.int r)) M') M 0 [(0, .ref (E.2.1 25))] [] := by
  have h : (if (M.1 25 16) ≤ (M.1 25 17) then (some ((-1 : Int32), M)) else (zg (zin (M.1 25 17) 100) (some (M.1 34 (M.1 25 17).toNatClampNeg, M)))) = some (r, M') := h
  refine zw_aload_n C 0 rfl dX12_here_0 rfl ?_
  refine zw_get (v := .int (M.1 25 17)) C (by decide) (zc_25 E) rfl zin_X12 17 (by decide) gw_3_212 rfl dX12_here_1 ?_
  refine zw_aload_n C 0 rfl dX12_here_4 rfl ?_
  refine zw_get (v := .int (M.1 25 16)) C (by decide) (zc_25 E) rfl zin_X12 16 (by decide) gw_3_211 rfl dX12_here_5 ?_
  refine zw_icmp_ge (tgt := 23) C dX12_here_8 (by decide) (fun hb1 => ?_) (fun hb1 => ?_)
  · have h := zt_ hb1 h
    refine zw_iconst (v := (-1 : Int32)) C dX12_here_23 ct_i_m1 ?_
    exact zw_ireturnE C h dX12_here_24
  · have h := zf_ hb1 h
    refine zw_aload_n C 0 rfl dX12_here_11 rfl ?_
    refine zw_get (v := .ref (E.2.1 34)) C (by decide) (zc_25 E) rfl zin_X12 15 (by decide) gw_3_210 rfl dX12_here_12 ?_
    refine zw_aload_n C 0 rfl dX12_here_15 rfl ?_
    refine zw_get (v := .int (M.1 25 17)) C (by decide) (zc_25 E) rfl zin_X12 17 (by decide) gw_3_212 rfl dX12_here_16 ?_
    obtain ⟨hi2, h⟩ := zg_e h
    refine zw_iald C zia_34 (zin_e hi2) dX12_here_19 ?_
    refine zw_goto (tgt := 24) C dX12_here_20 (by decide) ?_
    exact zw_ireturnE C h dX12_here_24
def f_X12_here (M : zM) : Option (Int32 × zM) := f_X12_here_0 M
theorem m_X12_here {l : Launch} {E : zE} (hI : zI E) {M M' : zM} {r : Int32} (h : f_X12_here M = some (r, M')) : zMet l E yX12_here cX12_here 1 (some .int) 0 [.ref (E.2.1 25)] M M' (some (.int r)) := zm_of hI (by decide) (Nat.le_of_ble_eq_true rfl) (fun X _ C => p_X12_here_0 C h)
theorem kv_X12_here : zKV yX12_here cX12_here 1 (some .int) 0 := ⟨⟨gw_4_63, gs_19, gw_1_13, gw_4_64⟩, ⟨by decide, by decide, by decide +kernel⟩, by decide⟩
-- WingDoorModel.isFigure()Z, 7 instructions, depth 1
def f_X12_isFigure_0 (M : zM) : Option (Int32 × zM) := zbi (f_X12_here M) (fun r2 M3 => zbi (f_X12_in M3 (r2.toInt64) (48 : Int64) (57 : Int64)) (fun r5 M6 => zg (zbo r5) (some (r5, M6))))
set_option maxRecDepth 20000 in
set_option maxHeartbeats 2000000 in
theorem p_X12_isFigure_0 {X : zX} {E : zE} {r : Int32} {M' : zM} (C : zC X E cX12_isFigure 1 RX12 (some .boolean) 1) {M : zM} (h : f_X12_isFigure_0  M = some (r, M')) : zW X E (zRQ X E (some (.int r)) M') M 0 [(0, .ref (E.2.1 25))] [] := by
  have h : (zbi (f_X12_here M) (fun r2 M3 => zbi (f_X12_in M3 (r2.toInt64) (48 : Int64) (57 : Int64)) (fun r5 M6 => zg (zbo r5) (some (r5, M6))))) = some (r, M') := h
  refine zw_aload_n C 0 rfl dX12_isFigure_0 rfl ?_
  obtain ⟨r2, M3, hq1, h⟩ := zbi_e h
  refine zw_callVi (As := []) (st := []) C (m_X12_here C.2.2.2.2.2.2.2.1 hq1) kv_X12_here gw_4_61 (by decide) (by decide) (zc_25 E) rfl rfl rfl rfl (Nat.le_of_ble_eq_true rfl) dX12_isFigure_1 ?_
  refine zw_i2l C dX12_isFigure_4 ?_
  refine zw_ldc2 (v := (48 : Int64)) C gw_4_69 dX12_isFigure_5 ?_
  refine zw_ldc2 (v := (57 : Int64)) C gw_4_70 dX12_isFigure_8 ?_
  obtain ⟨r5, M6, hq4, h⟩ := zbi_e h
  refine zw_callSi (As := [.long (r2.toInt64), .long (48 : Int64), .long (57 : Int64)]) (st := []) C (m_X12_in C.2.2.2.2.2.2.2.1 hq4) ks_X12_in gw_4_42 (by decide) rfl rfl (Nat.le_of_ble_eq_true rfl) dX12_isFigure_11 ?_
  obtain ⟨hz7, h⟩ := zg_e h
  exact zw_zreturnE C (zbo_e hz7) h dX12_isFigure_14
def f_X12_isFigure (M : zM) : Option (Int32 × zM) := f_X12_isFigure_0 M
theorem m_X12_isFigure {l : Launch} {E : zE} (hI : zI E) {M M' : zM} {r : Int32} (h : f_X12_isFigure M = some (r, M')) : zMet l E yX12_isFigure cX12_isFigure 1 (some .boolean) 1 [.ref (E.2.1 25)] M M' (some (.int r)) := zm_of hI (by decide) (Nat.le_of_ble_eq_true rfl) (fun X _ C => p_X12_isFigure_0 C h)
theorem kv_X12_isFigure : zKV yX12_isFigure cX12_isFigure 1 (some .boolean) 0 := ⟨⟨gw_4_67, gs_20, gw_1_13, gw_4_68⟩, ⟨by decide, by decide, by decide +kernel⟩, by decide⟩
-- WingDoorModel.readsFigures()V, 55 instructions, depth 2
def f_X12_readsFigures_54 (k15 : zM → Int32 → Option zM) (M : zM) (x1 : Int32) (s0 : Int32) : Option zM := k15 (zs (zs M 25 20 s0) 25 17 (((zs M 25 20 s0).1 25 17) + (1 : Int32))) x1
set_option maxRecDepth 20000 in
set_option maxHeartbeats 2000000 in
theorem p_X12_readsFigures_54 {X : zX} {E : zE} {M' : zM} {k15 : zM → Int32 → Option zM} (C : zC X E cX12_readsFigures 2 RX12 none 2) (hk15 : ∀ (M : zM) (y1 : Int32), k15 M y1 = some M' → zW X E (zRQ X E none M') M 15 [(0, .ref (E.2.1 25)), (1, .int y1)] []) {M : zM} {x1 : Int32} {s0 : Int32} (h : f_X12_readsFigures_54 k15 M x1 s0 = some M') : zW X E (zRQ X E none M') M 54 [(0, .ref (E.2.1 25)), (1, .int x1)] [.int s0, .ref (E.2.1 25)] := by
  have h : (k15 (zs (zs M 25 20 s0) 25 17 (((zs M 25 20 s0).1 25 17) + (1 : Int32))) x1) = some M' := h
  refine zw_put (ty := .int) C (by decide) (zc_25 E) rfl zin_X12 tyX12 tyX12_ok nmX12 20 (by decide) gw_3_215 rfl rfl rfl rfl (fun _ _ => Nat.le_of_ble_eq_true rfl) (fun _ _ => rfl) dX12_readsFigures_54 ?_
  refine zw_aload_n C 0 rfl dX12_readsFigures_57 rfl ?_
  refine zw_dup C rfl dX12_readsFigures_58 ?_
  refine zw_get (v := .int ((zs M 25 20 s0).1 25 17)) C (by decide) (zc_25 E) rfl zin_X12 17 (by decide) gw_3_212 rfl dX12_readsFigures_59 ?_
  refine zw_iconst (v := (1 : Int32)) C dX12_readsFigures_62 ct_i_1 ?_
  refine zw_iadd C dX12_readsFigures_63 ?_
  refine zw_put (ty := .int) C (by decide) (zc_25 E) rfl zin_X12 tyX12 tyX12_ok nmX12 17 (by decide) gw_3_212 rfl rfl rfl rfl (fun _ _ => Nat.le_of_ble_eq_true rfl) (fun _ _ => rfl) dX12_readsFigures_64 ?_
  refine zw_goto (tgt := 15) C dX12_readsFigures_67 (by decide) ?_
  exact hk15 _ _ h
def f_X12_readsFigures_102 (M : zM) (s0 : Int32) : Option zM := some (zs M 25 19 s0)
set_option maxRecDepth 20000 in
set_option maxHeartbeats 2000000 in
theorem p_X12_readsFigures_102 {X : zX} {E : zE} {M' : zM} (C : zC X E cX12_readsFigures 2 RX12 none 2) {M : zM} {s0 : Int32} (h : f_X12_readsFigures_102  M s0 = some M') : zW X E (zRQ X E none M') M 102 [(0, .ref (E.2.1 25))] [.int s0, .ref (E.2.1 25)] := by
  have h : (some (zs M 25 19 s0)) = some M' := h
  refine zw_put (ty := .int) C (by decide) (zc_25 E) rfl zin_X12 tyX12 tyX12_ok nmX12 19 (by decide) gw_3_214 rfl rfl rfl rfl (fun _ _ => Nat.le_of_ble_eq_true rfl) (fun _ _ => rfl) dX12_readsFigures_102 ?_
  exact zw_returnE C h dX12_readsFigures_105
def f_X12_readsFigures_15 : Nat → zM → Int32 → Option zM
  | 0, _, _ => none
  | n + 1, M, x1 => zbi (f_X12_isFigure M) (fun r2 M3 => if r2 = 0 then (if (99 : Int32) < (M3.1 25 20) then (f_X12_readsFigures_102 M3 (4 : Int32)) else (if x1 = 0 then (f_X12_readsFigures_102 M3 (2 : Int32)) else (if ((M3.1 25 17) - (M3.1 25 18)) ≤ (1 : Int32) then (f_X12_readsFigures_102 M3 (2 : Int32)) else (f_X12_readsFigures_102 M3 (4 : Int32))))) else (if (M3.1 25 20) ≤ (99 : Int32) then (zbi (f_X12_here M3) (fun r10 M11 => f_X12_readsFigures_54 (f_X12_readsFigures_15 n) M11 x1 ((((10 : Int32) * (M3.1 25 20)) + r10) - (48 : Int32)))) else (f_X12_readsFigures_54 (f_X12_readsFigures_15 n) M3 x1 (M3.1 25 20))))
set_option maxRecDepth 20000 in
set_option maxHeartbeats 2000000 in
theorem p_X12_readsFigures_15 {X : zX} {E : zE} {M' : zM} (C : zC X E cX12_readsFigures 2 RX12 none 2) : ∀ (n : Nat) (M : zM) (x1 : Int32), f_X12_readsFigures_15  n M x1 = some M' → zW X E (zRQ X E none M') M 15 [(0, .ref (E.2.1 25)), (1, .int x1)] [] := by
  intro n
  induction n with
  | zero => intro M x1 h; cases h
  | succ n ih =>
    intro M x1 h
    have h : (zbi (f_X12_isFigure M) (fun r2 M3 => if r2 = 0 then (if (99 : Int32) < (M3.1 25 20) then (f_X12_readsFigures_102 M3 (4 : Int32)) else (if x1 = 0 then (f_X12_readsFigures_102 M3 (2 : Int32)) else (if ((M3.1 25 17) - (M3.1 25 18)) ≤ (1 : Int32) then (f_X12_readsFigures_102 M3 (2 : Int32)) else (f_X12_readsFigures_102 M3 (4 : Int32))))) else (if (M3.1 25 20) ≤ (99 : Int32) then (zbi (f_X12_here M3) (fun r10 M11 => f_X12_readsFigures_54 (f_X12_readsFigures_15 n) M11 x1 ((((10 : Int32) * (M3.1 25 20)) + r10) - (48 : Int32)))) else (f_X12_readsFigures_54 (f_X12_readsFigures_15 n) M3 x1 (M3.1 25 20))))) = some M' := h
    refine zw_aload_n C 0 rfl dX12_readsFigures_15 rfl ?_
    obtain ⟨r2, M3, hq1, h⟩ := zbi_e h
    refine zw_callVi (As := []) (st := []) C (m_X12_isFigure C.2.2.2.2.2.2.2.1 hq1) kv_X12_isFigure gw_4_65 (by decide) (by decide) (zc_25 E) rfl rfl rfl rfl (Nat.le_of_ble_eq_true rfl) dX12_readsFigures_16 ?_
    refine zw_if_eq (tgt := 70) C dX12_readsFigures_19 (by decide) (fun hb4 => ?_) (fun hb4 => ?_)
    · have h := zt_ hb4 h
      refine zw_aload_n C 0 rfl dX12_readsFigures_70 rfl ?_
      refine zw_aload_n C 0 rfl dX12_readsFigures_71 rfl ?_
      refine zw_get (v := .int (M3.1 25 20)) C (by decide) (zc_25 E) rfl zin_X12 20 (by decide) gw_3_215 rfl dX12_readsFigures_72 ?_
      refine zw_bipush (v := (99 : Int32)) C dX12_readsFigures_75 ct_b_99 ?_
      refine zw_icmp_gt (tgt := 97) C dX12_readsFigures_77 (by decide) (fun hb5 => ?_) (fun hb5 => ?_)
      · have h := zt_ hb5 h
        refine zw_iconst (v := (4 : Int32)) C dX12_readsFigures_97 ct_i_4 ?_
        refine zw_goto (tgt := 102) C dX12_readsFigures_98 (by decide) ?_
        refine zw_sb [0] rfl ?_
        exact p_X12_readsFigures_102 C h
      · have h := zf_ hb5 h
        refine zw_iload_n C 1 rfl dX12_readsFigures_80 rfl ?_
        refine zw_if_eq (tgt := 101) C dX12_readsFigures_81 (by decide) (fun hb6 => ?_) (fun hb6 => ?_)
        · have h := zt_ hb6 h
          refine zw_iconst (v := (2 : Int32)) C dX12_readsFigures_101 ct_i_2 ?_
          refine zw_sb [0] rfl ?_
          exact p_X12_readsFigures_102 C h
        · have h := zf_ hb6 h
          refine zw_aload_n C 0 rfl dX12_readsFigures_84 rfl ?_
          refine zw_get (v := .int (M3.1 25 17)) C (by decide) (zc_25 E) rfl zin_X12 17 (by decide) gw_3_212 rfl dX12_readsFigures_85 ?_
          refine zw_aload_n C 0 rfl dX12_readsFigures_88 rfl ?_
          refine zw_get (v := .int (M3.1 25 18)) C (by decide) (zc_25 E) rfl zin_X12 18 (by decide) gw_3_213 rfl dX12_readsFigures_89 ?_
          refine zw_isub C dX12_readsFigures_92 ?_
          refine zw_iconst (v := (1 : Int32)) C dX12_readsFigures_93 ct_i_1 ?_
          refine zw_icmp_le (tgt := 101) C dX12_readsFigures_94 (by decide) (fun hb7 => ?_) (fun hb7 => ?_)
          · have h := zt_ hb7 h
            refine zw_iconst (v := (2 : Int32)) C dX12_readsFigures_101 ct_i_2 ?_
            refine zw_sb [0] rfl ?_
            exact p_X12_readsFigures_102 C h
          · have h := zf_ hb7 h
            refine zw_iconst (v := (4 : Int32)) C dX12_readsFigures_97 ct_i_4 ?_
            refine zw_goto (tgt := 102) C dX12_readsFigures_98 (by decide) ?_
            refine zw_sb [0] rfl ?_
            exact p_X12_readsFigures_102 C h
    · have h := zf_ hb4 h
      refine zw_aload_n C 0 rfl dX12_readsFigures_22 rfl ?_
      refine zw_aload_n C 0 rfl dX12_readsFigures_23 rfl ?_
      refine zw_get (v := .int (M3.1 25 20)) C (by decide) (zc_25 E) rfl zin_X12 20 (by decide) gw_3_215 rfl dX12_readsFigures_24 ?_
      refine zw_bipush (v := (99 : Int32)) C dX12_readsFigures_27 ct_b_99 ?_
      refine zw_icmp_le (tgt := 39) C dX12_readsFigures_29 (by decide) (fun hb8 => ?_) (fun hb8 => ?_)
      · have h := zt_ hb8 h
        refine zw_bipush (v := (10 : Int32)) C dX12_readsFigures_39 ct_b_10 ?_
        refine zw_aload_n C 0 rfl dX12_readsFigures_41 rfl ?_
        refine zw_get (v := .int (M3.1 25 20)) C (by decide) (zc_25 E) rfl zin_X12 20 (by decide) gw_3_215 rfl dX12_readsFigures_42 ?_
        refine zw_imul C dX12_readsFigures_45 ?_
        refine zw_aload_n C 0 rfl dX12_readsFigures_46 rfl ?_
        obtain ⟨r10, M11, hq9, h⟩ := zbi_e h
        refine zw_callVi (As := []) (st := [.int ((10 : Int32) * (M3.1 25 20)), .ref (E.2.1 25)]) C (m_X12_here C.2.2.2.2.2.2.2.1 hq9) kv_X12_here gw_4_61 (by decide) (by decide) (zc_25 E) rfl rfl rfl rfl (Nat.le_of_ble_eq_true rfl) dX12_readsFigures_47 ?_
        refine zw_iadd C dX12_readsFigures_50 ?_
        refine zw_bipush (v := (48 : Int32)) C dX12_readsFigures_51 ct_b_48 ?_
        refine zw_isub C dX12_readsFigures_53 ?_
        exact p_X12_readsFigures_54 C (fun _ _ h => ih _ _ h) h
      · have h := zf_ hb8 h
        refine zw_aload_n C 0 rfl dX12_readsFigures_32 rfl ?_
        refine zw_get (v := .int (M3.1 25 20)) C (by decide) (zc_25 E) rfl zin_X12 20 (by decide) gw_3_215 rfl dX12_readsFigures_33 ?_
        refine zw_goto (tgt := 54) C dX12_readsFigures_36 (by decide) ?_
        exact p_X12_readsFigures_54 C (fun _ _ h => ih _ _ h) h
def f_X12_readsFigures_14 (M : zM) (s0 : Int32) : Option zM := f_X12_readsFigures_15 zFU M s0
set_option maxRecDepth 20000 in
set_option maxHeartbeats 2000000 in
theorem p_X12_readsFigures_14 {X : zX} {E : zE} {M' : zM} (C : zC X E cX12_readsFigures 2 RX12 none 2) {M : zM} {s0 : Int32} (h : f_X12_readsFigures_14  M s0 = some M') : zW X E (zRQ X E none M') M 14 [(0, .ref (E.2.1 25))] [.int s0] := by
  have h : (f_X12_readsFigures_15 zFU M s0) = some M' := h
  refine zw_istore_n (lv' := [(1, .int s0), (0, .ref (E.2.1 25))]) C dX12_readsFigures_14 rfl (by decide) rfl ?_
  refine zw_sb [1, 0] rfl ?_
  exact p_X12_readsFigures_15 C zFU _ _ h
def f_X12_readsFigures_0 (M : zM) : Option zM := zbi (f_X12_here M) (fun r2 M3 => if r2 = (48 : Int32) then (f_X12_readsFigures_14 M3 (1 : Int32)) else (f_X12_readsFigures_14 M3 (0 : Int32)))
set_option maxRecDepth 20000 in
set_option maxHeartbeats 2000000 in
theorem p_X12_readsFigures_0 {X : zX} {E : zE} {M' : zM} (C : zC X E cX12_readsFigures 2 RX12 none 2) {M : zM} (h : f_X12_readsFigures_0  M = some M') : zW X E (zRQ X E none M') M 0 [(0, .ref (E.2.1 25))] [] := by
  have h : (zbi (f_X12_here M) (fun r2 M3 => if r2 = (48 : Int32) then (f_X12_readsFigures_14 M3 (1 : Int32)) else (f_X12_readsFigures_14 M3 (0 : Int32)))) = some M' := h
  refine zw_aload_n C 0 rfl dX12_readsFigures_0 rfl ?_
  obtain ⟨r2, M3, hq1, h⟩ := zbi_e h
  refine zw_callVi (As := []) (st := []) C (m_X12_here C.2.2.2.2.2.2.2.1 hq1) kv_X12_here gw_4_61 (by decide) (by decide) (zc_25 E) rfl rfl rfl rfl (Nat.le_of_ble_eq_true rfl) dX12_readsFigures_1 ?_
  refine zw_bipush (v := (48 : Int32)) C dX12_readsFigures_4 ct_b_48 ?_
  refine zw_icmp_ne (tgt := 13) C dX12_readsFigures_6 (by decide) (fun hb4 => ?_) (fun hb4 => ?_)
  · have h := zt_ hb4 h
    refine zw_iconst (v := (1 : Int32)) C dX12_readsFigures_9 ct_i_1 ?_
    refine zw_goto (tgt := 14) C dX12_readsFigures_10 (by decide) ?_
    exact p_X12_readsFigures_14 C h
  · have h := zf_ hb4 h
    refine zw_iconst (v := (0 : Int32)) C dX12_readsFigures_13 ct_i_0 ?_
    exact p_X12_readsFigures_14 C h
def f_X12_readsFigures (M : zM) : Option zM := f_X12_readsFigures_0 M
theorem m_X12_readsFigures {l : Launch} {E : zE} (hI : zI E) {M M' : zM} (h : f_X12_readsFigures M = some M') : zMet l E yX12_readsFigures cX12_readsFigures 2 none 2 [.ref (E.2.1 25)] M M' none := zm_of hI (by decide) (Nat.le_of_ble_eq_true rfl) (fun X _ C => p_X12_readsFigures_0 C h)
theorem kv_X12_readsFigures : zKV yX12_readsFigures cX12_readsFigures 2 none 0 := ⟨⟨gw_4_73, gs_21, gw_1_13, gw_4_74⟩, ⟨by decide, by decide, by decide +kernel⟩, by decide⟩
-- WingDoorModel.nextToken()V, 67 instructions, depth 3
def f_X12_nextToken_122 (M : zM) (s0 : Int32) : Option zM := some (zs (zs M 25 19 s0) 25 17 (((zs M 25 19 s0).1 25 17) + (1 : Int32)))
set_option maxRecDepth 20000 in
set_option maxHeartbeats 2000000 in
theorem p_X12_nextToken_122 {X : zX} {E : zE} {M' : zM} (C : zC X E cX12_nextToken 1 RX12 none 3) {M : zM} {s0 : Int32} (h : f_X12_nextToken_122  M s0 = some M') : zW X E (zRQ X E none M') M 122 [(0, .ref (E.2.1 25))] [.int s0, .ref (E.2.1 25)] := by
  have h : (some (zs (zs M 25 19 s0) 25 17 (((zs M 25 19 s0).1 25 17) + (1 : Int32)))) = some M' := h
  refine zw_put (ty := .int) C (by decide) (zc_25 E) rfl zin_X12 tyX12 tyX12_ok nmX12 19 (by decide) gw_3_214 rfl rfl rfl rfl (fun _ _ => Nat.le_of_ble_eq_true rfl) (fun _ _ => rfl) dX12_nextToken_122 ?_
  refine zw_aload_n C 0 rfl dX12_nextToken_125 rfl ?_
  refine zw_dup C rfl dX12_nextToken_126 ?_
  refine zw_get (v := .int ((zs M 25 19 s0).1 25 17)) C (by decide) (zc_25 E) rfl zin_X12 17 (by decide) gw_3_212 rfl dX12_nextToken_127 ?_
  refine zw_iconst (v := (1 : Int32)) C dX12_nextToken_130 ct_i_1 ?_
  refine zw_iadd C dX12_nextToken_131 ?_
  refine zw_put (ty := .int) C (by decide) (zc_25 E) rfl zin_X12 tyX12 tyX12_ok nmX12 17 (by decide) gw_3_212 rfl rfl rfl rfl (fun _ _ => Nat.le_of_ble_eq_true rfl) (fun _ _ => rfl) dX12_nextToken_132 ?_
  exact zw_returnE C h dX12_nextToken_135
def f_X12_nextToken_0 : Nat → zM → Option zM
  | 0, _ => none
  | n + 1, M => zbi (f_X12_here M) (fun r2 M3 => if r2 = (32 : Int32) then (f_X12_nextToken_0 n (zs M3 25 17 ((M3.1 25 17) + (1 : Int32)))) else (if ((zs (zs M3 25 18 (M3.1 25 17)) 25 20 (0 : Int32)).1 25 17) = ((zs (zs M3 25 18 (M3.1 25 17)) 25 20 (0 : Int32)).1 25 16) then (some (zs (zs (zs M3 25 18 (M3.1 25 17)) 25 20 (0 : Int32)) 25 19 (0 : Int32))) else (zbi (f_X12_isFigure (zs (zs M3 25 18 (M3.1 25 17)) 25 20 (0 : Int32))) (fun r7 M8 => if r7 = 0 then (zbi (f_X12_here M8) (fun r11 M12 => if ((zs M12 25 20 r11).1 25 20) = (114 : Int32) then (f_X12_nextToken_122 (zs M12 25 20 r11) (1 : Int32)) else (if ((zs M12 25 20 r11).1 25 20) = (104 : Int32) then (f_X12_nextToken_122 (zs M12 25 20 r11) (1 : Int32)) else (if ((zs M12 25 20 r11).1 25 20) = (115 : Int32) then (f_X12_nextToken_122 (zs M12 25 20 r11) (1 : Int32)) else (if ((zs M12 25 20 r11).1 25 20) = (59 : Int32) then (f_X12_nextToken_122 (zs M12 25 20 r11) (3 : Int32)) else (f_X12_nextToken_122 (zs M12 25 20 r11) (4 : Int32))))))) else (zbv (f_X12_readsFigures M8) (fun M19 => some M19))))))
set_option maxRecDepth 20000 in
set_option maxHeartbeats 2000000 in
theorem p_X12_nextToken_0 {X : zX} {E : zE} {M' : zM} (C : zC X E cX12_nextToken 1 RX12 none 3) : ∀ (n : Nat) (M : zM), f_X12_nextToken_0  n M = some M' → zW X E (zRQ X E none M') M 0 [(0, .ref (E.2.1 25))] [] := by
  intro n
  induction n with
  | zero => intro M h; cases h
  | succ n ih =>
    intro M h
    have h : (zbi (f_X12_here M) (fun r2 M3 => if r2 = (32 : Int32) then (f_X12_nextToken_0 n (zs M3 25 17 ((M3.1 25 17) + (1 : Int32)))) else (if ((zs (zs M3 25 18 (M3.1 25 17)) 25 20 (0 : Int32)).1 25 17) = ((zs (zs M3 25 18 (M3.1 25 17)) 25 20 (0 : Int32)).1 25 16) then (some (zs (zs (zs M3 25 18 (M3.1 25 17)) 25 20 (0 : Int32)) 25 19 (0 : Int32))) else (zbi (f_X12_isFigure (zs (zs M3 25 18 (M3.1 25 17)) 25 20 (0 : Int32))) (fun r7 M8 => if r7 = 0 then (zbi (f_X12_here M8) (fun r11 M12 => if ((zs M12 25 20 r11).1 25 20) = (114 : Int32) then (f_X12_nextToken_122 (zs M12 25 20 r11) (1 : Int32)) else (if ((zs M12 25 20 r11).1 25 20) = (104 : Int32) then (f_X12_nextToken_122 (zs M12 25 20 r11) (1 : Int32)) else (if ((zs M12 25 20 r11).1 25 20) = (115 : Int32) then (f_X12_nextToken_122 (zs M12 25 20 r11) (1 : Int32)) else (if ((zs M12 25 20 r11).1 25 20) = (59 : Int32) then (f_X12_nextToken_122 (zs M12 25 20 r11) (3 : Int32)) else (f_X12_nextToken_122 (zs M12 25 20 r11) (4 : Int32))))))) else (zbv (f_X12_readsFigures M8) (fun M19 => some M19))))))) = some M' := h
    refine zw_aload_n C 0 rfl dX12_nextToken_0 rfl ?_
    obtain ⟨r2, M3, hq1, h⟩ := zbi_e h
    refine zw_callVi (As := []) (st := []) C (m_X12_here C.2.2.2.2.2.2.2.1 hq1) kv_X12_here gw_4_61 (by decide) (by decide) (zc_25 E) rfl rfl rfl rfl (Nat.le_of_ble_eq_true rfl) dX12_nextToken_1 ?_
    refine zw_bipush (v := (32 : Int32)) C dX12_nextToken_4 ct_b_32 ?_
    refine zw_icmp_ne (tgt := 22) C dX12_nextToken_6 (by decide) (fun hb4 => ?_) (fun hb4 => ?_)
    · have h := zt_ hb4 h
      refine zw_aload_n C 0 rfl dX12_nextToken_9 rfl ?_
      refine zw_dup C rfl dX12_nextToken_10 ?_
      refine zw_get (v := .int (M3.1 25 17)) C (by decide) (zc_25 E) rfl zin_X12 17 (by decide) gw_3_212 rfl dX12_nextToken_11 ?_
      refine zw_iconst (v := (1 : Int32)) C dX12_nextToken_14 ct_i_1 ?_
      refine zw_iadd C dX12_nextToken_15 ?_
      refine zw_put (ty := .int) C (by decide) (zc_25 E) rfl zin_X12 tyX12 tyX12_ok nmX12 17 (by decide) gw_3_212 rfl rfl rfl rfl (fun _ _ => Nat.le_of_ble_eq_true rfl) (fun _ _ => rfl) dX12_nextToken_16 ?_
      refine zw_goto (tgt := 0) C dX12_nextToken_19 (by decide) ?_
      exact ih _ h
    · have h := zf_ hb4 h
      refine zw_aload_n C 0 rfl dX12_nextToken_22 rfl ?_
      refine zw_aload_n C 0 rfl dX12_nextToken_23 rfl ?_
      refine zw_get (v := .int (M3.1 25 17)) C (by decide) (zc_25 E) rfl zin_X12 17 (by decide) gw_3_212 rfl dX12_nextToken_24 ?_
      refine zw_put (ty := .int) C (by decide) (zc_25 E) rfl zin_X12 tyX12 tyX12_ok nmX12 18 (by decide) gw_3_213 rfl rfl rfl rfl (fun _ _ => Nat.le_of_ble_eq_true rfl) (fun _ _ => rfl) dX12_nextToken_27 ?_
      refine zw_aload_n C 0 rfl dX12_nextToken_30 rfl ?_
      refine zw_iconst (v := (0 : Int32)) C dX12_nextToken_31 ct_i_0 ?_
      refine zw_put (ty := .int) C (by decide) (zc_25 E) rfl zin_X12 tyX12 tyX12_ok nmX12 20 (by decide) gw_3_215 rfl rfl rfl rfl (fun _ _ => Nat.le_of_ble_eq_true rfl) (fun _ _ => rfl) dX12_nextToken_32 ?_
      refine zw_aload_n C 0 rfl dX12_nextToken_35 rfl ?_
      refine zw_get (v := .int ((zs (zs M3 25 18 (M3.1 25 17)) 25 20 (0 : Int32)).1 25 17)) C (by decide) (zc_25 E) rfl zin_X12 17 (by decide) gw_3_212 rfl dX12_nextToken_36 ?_
      refine zw_aload_n C 0 rfl dX12_nextToken_39 rfl ?_
      refine zw_get (v := .int ((zs (zs M3 25 18 (M3.1 25 17)) 25 20 (0 : Int32)).1 25 16)) C (by decide) (zc_25 E) rfl zin_X12 16 (by decide) gw_3_211 rfl dX12_nextToken_40 ?_
      refine zw_icmp_ne (tgt := 54) C dX12_nextToken_43 (by decide) (fun hb5 => ?_) (fun hb5 => ?_)
      · have h := zt_ hb5 h
        refine zw_aload_n C 0 rfl dX12_nextToken_46 rfl ?_
        refine zw_iconst (v := (0 : Int32)) C dX12_nextToken_47 ct_i_0 ?_
        refine zw_put (ty := .int) C (by decide) (zc_25 E) rfl zin_X12 tyX12 tyX12_ok nmX12 19 (by decide) gw_3_214 rfl rfl rfl rfl (fun _ _ => Nat.le_of_ble_eq_true rfl) (fun _ _ => rfl) dX12_nextToken_48 ?_
        refine zw_goto (tgt := 135) C dX12_nextToken_51 (by decide) ?_
        exact zw_returnE C h dX12_nextToken_135
      · have h := zf_ hb5 h
        refine zw_aload_n C 0 rfl dX12_nextToken_54 rfl ?_
        obtain ⟨r7, M8, hq6, h⟩ := zbi_e h
        refine zw_callVi (As := []) (st := []) C (m_X12_isFigure C.2.2.2.2.2.2.2.1 hq6) kv_X12_isFigure gw_4_65 (by decide) (by decide) (zc_25 E) rfl rfl rfl rfl (Nat.le_of_ble_eq_true rfl) dX12_nextToken_55 ?_
        refine zw_if_eq (tgt := 68) C dX12_nextToken_58 (by decide) (fun hb9 => ?_) (fun hb9 => ?_)
        · have h := zt_ hb9 h
          refine zw_aload_n C 0 rfl dX12_nextToken_68 rfl ?_
          refine zw_aload_n C 0 rfl dX12_nextToken_69 rfl ?_
          obtain ⟨r11, M12, hq10, h⟩ := zbi_e h
          refine zw_callVi (As := []) (st := [.ref (E.2.1 25)]) C (m_X12_here C.2.2.2.2.2.2.2.1 hq10) kv_X12_here gw_4_61 (by decide) (by decide) (zc_25 E) rfl rfl rfl rfl (Nat.le_of_ble_eq_true rfl) dX12_nextToken_70 ?_
          refine zw_put (ty := .int) C (by decide) (zc_25 E) rfl zin_X12 tyX12 tyX12_ok nmX12 20 (by decide) gw_3_215 rfl rfl rfl rfl (fun _ _ => Nat.le_of_ble_eq_true rfl) (fun _ _ => rfl) dX12_nextToken_73 ?_
          refine zw_aload_n C 0 rfl dX12_nextToken_76 rfl ?_
          refine zw_aload_n C 0 rfl dX12_nextToken_77 rfl ?_
          refine zw_get (v := .int ((zs M12 25 20 r11).1 25 20)) C (by decide) (zc_25 E) rfl zin_X12 20 (by decide) gw_3_215 rfl dX12_nextToken_78 ?_
          refine zw_bipush (v := (114 : Int32)) C dX12_nextToken_81 ct_b_114 ?_
          refine zw_icmp_eq (tgt := 104) C dX12_nextToken_83 (by decide) (fun hb13 => ?_) (fun hb13 => ?_)
          · have h := zt_ hb13 h
            refine zw_iconst (v := (1 : Int32)) C dX12_nextToken_104 ct_i_1 ?_
            refine zw_goto (tgt := 122) C dX12_nextToken_105 (by decide) ?_
            exact p_X12_nextToken_122 C h
          · have h := zf_ hb13 h
            refine zw_aload_n C 0 rfl dX12_nextToken_86 rfl ?_
            refine zw_get (v := .int ((zs M12 25 20 r11).1 25 20)) C (by decide) (zc_25 E) rfl zin_X12 20 (by decide) gw_3_215 rfl dX12_nextToken_87 ?_
            refine zw_bipush (v := (104 : Int32)) C dX12_nextToken_90 ct_b_104 ?_
            refine zw_icmp_eq (tgt := 104) C dX12_nextToken_92 (by decide) (fun hb14 => ?_) (fun hb14 => ?_)
            · have h := zt_ hb14 h
              refine zw_iconst (v := (1 : Int32)) C dX12_nextToken_104 ct_i_1 ?_
              refine zw_goto (tgt := 122) C dX12_nextToken_105 (by decide) ?_
              exact p_X12_nextToken_122 C h
            · have h := zf_ hb14 h
              refine zw_aload_n C 0 rfl dX12_nextToken_95 rfl ?_
              refine zw_get (v := .int ((zs M12 25 20 r11).1 25 20)) C (by decide) (zc_25 E) rfl zin_X12 20 (by decide) gw_3_215 rfl dX12_nextToken_96 ?_
              refine zw_bipush (v := (115 : Int32)) C dX12_nextToken_99 ct_b_115 ?_
              refine zw_icmp_ne (tgt := 108) C dX12_nextToken_101 (by decide) (fun hb15 => ?_) (fun hb15 => ?_)
              · have h := zt_ hb15 h
                refine zw_iconst (v := (1 : Int32)) C dX12_nextToken_104 ct_i_1 ?_
                refine zw_goto (tgt := 122) C dX12_nextToken_105 (by decide) ?_
                exact p_X12_nextToken_122 C h
              · have h := zf_ hb15 h
                refine zw_aload_n C 0 rfl dX12_nextToken_108 rfl ?_
                refine zw_get (v := .int ((zs M12 25 20 r11).1 25 20)) C (by decide) (zc_25 E) rfl zin_X12 20 (by decide) gw_3_215 rfl dX12_nextToken_109 ?_
                refine zw_bipush (v := (59 : Int32)) C dX12_nextToken_112 ct_b_59 ?_
                refine zw_icmp_ne (tgt := 121) C dX12_nextToken_114 (by decide) (fun hb16 => ?_) (fun hb16 => ?_)
                · have h := zt_ hb16 h
                  refine zw_iconst (v := (3 : Int32)) C dX12_nextToken_117 ct_i_3 ?_
                  refine zw_goto (tgt := 122) C dX12_nextToken_118 (by decide) ?_
                  exact p_X12_nextToken_122 C h
                · have h := zf_ hb16 h
                  refine zw_iconst (v := (4 : Int32)) C dX12_nextToken_121 ct_i_4 ?_
                  exact p_X12_nextToken_122 C h
        · have h := zf_ hb9 h
          refine zw_aload_n C 0 rfl dX12_nextToken_61 rfl ?_
          obtain ⟨M19, hq17, h⟩ := zbv_e h
          refine zw_callVv (As := []) (st := []) C (m_X12_readsFigures C.2.2.2.2.2.2.2.1 hq17) kv_X12_readsFigures gw_4_71 (by decide) (by decide) (zc_25 E) rfl rfl rfl rfl (Nat.le_of_ble_eq_true rfl) dX12_nextToken_62 ?_
          refine zw_goto (tgt := 135) C dX12_nextToken_65 (by decide) ?_
          exact zw_returnE C h dX12_nextToken_135
def f_X12_nextToken (M : zM) : Option zM := f_X12_nextToken_0 zFU M
theorem m_X12_nextToken {l : Launch} {E : zE} (hI : zI E) {M M' : zM} (h : f_X12_nextToken M = some M') : zMet l E yX12_nextToken cX12_nextToken 1 none 3 [.ref (E.2.1 25)] M M' none := zm_of hI (by decide) (Nat.le_of_ble_eq_true rfl) (fun X _ C => p_X12_nextToken_0 C zFU _ h)
theorem kv_X12_nextToken : zKV yX12_nextToken cX12_nextToken 1 none 0 := ⟨⟨gw_4_59, gs_18, gw_1_13, gw_4_60⟩, ⟨by decide, by decide, by decide +kernel⟩, by decide⟩
-- WingDoorModel.number(II)Z, 19 instructions, depth 4
def f_X12_number_0 (x1 : Int32) (x2 : Int32) (M : zM) : Option (Int32 × zM) := zbv (f_X12_nextToken M) (fun M3 => if (M3.1 25 19) = (2 : Int32) then (zbi (f_X12_in M3 ((M3.1 25 20).toInt64) (x1.toInt64) (x2.toInt64)) (fun r6 M7 => if r6 = 0 then (some ((0 : Int32), M7)) else (some ((1 : Int32), M7)))) else (some ((0 : Int32), M3)))
set_option maxRecDepth 20000 in
set_option maxHeartbeats 2000000 in
theorem p_X12_number_0 {X : zX} {E : zE} {x1 : Int32} {x2 : Int32} {r : Int32} {M' : zM} (C : zC X E cX12_number 3 RX12 (some .boolean) 4) {M : zM} (h : f_X12_number_0 x1 x2 M = some (r, M')) : zW X E (zRQ X E (some (.int r)) M') M 0 [(0, .ref (E.2.1 25)), (1, .int x1), (2, .int x2)] [] := by
  have h : (zbv (f_X12_nextToken M) (fun M3 => if (M3.1 25 19) = (2 : Int32) then (zbi (f_X12_in M3 ((M3.1 25 20).toInt64) (x1.toInt64) (x2.toInt64)) (fun r6 M7 => if r6 = 0 then (some ((0 : Int32), M7)) else (some ((1 : Int32), M7)))) else (some ((0 : Int32), M3)))) = some (r, M') := h
  refine zw_aload_n C 0 rfl dX12_number_0 rfl ?_
  obtain ⟨M3, hq1, h⟩ := zbv_e h
  refine zw_callVv (As := []) (st := []) C (m_X12_nextToken C.2.2.2.2.2.2.2.1 hq1) kv_X12_nextToken gw_4_57 (by decide) (by decide) (zc_25 E) rfl rfl rfl rfl (Nat.le_of_ble_eq_true rfl) dX12_number_1 ?_
  refine zw_aload_n C 0 rfl dX12_number_4 rfl ?_
  refine zw_get (v := .int (M3.1 25 19)) C (by decide) (zc_25 E) rfl zin_X12 19 (by decide) gw_3_214 rfl dX12_number_5 ?_
  refine zw_iconst (v := (2 : Int32)) C dX12_number_8 ct_i_2 ?_
  refine zw_icmp_ne (tgt := 31) C dX12_number_9 (by decide) (fun hb4 => ?_) (fun hb4 => ?_)
  · have h := zt_ hb4 h
    refine zw_aload_n C 0 rfl dX12_number_12 rfl ?_
    refine zw_get (v := .int (M3.1 25 20)) C (by decide) (zc_25 E) rfl zin_X12 20 (by decide) gw_3_215 rfl dX12_number_13 ?_
    refine zw_i2l C dX12_number_16 ?_
    refine zw_iload_n C 1 rfl dX12_number_17 rfl ?_
    refine zw_i2l C dX12_number_18 ?_
    refine zw_iload_n C 2 rfl dX12_number_19 rfl ?_
    refine zw_i2l C dX12_number_20 ?_
    obtain ⟨r6, M7, hq5, h⟩ := zbi_e h
    refine zw_callSi (As := [.long ((M3.1 25 20).toInt64), .long (x1.toInt64), .long (x2.toInt64)]) (st := []) C (m_X12_in C.2.2.2.2.2.2.2.1 hq5) ks_X12_in gw_4_42 (by decide) rfl rfl (Nat.le_of_ble_eq_true rfl) dX12_number_21 ?_
    refine zw_if_eq (tgt := 31) C dX12_number_24 (by decide) (fun hb8 => ?_) (fun hb8 => ?_)
    · have h := zt_ hb8 h
      refine zw_iconst (v := (0 : Int32)) C dX12_number_31 ct_i_0 ?_
      exact zw_zreturnE C rfl h dX12_number_32
    · have h := zf_ hb8 h
      refine zw_iconst (v := (1 : Int32)) C dX12_number_27 ct_i_1 ?_
      refine zw_goto (tgt := 32) C dX12_number_28 (by decide) ?_
      exact zw_zreturnE C rfl h dX12_number_32
  · have h := zf_ hb4 h
    refine zw_iconst (v := (0 : Int32)) C dX12_number_31 ct_i_0 ?_
    exact zw_zreturnE C rfl h dX12_number_32
def f_X12_number (M : zM) (x1 : Int32) (x2 : Int32) : Option (Int32 × zM) := f_X12_number_0 x1 x2 M
theorem m_X12_number {l : Launch} {E : zE} (hI : zI E) {M M' : zM} {x1 : Int32} {x2 : Int32} {r : Int32} (h : f_X12_number M x1 x2 = some (r, M')) : zMet l E yX12_number cX12_number 3 (some .boolean) 4 [.ref (E.2.1 25), .int x1, .int x2] M M' (some (.int r)) := zm_of hI (by decide) (Nat.le_of_ble_eq_true rfl) (fun X _ C => p_X12_number_0 C h)
theorem kv_X12_number : zKV yX12_number cX12_number 3 (some .boolean) 2 := ⟨⟨gw_4_85, gs_24, gw_1_13, gw_4_86⟩, ⟨by decide, by decide, by decide +kernel⟩, by decide⟩
-- WingDoorModel.isRooms()Z, 24 instructions, depth 5
def f_X12_isRooms_0 (M : zM) : Option (Int32 × zM) := zbi (f_X12_number M (3 : Int32) (6 : Int32)) (fun r2 M3 => if r2 = 0 then (some ((0 : Int32), M3)) else (zbi (f_X12_number (zs M3 25 21 (M3.1 25 20)) (1 : Int32) (5 : Int32)) (fun r6 M7 => if r6 = 0 then (some ((0 : Int32), M7)) else (some ((1 : Int32), zs M7 25 22 (M7.1 25 20))))))
set_option maxRecDepth 20000 in
set_option maxHeartbeats 2000000 in
theorem p_X12_isRooms_0 {X : zX} {E : zE} {r : Int32} {M' : zM} (C : zC X E cX12_isRooms 1 RX12 (some .boolean) 5) {M : zM} (h : f_X12_isRooms_0  M = some (r, M')) : zW X E (zRQ X E (some (.int r)) M') M 0 [(0, .ref (E.2.1 25))] [] := by
  have h : (zbi (f_X12_number M (3 : Int32) (6 : Int32)) (fun r2 M3 => if r2 = 0 then (some ((0 : Int32), M3)) else (zbi (f_X12_number (zs M3 25 21 (M3.1 25 20)) (1 : Int32) (5 : Int32)) (fun r6 M7 => if r6 = 0 then (some ((0 : Int32), M7)) else (some ((1 : Int32), zs M7 25 22 (M7.1 25 20))))))) = some (r, M') := h
  refine zw_aload_n C 0 rfl dX12_isRooms_0 rfl ?_
  refine zw_iconst (v := (3 : Int32)) C dX12_isRooms_1 ct_i_3 ?_
  refine zw_bipush (v := (6 : Int32)) C dX12_isRooms_2 ct_b_6 ?_
  obtain ⟨r2, M3, hq1, h⟩ := zbi_e h
  refine zw_callVi (As := [.int (3 : Int32), .int (6 : Int32)]) (st := []) C (m_X12_number C.2.2.2.2.2.2.2.1 hq1) kv_X12_number gw_4_83 (by decide) (by decide) (zc_25 E) rfl rfl rfl rfl (Nat.le_of_ble_eq_true rfl) dX12_isRooms_4 ?_
  refine zw_if_ne (tgt := 12) C dX12_isRooms_7 (by decide) (fun hb4 => ?_) (fun hb4 => ?_)
  · have h := zt_ hb4 h
    refine zw_iconst (v := (0 : Int32)) C dX12_isRooms_10 ct_i_0 ?_
    exact zw_zreturnE C rfl h dX12_isRooms_11
  · have h := zf_ hb4 h
    refine zw_aload_n C 0 rfl dX12_isRooms_12 rfl ?_
    refine zw_aload_n C 0 rfl dX12_isRooms_13 rfl ?_
    refine zw_get (v := .int (M3.1 25 20)) C (by decide) (zc_25 E) rfl zin_X12 20 (by decide) gw_3_215 rfl dX12_isRooms_14 ?_
    refine zw_put (ty := .int) C (by decide) (zc_25 E) rfl zin_X12 tyX12 tyX12_ok nmX12 21 (by decide) gw_3_216 rfl rfl rfl rfl (fun _ _ => Nat.le_of_ble_eq_true rfl) (fun _ _ => rfl) dX12_isRooms_17 ?_
    refine zw_aload_n C 0 rfl dX12_isRooms_20 rfl ?_
    refine zw_iconst (v := (1 : Int32)) C dX12_isRooms_21 ct_i_1 ?_
    refine zw_iconst (v := (5 : Int32)) C dX12_isRooms_22 ct_i_5 ?_
    obtain ⟨r6, M7, hq5, h⟩ := zbi_e h
    refine zw_callVi (As := [.int (1 : Int32), .int (5 : Int32)]) (st := []) C (m_X12_number C.2.2.2.2.2.2.2.1 hq5) kv_X12_number gw_4_83 (by decide) (by decide) (zc_25 E) rfl rfl rfl rfl (Nat.le_of_ble_eq_true rfl) dX12_isRooms_23 ?_
    refine zw_if_ne (tgt := 31) C dX12_isRooms_26 (by decide) (fun hb8 => ?_) (fun hb8 => ?_)
    · have h := zt_ hb8 h
      refine zw_iconst (v := (0 : Int32)) C dX12_isRooms_29 ct_i_0 ?_
      exact zw_zreturnE C rfl h dX12_isRooms_30
    · have h := zf_ hb8 h
      refine zw_aload_n C 0 rfl dX12_isRooms_31 rfl ?_
      refine zw_aload_n C 0 rfl dX12_isRooms_32 rfl ?_
      refine zw_get (v := .int (M7.1 25 20)) C (by decide) (zc_25 E) rfl zin_X12 20 (by decide) gw_3_215 rfl dX12_isRooms_33 ?_
      refine zw_put (ty := .int) C (by decide) (zc_25 E) rfl zin_X12 tyX12 tyX12_ok nmX12 22 (by decide) gw_3_217 rfl rfl rfl rfl (fun _ _ => Nat.le_of_ble_eq_true rfl) (fun _ _ => rfl) dX12_isRooms_36 ?_
      refine zw_iconst (v := (1 : Int32)) C dX12_isRooms_39 ct_i_1 ?_
      exact zw_zreturnE C rfl h dX12_isRooms_40
def f_X12_isRooms (M : zM) : Option (Int32 × zM) := f_X12_isRooms_0 M
theorem m_X12_isRooms {l : Launch} {E : zE} (hI : zI E) {M M' : zM} {r : Int32} (h : f_X12_isRooms M = some (r, M')) : zMet l E yX12_isRooms cX12_isRooms 1 (some .boolean) 5 [.ref (E.2.1 25)] M M' (some (.int r)) := zm_of hI (by decide) (Nat.le_of_ble_eq_true rfl) (fun X _ C => p_X12_isRooms_0 C h)
theorem kv_X12_isRooms : zKV yX12_isRooms cX12_isRooms 1 (some .boolean) 0 := ⟨⟨gw_4_81, gs_23, gw_1_13, gw_4_82⟩, ⟨by decide, by decide, by decide +kernel⟩, by decide⟩
-- WingDoorModel.isHard()Z, 17 instructions, depth 5
def f_X12_isHard_0 (M : zM) : Option (Int32 × zM) := if (M.1 25 23) = (-9 : Int32) then (zbi (f_X12_number M (0 : Int32) (20 : Int32)) (fun r3 M4 => if r3 = 0 then (some ((0 : Int32), M4)) else (some ((1 : Int32), zs M4 25 23 (M4.1 25 20))))) else (some ((0 : Int32), M))
set_option maxRecDepth 20000 in
set_option maxHeartbeats 2000000 in
theorem p_X12_isHard_0 {X : zX} {E : zE} {r : Int32} {M' : zM} (C : zC X E cX12_isHard 1 RX12 (some .boolean) 5) {M : zM} (h : f_X12_isHard_0  M = some (r, M')) : zW X E (zRQ X E (some (.int r)) M') M 0 [(0, .ref (E.2.1 25))] [] := by
  have h : (if (M.1 25 23) = (-9 : Int32) then (zbi (f_X12_number M (0 : Int32) (20 : Int32)) (fun r3 M4 => if r3 = 0 then (some ((0 : Int32), M4)) else (some ((1 : Int32), zs M4 25 23 (M4.1 25 20))))) else (some ((0 : Int32), M))) = some (r, M') := h
  refine zw_aload_n C 0 rfl dX12_isHard_0 rfl ?_
  refine zw_get (v := .int (M.1 25 23)) C (by decide) (zc_25 E) rfl zin_X12 23 (by decide) gw_3_218 rfl dX12_isHard_1 ?_
  refine zw_bipush (v := (-9 : Int32)) C dX12_isHard_4 ct_b_m9 ?_
  refine zw_icmp_ne (tgt := 19) C dX12_isHard_6 (by decide) (fun hb1 => ?_) (fun hb1 => ?_)
  · have h := zt_ hb1 h
    refine zw_aload_n C 0 rfl dX12_isHard_9 rfl ?_
    refine zw_iconst (v := (0 : Int32)) C dX12_isHard_10 ct_i_0 ?_
    refine zw_bipush (v := (20 : Int32)) C dX12_isHard_11 ct_b_20 ?_
    obtain ⟨r3, M4, hq2, h⟩ := zbi_e h
    refine zw_callVi (As := [.int (0 : Int32), .int (20 : Int32)]) (st := []) C (m_X12_number C.2.2.2.2.2.2.2.1 hq2) kv_X12_number gw_4_83 (by decide) (by decide) (zc_25 E) rfl rfl rfl rfl (Nat.le_of_ble_eq_true rfl) dX12_isHard_13 ?_
    refine zw_if_ne (tgt := 21) C dX12_isHard_16 (by decide) (fun hb5 => ?_) (fun hb5 => ?_)
    · have h := zt_ hb5 h
      refine zw_iconst (v := (0 : Int32)) C dX12_isHard_19 ct_i_0 ?_
      exact zw_zreturnE C rfl h dX12_isHard_20
    · have h := zf_ hb5 h
      refine zw_aload_n C 0 rfl dX12_isHard_21 rfl ?_
      refine zw_aload_n C 0 rfl dX12_isHard_22 rfl ?_
      refine zw_get (v := .int (M4.1 25 20)) C (by decide) (zc_25 E) rfl zin_X12 20 (by decide) gw_3_215 rfl dX12_isHard_23 ?_
      refine zw_put (ty := .int) C (by decide) (zc_25 E) rfl zin_X12 tyX12 tyX12_ok nmX12 23 (by decide) gw_3_218 rfl rfl rfl rfl (fun _ _ => Nat.le_of_ble_eq_true rfl) (fun _ _ => rfl) dX12_isHard_26 ?_
      refine zw_iconst (v := (1 : Int32)) C dX12_isHard_29 ct_i_1 ?_
      exact zw_zreturnE C rfl h dX12_isHard_30
  · have h := zf_ hb1 h
    refine zw_iconst (v := (0 : Int32)) C dX12_isHard_19 ct_i_0 ?_
    exact zw_zreturnE C rfl h dX12_isHard_20
def f_X12_isHard (M : zM) : Option (Int32 × zM) := f_X12_isHard_0 M
theorem m_X12_isHard {l : Launch} {E : zE} (hI : zI E) {M M' : zM} {r : Int32} (h : f_X12_isHard M = some (r, M')) : zMet l E yX12_isHard cX12_isHard 1 (some .boolean) 5 [.ref (E.2.1 25)] M M' (some (.int r)) := zm_of hI (by decide) (Nat.le_of_ble_eq_true rfl) (fun X _ C => p_X12_isHard_0 C h)
theorem kv_X12_isHard : zKV yX12_isHard cX12_isHard 1 (some .boolean) 0 := ⟨⟨gw_4_89, gs_25, gw_1_13, gw_4_90⟩, ⟨by decide, by decide, by decide +kernel⟩, by decide⟩
-- WingDoorModel.isSort()Z, 41 instructions, depth 5
def f_X12_isSort_71 (M : zM) : Option (Int32 × zM) := some ((1 : Int32), M)
set_option maxRecDepth 20000 in
set_option maxHeartbeats 2000000 in
theorem p_X12_isSort_71 {X : zX} {E : zE} {r : Int32} {M' : zM} (C : zC X E cX12_isSort 1 RX12 (some .boolean) 5) {M : zM} (h : f_X12_isSort_71  M = some (r, M')) : zW X E (zRQ X E (some (.int r)) M') M 71 [(0, .ref (E.2.1 25))] [] := by
  have h : (some ((1 : Int32), M)) = some (r, M') := h
  refine zw_iconst (v := (1 : Int32)) C dX12_isSort_71 ct_i_1 ?_
  exact zw_zreturnE C rfl h dX12_isSort_72
def f_X12_isSort_0 (M : zM) : Option (Int32 × zM) := if (M.1 25 24) = (6 : Int32) then (some ((0 : Int32), M)) else (zbi (f_X12_number M (1 : Int32) (M.1 25 22)) (fun r3 M4 => if r3 = 0 then (some ((0 : Int32), M4)) else (zg (zin (M4.1 25 24) 6) (zbi (f_X12_number (zs M4 35 (M4.1 25 24).toNatClampNeg (M4.1 25 20)) (0 : Int32) (9 : Int32)) (fun r8 M9 => if r8 = 0 then (some ((0 : Int32), M9)) else (zg (zin (M9.1 25 24) 6) (f_X12_isSort_71 (zs (zs M9 36 (M9.1 25 24).toNatClampNeg (M9.1 25 20)) 25 24 (((zs M9 36 (M9.1 25 24).toNatClampNeg (M9.1 25 20)).1 25 24) + (1 : Int32))))))))))
set_option maxRecDepth 20000 in
set_option maxHeartbeats 2000000 in
theorem p_X12_isSort_0 {X : zX} {E : zE} {r : Int32} {M' : zM} (C : zC X E cX12_isSort 1 RX12 (some .boolean) 5) {M : zM} (h : f_X12_isSort_0  M = some (r, M')) : zW X E (zRQ X E (some (.int r)) M') M 0 [(0, .ref (E.2.1 25))] [] := by
  have h : (if (M.1 25 24) = (6 : Int32) then (some ((0 : Int32), M)) else (zbi (f_X12_number M (1 : Int32) (M.1 25 22)) (fun r3 M4 => if r3 = 0 then (some ((0 : Int32), M4)) else (zg (zin (M4.1 25 24) 6) (zbi (f_X12_number (zs M4 35 (M4.1 25 24).toNatClampNeg (M4.1 25 20)) (0 : Int32) (9 : Int32)) (fun r8 M9 => if r8 = 0 then (some ((0 : Int32), M9)) else (zg (zin (M9.1 25 24) 6) (f_X12_isSort_71 (zs (zs M9 36 (M9.1 25 24).toNatClampNeg (M9.1 25 20)) 25 24 (((zs M9 36 (M9.1 25 24).toNatClampNeg (M9.1 25 20)).1 25 24) + (1 : Int32))))))))))) = some (r, M') := h
  refine zw_aload_n C 0 rfl dX12_isSort_0 rfl ?_
  refine zw_get (v := .int (M.1 25 24)) C (by decide) (zc_25 E) rfl zin_X12 24 (by decide) gw_3_219 rfl dX12_isSort_1 ?_
  refine zw_bipush (v := (6 : Int32)) C dX12_isSort_4 ct_b_6 ?_
  refine zw_icmp_eq (tgt := 21) C dX12_isSort_6 (by decide) (fun hb1 => ?_) (fun hb1 => ?_)
  · have h := zt_ hb1 h
    refine zw_iconst (v := (0 : Int32)) C dX12_isSort_21 ct_i_0 ?_
    exact zw_zreturnE C rfl h dX12_isSort_22
  · have h := zf_ hb1 h
    refine zw_aload_n C 0 rfl dX12_isSort_9 rfl ?_
    refine zw_iconst (v := (1 : Int32)) C dX12_isSort_10 ct_i_1 ?_
    refine zw_aload_n C 0 rfl dX12_isSort_11 rfl ?_
    refine zw_get (v := .int (M.1 25 22)) C (by decide) (zc_25 E) rfl zin_X12 22 (by decide) gw_3_217 rfl dX12_isSort_12 ?_
    obtain ⟨r3, M4, hq2, h⟩ := zbi_e h
    refine zw_callVi (As := [.int (1 : Int32), .int (M.1 25 22)]) (st := []) C (m_X12_number C.2.2.2.2.2.2.2.1 hq2) kv_X12_number gw_4_83 (by decide) (by decide) (zc_25 E) rfl rfl rfl rfl (Nat.le_of_ble_eq_true rfl) dX12_isSort_15 ?_
    refine zw_if_ne (tgt := 23) C dX12_isSort_18 (by decide) (fun hb5 => ?_) (fun hb5 => ?_)
    · have h := zt_ hb5 h
      refine zw_iconst (v := (0 : Int32)) C dX12_isSort_21 ct_i_0 ?_
      exact zw_zreturnE C rfl h dX12_isSort_22
    · have h := zf_ hb5 h
      refine zw_aload_n C 0 rfl dX12_isSort_23 rfl ?_
      refine zw_get (v := .ref (E.2.1 35)) C (by decide) (zc_25 E) rfl zin_X12 25 (by decide) gw_3_220 rfl dX12_isSort_24 ?_
      refine zw_aload_n C 0 rfl dX12_isSort_27 rfl ?_
      refine zw_get (v := .int (M4.1 25 24)) C (by decide) (zc_25 E) rfl zin_X12 24 (by decide) gw_3_219 rfl dX12_isSort_28 ?_
      refine zw_aload_n C 0 rfl dX12_isSort_31 rfl ?_
      refine zw_get (v := .int (M4.1 25 20)) C (by decide) (zc_25 E) rfl zin_X12 20 (by decide) gw_3_215 rfl dX12_isSort_32 ?_
      obtain ⟨hi6, h⟩ := zg_e h
      refine zw_iast C zia_35 (zin_e hi6) dX12_isSort_35 ?_
      refine zw_aload_n C 0 rfl dX12_isSort_36 rfl ?_
      refine zw_iconst (v := (0 : Int32)) C dX12_isSort_37 ct_i_0 ?_
      refine zw_bipush (v := (9 : Int32)) C dX12_isSort_38 ct_b_9 ?_
      obtain ⟨r8, M9, hq7, h⟩ := zbi_e h
      refine zw_callVi (As := [.int (0 : Int32), .int (9 : Int32)]) (st := []) C (m_X12_number C.2.2.2.2.2.2.2.1 hq7) kv_X12_number gw_4_83 (by decide) (by decide) (zc_25 E) rfl rfl rfl rfl (Nat.le_of_ble_eq_true rfl) dX12_isSort_40 ?_
      refine zw_if_ne (tgt := 48) C dX12_isSort_43 (by decide) (fun hb10 => ?_) (fun hb10 => ?_)
      · have h := zt_ hb10 h
        refine zw_iconst (v := (0 : Int32)) C dX12_isSort_46 ct_i_0 ?_
        exact zw_zreturnE C rfl h dX12_isSort_47
      · have h := zf_ hb10 h
        refine zw_aload_n C 0 rfl dX12_isSort_48 rfl ?_
        refine zw_get (v := .ref (E.2.1 36)) C (by decide) (zc_25 E) rfl zin_X12 26 (by decide) gw_3_221 rfl dX12_isSort_49 ?_
        refine zw_aload_n C 0 rfl dX12_isSort_52 rfl ?_
        refine zw_get (v := .int (M9.1 25 24)) C (by decide) (zc_25 E) rfl zin_X12 24 (by decide) gw_3_219 rfl dX12_isSort_53 ?_
        refine zw_aload_n C 0 rfl dX12_isSort_56 rfl ?_
        refine zw_get (v := .int (M9.1 25 20)) C (by decide) (zc_25 E) rfl zin_X12 20 (by decide) gw_3_215 rfl dX12_isSort_57 ?_
        obtain ⟨hi11, h⟩ := zg_e h
        refine zw_iast C zia_36 (zin_e hi11) dX12_isSort_60 ?_
        refine zw_aload_n C 0 rfl dX12_isSort_61 rfl ?_
        refine zw_dup C rfl dX12_isSort_62 ?_
        refine zw_get (v := .int ((zs M9 36 (M9.1 25 24).toNatClampNeg (M9.1 25 20)).1 25 24)) C (by decide) (zc_25 E) rfl zin_X12 24 (by decide) gw_3_219 rfl dX12_isSort_63 ?_
        refine zw_iconst (v := (1 : Int32)) C dX12_isSort_66 ct_i_1 ?_
        refine zw_iadd C dX12_isSort_67 ?_
        refine zw_put (ty := .int) C (by decide) (zc_25 E) rfl zin_X12 tyX12 tyX12_ok nmX12 24 (by decide) gw_3_219 rfl rfl rfl rfl (fun _ _ => Nat.le_of_ble_eq_true rfl) (fun _ _ => rfl) dX12_isSort_68 ?_
        exact p_X12_isSort_71 C h
def f_X12_isSort (M : zM) : Option (Int32 × zM) := f_X12_isSort_0 M
theorem m_X12_isSort {l : Launch} {E : zE} (hI : zI E) {M M' : zM} {r : Int32} (h : f_X12_isSort M = some (r, M')) : zMet l E yX12_isSort cX12_isSort 1 (some .boolean) 5 [.ref (E.2.1 25)] M M' (some (.int r)) := zm_of hI (by decide) (Nat.le_of_ble_eq_true rfl) (fun X _ C => p_X12_isSort_0 C h)
theorem kv_X12_isSort : zKV yX12_isSort cX12_isSort 1 (some .boolean) 0 := ⟨⟨gw_4_93, gs_26, gw_1_13, gw_4_94⟩, ⟨by decide, by decide, by decide +kernel⟩, by decide⟩
-- WingDoorModel.isItem(I)Z, 24 instructions, depth 6
def f_X12_isItem_0 (x1 : Int32) (M : zM) : Option (Int32 × zM) := if (M.1 25 19) = (1 : Int32) then (if (M.1 25 20) = (104 : Int32) then (zbi (f_X12_isHard M) (fun r4 M5 => zg (zbo r4) (some (r4, M5)))) else if (M.1 25 20) = (114 : Int32) then (if x1 = 0 then (zbi (f_X12_isRooms M) (fun r10 M11 => if r10 = 0 then (some ((0 : Int32), M11)) else (some ((1 : Int32), M11)))) else (some ((0 : Int32), M))) else (zbi (f_X12_isSort M) (fun r14 M15 => zg (zbo r14) (some (r14, M15))))) else (some ((0 : Int32), M))
set_option maxRecDepth 20000 in
set_option maxHeartbeats 2000000 in
theorem p_X12_isItem_0 {X : zX} {E : zE} {x1 : Int32} {r : Int32} {M' : zM} (C : zC X E cX12_isItem 2 RX12 (some .boolean) 6) {M : zM} (h : f_X12_isItem_0 x1 M = some (r, M')) : zW X E (zRQ X E (some (.int r)) M') M 0 [(0, .ref (E.2.1 25)), (1, .int x1)] [] := by
  have h : (if (M.1 25 19) = (1 : Int32) then (if (M.1 25 20) = (104 : Int32) then (zbi (f_X12_isHard M) (fun r4 M5 => zg (zbo r4) (some (r4, M5)))) else if (M.1 25 20) = (114 : Int32) then (if x1 = 0 then (zbi (f_X12_isRooms M) (fun r10 M11 => if r10 = 0 then (some ((0 : Int32), M11)) else (some ((1 : Int32), M11)))) else (some ((0 : Int32), M))) else (zbi (f_X12_isSort M) (fun r14 M15 => zg (zbo r14) (some (r14, M15))))) else (some ((0 : Int32), M))) = some (r, M') := h
  refine zw_aload_n C 0 rfl dX12_isItem_0 rfl ?_
  refine zw_get (v := .int (M.1 25 19)) C (by decide) (zc_25 E) rfl zin_X12 19 (by decide) gw_3_214 rfl dX12_isItem_1 ?_
  refine zw_iconst (v := (1 : Int32)) C dX12_isItem_4 ct_i_1 ?_
  refine zw_icmp_eq (tgt := 10) C dX12_isItem_5 (by decide) (fun hb1 => ?_) (fun hb1 => ?_)
  · have h := zt_ hb1 h
    refine zw_aload_n C 0 rfl dX12_isItem_10 rfl ?_
    refine zw_get (v := .int (M.1 25 20)) C (by decide) (zc_25 E) rfl zin_X12 20 (by decide) gw_3_215 rfl dX12_isItem_11 ?_
    by_cases hb2 : (M.1 25 20) = (104 : Int32)
    · have h := zt_ hb2 h
      refine zw_look (off := 43) (tgt := 57) C dX12_isItem_14 (by decide) (by rw [hb2] <;> rfl) (by decide) ?_
      refine zw_aload_n C 0 rfl dX12_isItem_57 rfl ?_
      obtain ⟨r4, M5, hq3, h⟩ := zbi_e h
      refine zw_callVi (As := []) (st := []) C (m_X12_isHard C.2.2.2.2.2.2.2.1 hq3) kv_X12_isHard gw_4_87 (by decide) (by decide) (zc_25 E) rfl rfl rfl rfl (Nat.le_of_ble_eq_true rfl) dX12_isItem_58 ?_
      obtain ⟨hz6, h⟩ := zg_e h
      exact zw_zreturnE C (zbo_e hz6) h dX12_isItem_61
    have h := zf_ hb2 h
    by_cases hb7 : (M.1 25 20) = (114 : Int32)
    · have h := zt_ hb7 h
      refine zw_look (off := 26) (tgt := 40) C dX12_isItem_14 (by decide) (by rw [hb7] <;> rfl) (by decide) ?_
      refine zw_iload_n C 1 rfl dX12_isItem_40 rfl ?_
      refine zw_if_ne (tgt := 55) C dX12_isItem_41 (by decide) (fun hb8 => ?_) (fun hb8 => ?_)
      · have h := zt_ hb8 h
        refine zw_aload_n C 0 rfl dX12_isItem_44 rfl ?_
        obtain ⟨r10, M11, hq9, h⟩ := zbi_e h
        refine zw_callVi (As := []) (st := []) C (m_X12_isRooms C.2.2.2.2.2.2.2.1 hq9) kv_X12_isRooms gw_4_79 (by decide) (by decide) (zc_25 E) rfl rfl rfl rfl (Nat.le_of_ble_eq_true rfl) dX12_isItem_45 ?_
        refine zw_if_eq (tgt := 55) C dX12_isItem_48 (by decide) (fun hb12 => ?_) (fun hb12 => ?_)
        · have h := zt_ hb12 h
          refine zw_iconst (v := (0 : Int32)) C dX12_isItem_55 ct_i_0 ?_
          exact zw_zreturnE C rfl h dX12_isItem_56
        · have h := zf_ hb12 h
          refine zw_iconst (v := (1 : Int32)) C dX12_isItem_51 ct_i_1 ?_
          refine zw_goto (tgt := 56) C dX12_isItem_52 (by decide) ?_
          exact zw_zreturnE C rfl h dX12_isItem_56
      · have h := zf_ hb8 h
        refine zw_iconst (v := (0 : Int32)) C dX12_isItem_55 ct_i_0 ?_
        exact zw_zreturnE C rfl h dX12_isItem_56
    have h := zf_ hb7 h
    refine zw_look (off := 48) (tgt := 62) C dX12_isItem_14 (by decide) (by refine (lv_osw hb2 (show (104 : Int32).toInt = 104 by decide)).trans ?_; refine (lv_osw hb7 (show (114 : Int32).toInt = 114 by decide)).trans ?_; rfl) (by decide) ?_
    refine zw_aload_n C 0 rfl dX12_isItem_62 rfl ?_
    obtain ⟨r14, M15, hq13, h⟩ := zbi_e h
    refine zw_callVi (As := []) (st := []) C (m_X12_isSort C.2.2.2.2.2.2.2.1 hq13) kv_X12_isSort gw_4_91 (by decide) (by decide) (zc_25 E) rfl rfl rfl rfl (Nat.le_of_ble_eq_true rfl) dX12_isItem_63 ?_
    obtain ⟨hz16, h⟩ := zg_e h
    exact zw_zreturnE C (zbo_e hz16) h dX12_isItem_66
  · have h := zf_ hb1 h
    refine zw_iconst (v := (0 : Int32)) C dX12_isItem_8 ct_i_0 ?_
    exact zw_zreturnE C rfl h dX12_isItem_9
def f_X12_isItem (M : zM) (x1 : Int32) : Option (Int32 × zM) := f_X12_isItem_0 x1 M
theorem m_X12_isItem {l : Launch} {E : zE} (hI : zI E) {M M' : zM} {x1 : Int32} {r : Int32} (h : f_X12_isItem M x1 = some (r, M')) : zMet l E yX12_isItem cX12_isItem 2 (some .boolean) 6 [.ref (E.2.1 25), .int x1] M M' (some (.int r)) := zm_of hI (by decide) (Nat.le_of_ble_eq_true rfl) (fun X _ C => p_X12_isItem_0 C h)
theorem kv_X12_isItem : zKV yX12_isItem cX12_isItem 2 (some .boolean) 1 := ⟨⟨gw_4_77, gs_22, gw_1_13, gw_4_78⟩, ⟨by decide, by decide, by decide +kernel⟩, by decide⟩
-- WingDoorModel.reads()I, 48 instructions, depth 7
def f_X12_reads_32 : Nat → zM → Int32 → Option (Int32 × zM)
  | 0, _, _ => none
  | n + 1, M, x1 => if (M.1 25 19) = 0 then (some (x1, M)) else (zbi (f_X12_isItem M x1) (fun r3 M4 => if r3 = 0 then (some ((-10 : Int32) - (M4.1 25 18), M4)) else (zbv (f_X12_nextToken M4) (fun M8 => if (M8.1 25 19) = (3 : Int32) then (zbv (f_X12_nextToken M8) (fun M12 => f_X12_reads_32 n M12 (x1 + (1 : Int32)))) else (some ((-10 : Int32) - (M8.1 25 18), M8))))))
set_option maxRecDepth 20000 in
set_option maxHeartbeats 2000000 in
theorem p_X12_reads_32 {X : zX} {E : zE} {r : Int32} {M' : zM} (C : zC X E cX12_reads 2 RX12 (some .int) 7) : ∀ (n : Nat) (M : zM) (x1 : Int32), f_X12_reads_32  n M x1 = some (r, M') → zW X E (zRQ X E (some (.int r)) M') M 32 [(0, .ref (E.2.1 25)), (1, .int x1)] [] := by
  intro n
  induction n with
  | zero => intro M x1 h; cases h
  | succ n ih =>
    intro M x1 h
    have h : (if (M.1 25 19) = 0 then (some (x1, M)) else (zbi (f_X12_isItem M x1) (fun r3 M4 => if r3 = 0 then (some ((-10 : Int32) - (M4.1 25 18), M4)) else (zbv (f_X12_nextToken M4) (fun M8 => if (M8.1 25 19) = (3 : Int32) then (zbv (f_X12_nextToken M8) (fun M12 => f_X12_reads_32 n M12 (x1 + (1 : Int32)))) else (some ((-10 : Int32) - (M8.1 25 18), M8))))))) = some (r, M') := h
    refine zw_aload_n C 0 rfl dX12_reads_32 rfl ?_
    refine zw_get (v := .int (M.1 25 19)) C (by decide) (zc_25 E) rfl zin_X12 19 (by decide) gw_3_214 rfl dX12_reads_33 ?_
    refine zw_if_eq (tgt := 85) C dX12_reads_36 (by decide) (fun hb1 => ?_) (fun hb1 => ?_)
    · have h := zt_ hb1 h
      refine zw_iload_n C 1 rfl dX12_reads_85 rfl ?_
      exact zw_ireturnE C h dX12_reads_86
    · have h := zf_ hb1 h
      refine zw_aload_n C 0 rfl dX12_reads_39 rfl ?_
      refine zw_iload_n C 1 rfl dX12_reads_40 rfl ?_
      obtain ⟨r3, M4, hq2, h⟩ := zbi_e h
      refine zw_callVi (As := [.int x1]) (st := []) C (m_X12_isItem C.2.2.2.2.2.2.2.1 hq2) kv_X12_isItem gw_4_75 (by decide) (by decide) (zc_25 E) rfl rfl rfl rfl (Nat.le_of_ble_eq_true rfl) dX12_reads_41 ?_
      refine zw_if_ne (tgt := 55) C dX12_reads_44 (by decide) (fun hb5 => ?_) (fun hb5 => ?_)
      · have h := zt_ hb5 h
        refine zw_bipush (v := (-10 : Int32)) C dX12_reads_47 ct_b_m10 ?_
        refine zw_aload_n C 0 rfl dX12_reads_49 rfl ?_
        refine zw_get (v := .int (M4.1 25 18)) C (by decide) (zc_25 E) rfl zin_X12 18 (by decide) gw_3_213 rfl dX12_reads_50 ?_
        refine zw_isub C dX12_reads_53 ?_
        exact zw_ireturnE C h dX12_reads_54
      · have h := zf_ hb5 h
        refine zw_aload_n C 0 rfl dX12_reads_55 rfl ?_
        obtain ⟨M8, hq6, h⟩ := zbv_e h
        refine zw_callVv (As := []) (st := []) C (m_X12_nextToken C.2.2.2.2.2.2.2.1 hq6) kv_X12_nextToken gw_4_57 (by decide) (by decide) (zc_25 E) rfl rfl rfl rfl (Nat.le_of_ble_eq_true rfl) dX12_reads_56 ?_
        refine zw_aload_n C 0 rfl dX12_reads_59 rfl ?_
        refine zw_get (v := .int (M8.1 25 19)) C (by decide) (zc_25 E) rfl zin_X12 19 (by decide) gw_3_214 rfl dX12_reads_60 ?_
        refine zw_iconst (v := (3 : Int32)) C dX12_reads_63 ct_i_3 ?_
        refine zw_icmp_eq (tgt := 75) C dX12_reads_64 (by decide) (fun hb9 => ?_) (fun hb9 => ?_)
        · have h := zt_ hb9 h
          refine zw_iinc (lv' := [(1, .int (x1 + (1 : Int32))), (0, .ref (E.2.1 25))]) C 1 rfl dX12_reads_75 (ct_n_1 _) (by decide) rfl ?_
          refine zw_aload_n C 1 rfl dX12_reads_78 rfl ?_
          obtain ⟨M12, hq10, h⟩ := zbv_e h
          refine zw_callVv (As := []) (st := []) C (m_X12_nextToken C.2.2.2.2.2.2.2.1 hq10) kv_X12_nextToken gw_4_57 (by decide) (by decide) (zc_25 E) rfl rfl rfl rfl (Nat.le_of_ble_eq_true rfl) dX12_reads_79 ?_
          refine zw_goto (tgt := 32) C dX12_reads_82 (by decide) ?_
          refine zw_sb [1, 0] rfl ?_
          exact ih _ _ h
        · have h := zf_ hb9 h
          refine zw_bipush (v := (-10 : Int32)) C dX12_reads_67 ct_b_m10 ?_
          refine zw_aload_n C 0 rfl dX12_reads_69 rfl ?_
          refine zw_get (v := .int (M8.1 25 18)) C (by decide) (zc_25 E) rfl zin_X12 18 (by decide) gw_3_213 rfl dX12_reads_70 ?_
          refine zw_isub C dX12_reads_73 ?_
          exact zw_ireturnE C h dX12_reads_74
def f_X12_reads_26 (M : zM) : Option (Int32 × zM) := zbv (f_X12_nextToken M) (fun M3 => f_X12_reads_32 zFU M3 (0 : Int32))
set_option maxRecDepth 20000 in
set_option maxHeartbeats 2000000 in
theorem p_X12_reads_26 {X : zX} {E : zE} {r : Int32} {M' : zM} (C : zC X E cX12_reads 2 RX12 (some .int) 7) {M : zM} (h : f_X12_reads_26  M = some (r, M')) : zW X E (zRQ X E (some (.int r)) M') M 26 [(0, .ref (E.2.1 25))] [] := by
  have h : (zbv (f_X12_nextToken M) (fun M3 => f_X12_reads_32 zFU M3 (0 : Int32))) = some (r, M') := h
  refine zw_iconst (v := (0 : Int32)) C dX12_reads_26 ct_i_0 ?_
  refine zw_istore_n (lv' := [(1, .int (0 : Int32)), (0, .ref (E.2.1 25))]) C dX12_reads_27 rfl (by decide) rfl ?_
  refine zw_aload_n C 1 rfl dX12_reads_28 rfl ?_
  obtain ⟨M3, hq1, h⟩ := zbv_e h
  refine zw_callVv (As := []) (st := []) C (m_X12_nextToken C.2.2.2.2.2.2.2.1 hq1) kv_X12_nextToken gw_4_57 (by decide) (by decide) (zc_25 E) rfl rfl rfl rfl (Nat.le_of_ble_eq_true rfl) dX12_reads_29 ?_
  refine zw_sb [1, 0] rfl ?_
  exact p_X12_reads_32 C zFU _ _ h
def f_X12_reads_0 (M : zM) : Option (Int32 × zM) := f_X12_reads_26 (zs (zs (zs (zs (zs M 25 21 (4 : Int32)) 25 22 (2 : Int32)) 25 23 (-9 : Int32)) 25 24 (0 : Int32)) 25 17 (0 : Int32))
set_option maxRecDepth 20000 in
set_option maxHeartbeats 2000000 in
theorem p_X12_reads_0 {X : zX} {E : zE} {r : Int32} {M' : zM} (C : zC X E cX12_reads 2 RX12 (some .int) 7) {M : zM} (h : f_X12_reads_0  M = some (r, M')) : zW X E (zRQ X E (some (.int r)) M') M 0 [(0, .ref (E.2.1 25))] [] := by
  have h : (f_X12_reads_26 (zs (zs (zs (zs (zs M 25 21 (4 : Int32)) 25 22 (2 : Int32)) 25 23 (-9 : Int32)) 25 24 (0 : Int32)) 25 17 (0 : Int32))) = some (r, M') := h
  refine zw_aload_n C 0 rfl dX12_reads_0 rfl ?_
  refine zw_iconst (v := (4 : Int32)) C dX12_reads_1 ct_i_4 ?_
  refine zw_put (ty := .int) C (by decide) (zc_25 E) rfl zin_X12 tyX12 tyX12_ok nmX12 21 (by decide) gw_3_216 rfl rfl rfl rfl (fun _ _ => Nat.le_of_ble_eq_true rfl) (fun _ _ => rfl) dX12_reads_2 ?_
  refine zw_aload_n C 0 rfl dX12_reads_5 rfl ?_
  refine zw_iconst (v := (2 : Int32)) C dX12_reads_6 ct_i_2 ?_
  refine zw_put (ty := .int) C (by decide) (zc_25 E) rfl zin_X12 tyX12 tyX12_ok nmX12 22 (by decide) gw_3_217 rfl rfl rfl rfl (fun _ _ => Nat.le_of_ble_eq_true rfl) (fun _ _ => rfl) dX12_reads_7 ?_
  refine zw_aload_n C 0 rfl dX12_reads_10 rfl ?_
  refine zw_bipush (v := (-9 : Int32)) C dX12_reads_11 ct_b_m9 ?_
  refine zw_put (ty := .int) C (by decide) (zc_25 E) rfl zin_X12 tyX12 tyX12_ok nmX12 23 (by decide) gw_3_218 rfl rfl rfl rfl (fun _ _ => Nat.le_of_ble_eq_true rfl) (fun _ _ => rfl) dX12_reads_13 ?_
  refine zw_aload_n C 0 rfl dX12_reads_16 rfl ?_
  refine zw_iconst (v := (0 : Int32)) C dX12_reads_17 ct_i_0 ?_
  refine zw_put (ty := .int) C (by decide) (zc_25 E) rfl zin_X12 tyX12 tyX12_ok nmX12 24 (by decide) gw_3_219 rfl rfl rfl rfl (fun _ _ => Nat.le_of_ble_eq_true rfl) (fun _ _ => rfl) dX12_reads_18 ?_
  refine zw_aload_n C 0 rfl dX12_reads_21 rfl ?_
  refine zw_iconst (v := (0 : Int32)) C dX12_reads_22 ct_i_0 ?_
  refine zw_put (ty := .int) C (by decide) (zc_25 E) rfl zin_X12 tyX12 tyX12_ok nmX12 17 (by decide) gw_3_212 rfl rfl rfl rfl (fun _ _ => Nat.le_of_ble_eq_true rfl) (fun _ _ => rfl) dX12_reads_23 ?_
  exact p_X12_reads_26 C h
def f_X12_reads (M : zM) : Option (Int32 × zM) := f_X12_reads_0 M
theorem m_X12_reads {l : Launch} {E : zE} (hI : zI E) {M M' : zM} {r : Int32} (h : f_X12_reads M = some (r, M')) : zMet l E yX12_reads cX12_reads 2 (some .int) 7 [.ref (E.2.1 25)] M M' (some (.int r)) := zm_of hI (by decide) (Nat.le_of_ble_eq_true rfl) (fun X _ C => p_X12_reads_0 C h)
theorem kv_X12_reads : zKV yX12_reads cX12_reads 2 (some .int) 0 := ⟨⟨gw_4_55, gs_17, gw_1_13, gw_4_56⟩, ⟨by decide, by decide, by decide +kernel⟩, by decide⟩
-- WingDoorModel.door()I, 78 instructions, depth 8
def f_X12_door_131 (M : zM) (x1 : Int32) : Option (Int32 × zM) := some (x1, zs M 25 16 (0 : Int32))
set_option maxRecDepth 20000 in
set_option maxHeartbeats 2000000 in
theorem p_X12_door_131 {X : zX} {E : zE} {r : Int32} {M' : zM} (C : zC X E cX12_door 3 RX12 (some .int) 8) {M : zM} {x1 : Int32} (h : f_X12_door_131  M x1 = some (r, M')) : zW X E (zRQ X E (some (.int r)) M') M 131 [(0, .ref (E.2.1 25)), (1, .int x1)] [] := by
  have h : (some (x1, zs M 25 16 (0 : Int32))) = some (r, M') := h
  refine zw_aload_n C 0 rfl dX12_door_131 rfl ?_
  refine zw_iconst (v := (0 : Int32)) C dX12_door_132 ct_i_0 ?_
  refine zw_put (ty := .int) C (by decide) (zc_25 E) rfl zin_X12 tyX12 tyX12_ok nmX12 16 (by decide) gw_3_211 rfl rfl rfl rfl (fun _ _ => Nat.le_of_ble_eq_true rfl) (fun _ _ => rfl) dX12_door_133 ?_
  refine zw_iload_n C 1 rfl dX12_door_136 rfl ?_
  exact zw_ireturnE C h dX12_door_137
def f_X12_door_88 : Nat → zM → Int32 → Int32 → Option (Int32 × zM)
  | 0, _, _, _ => none
  | n + 1, M, x1, x2 => if (47 : Int32) ≤ x2 then (zg (zin (0 : Int32) 2) (zg (zin (1 : Int32) 2) (f_X12_door_131 (zs (zs (zs (zs M 25 9 (0 : Int32)) 25 13 (0 : Int32)) 32 (0 : Int32).toNatClampNeg (0 : Int32)) 32 (1 : Int32).toNatClampNeg (0 : Int32)) x1))) else (zg (zin x2 47) (f_X12_door_88 n (zs M 28 x2.toNatClampNeg (0 : Int32)) x1 (x2 + (1 : Int32))))
set_option maxRecDepth 20000 in
set_option maxHeartbeats 2000000 in
theorem p_X12_door_88 {X : zX} {E : zE} {r : Int32} {M' : zM} (C : zC X E cX12_door 3 RX12 (some .int) 8) : ∀ (n : Nat) (M : zM) (x1 : Int32) (x2 : Int32), f_X12_door_88  n M x1 x2 = some (r, M') → zW X E (zRQ X E (some (.int r)) M') M 88 [(0, .ref (E.2.1 25)), (1, .int x1), (2, .int x2)] [] := by
  intro n
  induction n with
  | zero => intro M x1 x2 h; cases h
  | succ n ih =>
    intro M x1 x2 h
    have h : (if (47 : Int32) ≤ x2 then (zg (zin (0 : Int32) 2) (zg (zin (1 : Int32) 2) (f_X12_door_131 (zs (zs (zs (zs M 25 9 (0 : Int32)) 25 13 (0 : Int32)) 32 (0 : Int32).toNatClampNeg (0 : Int32)) 32 (1 : Int32).toNatClampNeg (0 : Int32)) x1))) else (zg (zin x2 47) (f_X12_door_88 n (zs M 28 x2.toNatClampNeg (0 : Int32)) x1 (x2 + (1 : Int32))))) = some (r, M') := h
    refine zw_iload_n C 2 rfl dX12_door_88 rfl ?_
    refine zw_bipush (v := (47 : Int32)) C dX12_door_89 ct_b_47 ?_
    refine zw_icmp_ge (tgt := 107) C dX12_door_91 (by decide) (fun hb1 => ?_) (fun hb1 => ?_)
    · have h := zt_ hb1 h
      refine zw_aload_n C 0 rfl dX12_door_107 rfl ?_
      refine zw_iconst (v := (0 : Int32)) C dX12_door_108 ct_i_0 ?_
      refine zw_put (ty := .int) C (by decide) (zc_25 E) rfl zin_X12 tyX12 tyX12_ok nmX12 9 (by decide) gw_3_204 rfl rfl rfl rfl (fun _ _ => Nat.le_of_ble_eq_true rfl) (fun _ _ => rfl) dX12_door_109 ?_
      refine zw_aload_n C 0 rfl dX12_door_112 rfl ?_
      refine zw_iconst (v := (0 : Int32)) C dX12_door_113 ct_i_0 ?_
      refine zw_put (ty := .int) C (by decide) (zc_25 E) rfl zin_X12 tyX12 tyX12_ok nmX12 13 (by decide) gw_3_208 rfl rfl rfl rfl (fun _ _ => Nat.le_of_ble_eq_true rfl) (fun _ _ => rfl) dX12_door_114 ?_
      refine zw_aload_n C 0 rfl dX12_door_117 rfl ?_
      refine zw_get (v := .ref (E.2.1 32)) C (by decide) (zc_25 E) rfl zin_X12 11 (by decide) gw_3_206 rfl dX12_door_118 ?_
      refine zw_iconst (v := (0 : Int32)) C dX12_door_121 ct_i_0 ?_
      refine zw_iconst (v := (0 : Int32)) C dX12_door_122 ct_i_0 ?_
      obtain ⟨hi2, h⟩ := zg_e h
      refine zw_zast C zza_32 rfl (zin_e hi2) dX12_door_123 ?_
      refine zw_aload_n C 0 rfl dX12_door_124 rfl ?_
      refine zw_get (v := .ref (E.2.1 32)) C (by decide) (zc_25 E) rfl zin_X12 11 (by decide) gw_3_206 rfl dX12_door_125 ?_
      refine zw_iconst (v := (1 : Int32)) C dX12_door_128 ct_i_1 ?_
      refine zw_iconst (v := (0 : Int32)) C dX12_door_129 ct_i_0 ?_
      obtain ⟨hi3, h⟩ := zg_e h
      refine zw_zast C zza_32 rfl (zin_e hi3) dX12_door_130 ?_
      refine zw_sb [0, 1] rfl ?_
      exact p_X12_door_131 C h
    · have h := zf_ hb1 h
      refine zw_aload_n C 0 rfl dX12_door_94 rfl ?_
      refine zw_get (v := .ref (E.2.1 28)) C (by decide) (zc_25 E) rfl zin_X12 6 (by decide) gw_3_201 rfl dX12_door_95 ?_
      refine zw_iload_n C 2 rfl dX12_door_98 rfl ?_
      refine zw_iconst (v := (0 : Int32)) C dX12_door_99 ct_i_0 ?_
      obtain ⟨hi4, h⟩ := zg_e h
      refine zw_iast C zia_28 (zin_e hi4) dX12_door_100 ?_
      refine zw_iinc (lv' := [(2, .int (x2 + (1 : Int32))), (0, .ref (E.2.1 25)), (1, .int x1)]) C 2 rfl dX12_door_101 (ct_n_1 _) (by decide) rfl ?_
      refine zw_goto (tgt := 88) C dX12_door_104 (by decide) ?_
      refine zw_sb [1, 2, 0] rfl ?_
      exact ih _ _ _ h
def f_X12_door_45 (M : zM) (x1 : Int32) (s0 : Int32) : Option (Int32 × zM) := zbv (f_X12_copies (zs (zs M 25 2 s0) 25 3 ((zs M 25 2 s0).1 25 24)) 35 6 (0 : Int32) 26 6 (0 : Int32) (6 : Int32)) (fun M3 => zbv (f_X12_copies M3 36 6 (0 : Int32) 27 6 (0 : Int32) (6 : Int32)) (fun M6 => f_X12_door_88 zFU M6 x1 (0 : Int32)))
set_option maxRecDepth 20000 in
set_option maxHeartbeats 2000000 in
theorem p_X12_door_45 {X : zX} {E : zE} {r : Int32} {M' : zM} (C : zC X E cX12_door 3 RX12 (some .int) 8) {M : zM} {x1 : Int32} {s0 : Int32} (h : f_X12_door_45  M x1 s0 = some (r, M')) : zW X E (zRQ X E (some (.int r)) M') M 45 [(0, .ref (E.2.1 25)), (1, .int x1)] [.int s0, .ref (E.2.1 25)] := by
  have h : (zbv (f_X12_copies (zs (zs M 25 2 s0) 25 3 ((zs M 25 2 s0).1 25 24)) 35 6 (0 : Int32) 26 6 (0 : Int32) (6 : Int32)) (fun M3 => zbv (f_X12_copies M3 36 6 (0 : Int32) 27 6 (0 : Int32) (6 : Int32)) (fun M6 => f_X12_door_88 zFU M6 x1 (0 : Int32)))) = some (r, M') := h
  refine zw_put (ty := .int) C (by decide) (zc_25 E) rfl zin_X12 tyX12 tyX12_ok nmX12 2 (by decide) gw_3_197 rfl rfl rfl rfl (fun _ _ => Nat.le_of_ble_eq_true rfl) (fun _ _ => rfl) dX12_door_45 ?_
  refine zw_aload_n C 0 rfl dX12_door_48 rfl ?_
  refine zw_aload_n C 0 rfl dX12_door_49 rfl ?_
  refine zw_get (v := .int ((zs M 25 2 s0).1 25 24)) C (by decide) (zc_25 E) rfl zin_X12 24 (by decide) gw_3_219 rfl dX12_door_50 ?_
  refine zw_put (ty := .int) C (by decide) (zc_25 E) rfl zin_X12 tyX12 tyX12_ok nmX12 3 (by decide) gw_3_198 rfl rfl rfl rfl (fun _ _ => Nat.le_of_ble_eq_true rfl) (fun _ _ => rfl) dX12_door_53 ?_
  refine zw_aload_n C 0 rfl dX12_door_56 rfl ?_
  refine zw_get (v := .ref (E.2.1 35)) C (by decide) (zc_25 E) rfl zin_X12 25 (by decide) gw_3_220 rfl dX12_door_57 ?_
  refine zw_iconst (v := (0 : Int32)) C dX12_door_60 ct_i_0 ?_
  refine zw_aload_n C 0 rfl dX12_door_61 rfl ?_
  refine zw_get (v := .ref (E.2.1 26)) C (by decide) (zc_25 E) rfl zin_X12 4 (by decide) gw_3_199 rfl dX12_door_62 ?_
  refine zw_iconst (v := (0 : Int32)) C dX12_door_65 ct_i_0 ?_
  refine zw_bipush (v := (6 : Int32)) C dX12_door_66 ct_b_6 ?_
  obtain ⟨M3, hq1, h⟩ := zbv_e h
  refine zw_callSv (As := [.ref (E.2.1 35), .int (0 : Int32), .ref (E.2.1 26), .int (0 : Int32), .int (6 : Int32)]) (st := []) C (m_X12_copies C.2.2.2.2.2.2.2.1 zia_35 zia_26 hq1) ks_X12_copies gw_4_95 (by decide) rfl rfl (Nat.le_of_ble_eq_true rfl) dX12_door_68 ?_
  refine zw_aload_n C 0 rfl dX12_door_71 rfl ?_
  refine zw_get (v := .ref (E.2.1 36)) C (by decide) (zc_25 E) rfl zin_X12 26 (by decide) gw_3_221 rfl dX12_door_72 ?_
  refine zw_iconst (v := (0 : Int32)) C dX12_door_75 ct_i_0 ?_
  refine zw_aload_n C 0 rfl dX12_door_76 rfl ?_
  refine zw_get (v := .ref (E.2.1 27)) C (by decide) (zc_25 E) rfl zin_X12 5 (by decide) gw_3_200 rfl dX12_door_77 ?_
  refine zw_iconst (v := (0 : Int32)) C dX12_door_80 ct_i_0 ?_
  refine zw_bipush (v := (6 : Int32)) C dX12_door_81 ct_b_6 ?_
  obtain ⟨M6, hq4, h⟩ := zbv_e h
  refine zw_callSv (As := [.ref (E.2.1 36), .int (0 : Int32), .ref (E.2.1 27), .int (0 : Int32), .int (6 : Int32)]) (st := []) C (m_X12_copies C.2.2.2.2.2.2.2.1 zia_36 zia_27 hq4) ks_X12_copies gw_4_95 (by decide) rfl rfl (Nat.le_of_ble_eq_true rfl) dX12_door_83 ?_
  refine zw_iconst (v := (0 : Int32)) C dX12_door_86 ct_i_0 ?_
  refine zw_istore_n (lv' := [(2, .int (0 : Int32)), (0, .ref (E.2.1 25)), (1, .int x1)]) C dX12_door_87 rfl (by decide) rfl ?_
  refine zw_sb [1, 2, 0] rfl ?_
  exact p_X12_door_88 C zFU _ _ _ h
def f_X12_door_0 (M : zM) : Option (Int32 × zM) := zbi (f_X12_reads M) (fun r2 M3 => if 0 ≤ r2 then (if ((zs (zs M3 25 0 (M3.1 25 21)) 25 1 ((zs M3 25 0 (M3.1 25 21)).1 25 22)).1 25 23) = (-9 : Int32) then (f_X12_door_45 (zs (zs M3 25 0 (M3.1 25 21)) 25 1 ((zs M3 25 0 (M3.1 25 21)).1 25 22)) r2 (3 : Int32)) else (f_X12_door_45 (zs (zs M3 25 0 (M3.1 25 21)) 25 1 ((zs M3 25 0 (M3.1 25 21)).1 25 22)) r2 ((zs (zs M3 25 0 (M3.1 25 21)) 25 1 ((zs M3 25 0 (M3.1 25 21)).1 25 22)).1 25 23))) else (some (r2, M3)))
set_option maxRecDepth 20000 in
set_option maxHeartbeats 2000000 in
theorem p_X12_door_0 {X : zX} {E : zE} {r : Int32} {M' : zM} (C : zC X E cX12_door 3 RX12 (some .int) 8) {M : zM} (h : f_X12_door_0  M = some (r, M')) : zW X E (zRQ X E (some (.int r)) M') M 0 [(0, .ref (E.2.1 25))] [] := by
  have h : (zbi (f_X12_reads M) (fun r2 M3 => if 0 ≤ r2 then (if ((zs (zs M3 25 0 (M3.1 25 21)) 25 1 ((zs M3 25 0 (M3.1 25 21)).1 25 22)).1 25 23) = (-9 : Int32) then (f_X12_door_45 (zs (zs M3 25 0 (M3.1 25 21)) 25 1 ((zs M3 25 0 (M3.1 25 21)).1 25 22)) r2 (3 : Int32)) else (f_X12_door_45 (zs (zs M3 25 0 (M3.1 25 21)) 25 1 ((zs M3 25 0 (M3.1 25 21)).1 25 22)) r2 ((zs (zs M3 25 0 (M3.1 25 21)) 25 1 ((zs M3 25 0 (M3.1 25 21)).1 25 22)).1 25 23))) else (some (r2, M3)))) = some (r, M') := h
  refine zw_aload_n C 0 rfl dX12_door_0 rfl ?_
  obtain ⟨r2, M3, hq1, h⟩ := zbi_e h
  refine zw_callVi (As := []) (st := []) C (m_X12_reads C.2.2.2.2.2.2.2.1 hq1) kv_X12_reads gw_4_53 (by decide) (by decide) (zc_25 E) rfl rfl rfl rfl (Nat.le_of_ble_eq_true rfl) dX12_door_1 ?_
  refine zw_istore_n (lv' := [(1, .int r2), (0, .ref (E.2.1 25))]) C dX12_door_4 rfl (by decide) rfl ?_
  refine zw_iload_n C 0 rfl dX12_door_5 rfl ?_
  refine zw_if_ge (tgt := 11) C dX12_door_6 (by decide) (fun hb4 => ?_) (fun hb4 => ?_)
  · have h := zt_ hb4 h
    refine zw_aload_n C 1 rfl dX12_door_11 rfl ?_
    refine zw_aload_n C 1 rfl dX12_door_12 rfl ?_
    refine zw_get (v := .int (M3.1 25 21)) C (by decide) (zc_25 E) rfl zin_X12 21 (by decide) gw_3_216 rfl dX12_door_13 ?_
    refine zw_put (ty := .int) C (by decide) (zc_25 E) rfl zin_X12 tyX12 tyX12_ok nmX12 0 (by decide) gw_3_195 rfl rfl rfl rfl (fun _ _ => Nat.le_of_ble_eq_true rfl) (fun _ _ => rfl) dX12_door_16 ?_
    refine zw_aload_n C 1 rfl dX12_door_19 rfl ?_
    refine zw_aload_n C 1 rfl dX12_door_20 rfl ?_
    refine zw_get (v := .int ((zs M3 25 0 (M3.1 25 21)).1 25 22)) C (by decide) (zc_25 E) rfl zin_X12 22 (by decide) gw_3_217 rfl dX12_door_21 ?_
    refine zw_put (ty := .int) C (by decide) (zc_25 E) rfl zin_X12 tyX12 tyX12_ok nmX12 1 (by decide) gw_3_196 rfl rfl rfl rfl (fun _ _ => Nat.le_of_ble_eq_true rfl) (fun _ _ => rfl) dX12_door_24 ?_
    refine zw_aload_n C 1 rfl dX12_door_27 rfl ?_
    refine zw_aload_n C 1 rfl dX12_door_28 rfl ?_
    refine zw_get (v := .int ((zs (zs M3 25 0 (M3.1 25 21)) 25 1 ((zs M3 25 0 (M3.1 25 21)).1 25 22)).1 25 23)) C (by decide) (zc_25 E) rfl zin_X12 23 (by decide) gw_3_218 rfl dX12_door_29 ?_
    refine zw_bipush (v := (-9 : Int32)) C dX12_door_32 ct_b_m9 ?_
    refine zw_icmp_ne (tgt := 41) C dX12_door_34 (by decide) (fun hb5 => ?_) (fun hb5 => ?_)
    · have h := zt_ hb5 h
      refine zw_iconst (v := (3 : Int32)) C dX12_door_37 ct_i_3 ?_
      refine zw_goto (tgt := 45) C dX12_door_38 (by decide) ?_
      refine zw_sb [1, 0] rfl ?_
      exact p_X12_door_45 C h
    · have h := zf_ hb5 h
      refine zw_aload_n C 1 rfl dX12_door_41 rfl ?_
      refine zw_get (v := .int ((zs (zs M3 25 0 (M3.1 25 21)) 25 1 ((zs M3 25 0 (M3.1 25 21)).1 25 22)).1 25 23)) C (by decide) (zc_25 E) rfl zin_X12 23 (by decide) gw_3_218 rfl dX12_door_42 ?_
      refine zw_sb [1, 0] rfl ?_
      exact p_X12_door_45 C h
  · have h := zf_ hb4 h
    refine zw_iload_n C 0 rfl dX12_door_9 rfl ?_
    exact zw_ireturnE C h dX12_door_10
def f_X12_door (M : zM) : Option (Int32 × zM) := f_X12_door_0 M
theorem m_X12_door {l : Launch} {E : zE} (hI : zI E) {M M' : zM} {r : Int32} (h : f_X12_door M = some (r, M')) : zMet l E yX12_door cX12_door 3 (some .int) 8 [.ref (E.2.1 25)] M M' (some (.int r)) := zm_of hI (by decide) (Nat.le_of_ble_eq_true rfl) (fun X _ C => p_X12_door_0 C h)
theorem kv_X12_door : zKV yX12_door cX12_door 3 (some .int) 0 := ⟨⟨gw_4_50, gw_4_51, gw_1_13, gw_4_52⟩, ⟨by decide, by decide, by decide +kernel⟩, by decide⟩
-- WingDoorModel.isBit(I)Z, 6 instructions, depth 1
def f_X12_isBit_0 (x0 : Int32) (M : zM) : Option (Int32 × zM) := zbi (f_X12_in M (x0.toInt64) (0 : Int64) (1 : Int64)) (fun r2 M3 => zg (zbo r2) (some (r2, M3)))
set_option maxRecDepth 20000 in
set_option maxHeartbeats 2000000 in
theorem p_X12_isBit_0 {X : zX} {E : zE} {x0 : Int32} {r : Int32} {M' : zM} (C : zC X E cX12_isBit 1 RX12 (some .boolean) 1) {M : zM} (h : f_X12_isBit_0 x0 M = some (r, M')) : zW X E (zRQ X E (some (.int r)) M') M 0 [(0, .int x0)] [] := by
  have h : (zbi (f_X12_in M (x0.toInt64) (0 : Int64) (1 : Int64)) (fun r2 M3 => zg (zbo r2) (some (r2, M3)))) = some (r, M') := h
  refine zw_iload_n C 0 rfl dX12_isBit_0 rfl ?_
  refine zw_i2l C dX12_isBit_1 ?_
  refine zw_lconst (v := (0 : Int64)) C dX12_isBit_2 rfl ?_
  refine zw_lconst (v := (1 : Int64)) C dX12_isBit_3 rfl ?_
  obtain ⟨r2, M3, hq1, h⟩ := zbi_e h
  refine zw_callSi (As := [.long (x0.toInt64), .long (0 : Int64), .long (1 : Int64)]) (st := []) C (m_X12_in C.2.2.2.2.2.2.2.1 hq1) ks_X12_in gw_4_42 (by decide) rfl rfl (Nat.le_of_ble_eq_true rfl) dX12_isBit_4 ?_
  obtain ⟨hz4, h⟩ := zg_e h
  exact zw_zreturnE C (zbo_e hz4) h dX12_isBit_7
def f_X12_isBit (M : zM) (x0 : Int32) : Option (Int32 × zM) := f_X12_isBit_0 x0 M
theorem m_X12_isBit {l : Launch} {E : zE} (hI : zI E) {M M' : zM} {x0 : Int32} {r : Int32} (h : f_X12_isBit M x0 = some (r, M')) : zMet l E yX12_isBit cX12_isBit 1 (some .boolean) 1 [.int x0] M M' (some (.int r)) := zm_of hI (by decide) (Nat.le_of_ble_eq_true rfl) (fun X _ C => p_X12_isBit_0 C h)
theorem ks_X12_isBit : zKS yX12_isBit cX12_isBit 1 (some .boolean) 1 := ⟨⟨gw_4_177, gw_1_13, gw_4_178⟩, ⟨by decide, by decide, by decide +kernel⟩, by decide⟩
-- WingDoorModel.isGoer(I)Z, 12 instructions, depth 1
def f_X12_isGoer_0 (x1 : Int32) (M : zM) : Option (Int32 × zM) := zg (zin (0 : Int32) 47) (zbi (f_X12_in M (x1.toInt64) (0 : Int64) (((M.1 28 (0 : Int32).toNatClampNeg) - (1 : Int32)).toInt64)) (fun r3 M4 => zg (zbo r3) (some (r3, M4))))
set_option maxRecDepth 20000 in
set_option maxHeartbeats 2000000 in
theorem p_X12_isGoer_0 {X : zX} {E : zE} {x1 : Int32} {r : Int32} {M' : zM} (C : zC X E cX12_isGoer 2 RX12 (some .boolean) 1) {M : zM} (h : f_X12_isGoer_0 x1 M = some (r, M')) : zW X E (zRQ X E (some (.int r)) M') M 0 [(0, .ref (E.2.1 25)), (1, .int x1)] [] := by
  have h : (zg (zin (0 : Int32) 47) (zbi (f_X12_in M (x1.toInt64) (0 : Int64) (((M.1 28 (0 : Int32).toNatClampNeg) - (1 : Int32)).toInt64)) (fun r3 M4 => zg (zbo r3) (some (r3, M4))))) = some (r, M') := h
  refine zw_iload_n C 1 rfl dX12_isGoer_0 rfl ?_
  refine zw_i2l C dX12_isGoer_1 ?_
  refine zw_lconst (v := (0 : Int64)) C dX12_isGoer_2 rfl ?_
  refine zw_aload_n C 0 rfl dX12_isGoer_3 rfl ?_
  refine zw_get (v := .ref (E.2.1 28)) C (by decide) (zc_25 E) rfl zin_X12 6 (by decide) gw_3_201 rfl dX12_isGoer_4 ?_
  refine zw_iconst (v := (0 : Int32)) C dX12_isGoer_7 ct_i_0 ?_
  obtain ⟨hi1, h⟩ := zg_e h
  refine zw_iald C zia_28 (zin_e hi1) dX12_isGoer_8 ?_
  refine zw_iconst (v := (1 : Int32)) C dX12_isGoer_9 ct_i_1 ?_
  refine zw_isub C dX12_isGoer_10 ?_
  refine zw_i2l C dX12_isGoer_11 ?_
  obtain ⟨r3, M4, hq2, h⟩ := zbi_e h
  refine zw_callSi (As := [.long (x1.toInt64), .long (0 : Int64), .long (((M.1 28 (0 : Int32).toNatClampNeg) - (1 : Int32)).toInt64)]) (st := []) C (m_X12_in C.2.2.2.2.2.2.2.1 hq2) ks_X12_in gw_4_42 (by decide) rfl rfl (Nat.le_of_ble_eq_true rfl) dX12_isGoer_12 ?_
  obtain ⟨hz5, h⟩ := zg_e h
  exact zw_zreturnE C (zbo_e hz5) h dX12_isGoer_15
def f_X12_isGoer (M : zM) (x1 : Int32) : Option (Int32 × zM) := f_X12_isGoer_0 x1 M
theorem m_X12_isGoer {l : Launch} {E : zE} (hI : zI E) {M M' : zM} {x1 : Int32} {r : Int32} (h : f_X12_isGoer M x1 = some (r, M')) : zMet l E yX12_isGoer cX12_isGoer 2 (some .boolean) 1 [.ref (E.2.1 25), .int x1] M M' (some (.int r)) := zm_of hI (by decide) (Nat.le_of_ble_eq_true rfl) (fun X _ C => p_X12_isGoer_0 C h)
theorem kv_X12_isGoer : zKV yX12_isGoer cX12_isGoer 2 (some .boolean) 1 := ⟨⟨gw_4_108, gs_27, gw_1_13, gw_4_109⟩, ⟨by decide, by decide, by decide +kernel⟩, by decide⟩
-- WingDoorModel.bulkOf([II)I, 9 instructions, depth 0
def f_X12_bulkOf_0 (p1 : Nat) (x2 : Int32) (M : zM) : Option (Int32 × zM) := zg (zin ((2 : Int32) + x2) 47) (zg (zin (M.1 p1 ((2 : Int32) + x2).toNatClampNeg) 6) (some (M.1 26 (M.1 p1 ((2 : Int32) + x2).toNatClampNeg).toNatClampNeg, M)))
set_option maxRecDepth 20000 in
set_option maxHeartbeats 2000000 in
theorem p_X12_bulkOf_0 {X : zX} {E : zE} {p1 : Nat} {x2 : Int32} {r : Int32} {M' : zM} (C : zC X E cX12_bulkOf 3 RX12 (some .int) 0) (hp1 : zia p1 47) {M : zM} (h : f_X12_bulkOf_0 p1 x2 M = some (r, M')) : zW X E (zRQ X E (some (.int r)) M') M 0 [(0, .ref (E.2.1 25)), (1, .ref (E.2.1 p1)), (2, .int x2)] [] := by
  have h : (zg (zin ((2 : Int32) + x2) 47) (zg (zin (M.1 p1 ((2 : Int32) + x2).toNatClampNeg) 6) (some (M.1 26 (M.1 p1 ((2 : Int32) + x2).toNatClampNeg).toNatClampNeg, M)))) = some (r, M') := h
  refine zw_aload_n C 0 rfl dX12_bulkOf_0 rfl ?_
  refine zw_get (v := .ref (E.2.1 26)) C (by decide) (zc_25 E) rfl zin_X12 4 (by decide) gw_3_199 rfl dX12_bulkOf_1 ?_
  refine zw_aload_n C 1 rfl dX12_bulkOf_4 rfl ?_
  refine zw_iconst (v := (2 : Int32)) C dX12_bulkOf_5 ct_i_2 ?_
  refine zw_iload_n C 2 rfl dX12_bulkOf_6 rfl ?_
  refine zw_iadd C dX12_bulkOf_7 ?_
  obtain ⟨hi1, h⟩ := zg_e h
  refine zw_iald C hp1 (zin_e hi1) dX12_bulkOf_8 ?_
  obtain ⟨hi2, h⟩ := zg_e h
  refine zw_iald C zia_26 (zin_e hi2) dX12_bulkOf_9 ?_
  exact zw_ireturnE C h dX12_bulkOf_10
def f_X12_bulkOf (M : zM) (p1 : Nat) (x2 : Int32) : Option (Int32 × zM) := f_X12_bulkOf_0 p1 x2 M
theorem m_X12_bulkOf {l : Launch} {E : zE} (hI : zI E) {M M' : zM} {p1 : Nat} {x2 : Int32} {r : Int32} (hp1 : zia p1 47) (h : f_X12_bulkOf M p1 x2 = some (r, M')) : zMet l E yX12_bulkOf cX12_bulkOf 3 (some .int) 0 [.ref (E.2.1 25), .ref (E.2.1 p1), .int x2] M M' (some (.int r)) := zm_of hI (by decide) (Nat.le_of_ble_eq_true rfl) (fun X _ C => p_X12_bulkOf_0 C hp1 h)
theorem kv_X12_bulkOf : zKV yX12_bulkOf cX12_bulkOf 3 (some .int) 2 := ⟨⟨gw_4_170, gs_38, gw_1_13, gw_4_171⟩, ⟨by decide, by decide, by decide +kernel⟩, by decide⟩
-- WingDoorModel.those([II)I, 28 instructions, depth 0
def f_X12_those_29 (p0 : Nat) (x1 : Int32) (k4 : zM → Int32 → Int32 → Option (Int32 × zM)) (M : zM) (x3 : Int32) (s0 : Int32) (s1 : Int32) : Option (Int32 × zM) := k4 M (s1 ||| s0) (x3 + (1 : Int32))
set_option maxRecDepth 20000 in
set_option maxHeartbeats 2000000 in
theorem p_X12_those_29 {X : zX} {E : zE} {p0 : Nat} {x1 : Int32} {r : Int32} {M' : zM} {k4 : zM → Int32 → Int32 → Option (Int32 × zM)} (C : zC X E cX12_those 4 RX12 (some .int) 0) (hp0 : zia p0 47) (hk4 : ∀ (M : zM) (y2 : Int32) (y3 : Int32), k4 M y2 y3 = some (r, M') → zW X E (zRQ X E (some (.int r)) M') M 4 [(0, .ref (E.2.1 p0)), (1, .int x1), (2, .int y2), (3, .int y3)] []) {M : zM} {x3 : Int32} {s0 : Int32} {s1 : Int32} (h : f_X12_those_29 p0 x1 k4 M x3 s0 s1 = some (r, M')) : zW X E (zRQ X E (some (.int r)) M') M 29 [(0, .ref (E.2.1 p0)), (1, .int x1), (3, .int x3)] [.int s0, .int s1] := by
  have h : (k4 M (s1 ||| s0) (x3 + (1 : Int32))) = some (r, M') := h
  refine zw_ior C dX12_those_29 ?_
  refine zw_istore_n (lv' := [(2, .int (s1 ||| s0)), (0, .ref (E.2.1 p0)), (1, .int x1), (3, .int x3)]) C dX12_those_30 rfl (by decide) rfl ?_
  refine zw_iinc (lv' := [(3, .int (x3 + (1 : Int32))), (2, .int (s1 ||| s0)), (0, .ref (E.2.1 p0)), (1, .int x1)]) C 3 rfl dX12_those_31 (ct_n_1 _) (by decide) rfl ?_
  refine zw_goto (tgt := 4) C dX12_those_34 (by decide) ?_
  refine zw_sb [2, 3, 1, 0] rfl ?_
  exact hk4 _ _ _ h
def f_X12_those_4 (p0 : Nat) (x1 : Int32) : Nat → zM → Int32 → Int32 → Option (Int32 × zM)
  | 0, _, _, _ => none
  | n + 1, M, x2, x3 => zg (zin (0 : Int32) 47) (if (M.1 p0 (0 : Int32).toNatClampNeg) ≤ x3 then (some (x2, M)) else (zg (zin ((20 : Int32) + x3) 47) (if (M.1 p0 ((20 : Int32) + x3).toNatClampNeg) = x1 then (f_X12_those_29 p0 x1 (f_X12_those_4 p0 x1 n) M x3 ((1 : Int32) <<< (x3 &&& 31)) x2) else (f_X12_those_29 p0 x1 (f_X12_those_4 p0 x1 n) M x3 (0 : Int32) x2))))
set_option maxRecDepth 20000 in
set_option maxHeartbeats 2000000 in
theorem p_X12_those_4 {X : zX} {E : zE} {p0 : Nat} {x1 : Int32} {r : Int32} {M' : zM} (C : zC X E cX12_those 4 RX12 (some .int) 0) (hp0 : zia p0 47) : ∀ (n : Nat) (M : zM) (x2 : Int32) (x3 : Int32), f_X12_those_4 p0 x1 n M x2 x3 = some (r, M') → zW X E (zRQ X E (some (.int r)) M') M 4 [(0, .ref (E.2.1 p0)), (1, .int x1), (2, .int x2), (3, .int x3)] [] := by
  intro n
  induction n with
  | zero => intro M x2 x3 h; cases h
  | succ n ih =>
    intro M x2 x3 h
    have h : (zg (zin (0 : Int32) 47) (if (M.1 p0 (0 : Int32).toNatClampNeg) ≤ x3 then (some (x2, M)) else (zg (zin ((20 : Int32) + x3) 47) (if (M.1 p0 ((20 : Int32) + x3).toNatClampNeg) = x1 then (f_X12_those_29 p0 x1 (f_X12_those_4 p0 x1 n) M x3 ((1 : Int32) <<< (x3 &&& 31)) x2) else (f_X12_those_29 p0 x1 (f_X12_those_4 p0 x1 n) M x3 (0 : Int32) x2))))) = some (r, M') := h
    refine zw_iload_n C 3 rfl dX12_those_4 rfl ?_
    refine zw_aload_n C 0 rfl dX12_those_5 rfl ?_
    refine zw_iconst (v := (0 : Int32)) C dX12_those_6 ct_i_0 ?_
    obtain ⟨hi1, h⟩ := zg_e h
    refine zw_iald C hp0 (zin_e hi1) dX12_those_7 ?_
    refine zw_icmp_ge (tgt := 37) C dX12_those_8 (by decide) (fun hb2 => ?_) (fun hb2 => ?_)
    · have h := zt_ hb2 h
      refine zw_iload_n C 2 rfl dX12_those_37 rfl ?_
      exact zw_ireturnE C h dX12_those_38
    · have h := zf_ hb2 h
      refine zw_iload_n C 2 rfl dX12_those_11 rfl ?_
      refine zw_aload_n C 0 rfl dX12_those_12 rfl ?_
      refine zw_bipush (v := (20 : Int32)) C dX12_those_13 ct_b_20 ?_
      refine zw_iload_n C 3 rfl dX12_those_15 rfl ?_
      refine zw_iadd C dX12_those_16 ?_
      obtain ⟨hi3, h⟩ := zg_e h
      refine zw_iald C hp0 (zin_e hi3) dX12_those_17 ?_
      refine zw_iload_n C 1 rfl dX12_those_18 rfl ?_
      refine zw_icmp_ne (tgt := 28) C dX12_those_19 (by decide) (fun hb4 => ?_) (fun hb4 => ?_)
      · have h := zt_ hb4 h
        refine zw_iconst (v := (1 : Int32)) C dX12_those_22 ct_i_1 ?_
        refine zw_iload_n C 3 rfl dX12_those_23 rfl ?_
        refine zw_ishl C dX12_those_24 ?_
        refine zw_goto (tgt := 29) C dX12_those_25 (by decide) ?_
        refine zw_sb [0, 1, 3] rfl ?_
        exact p_X12_those_29 C hp0 (fun _ _ _ h => ih _ _ _ h) h
      · have h := zf_ hb4 h
        refine zw_iconst (v := (0 : Int32)) C dX12_those_28 ct_i_0 ?_
        refine zw_sb [0, 1, 3] rfl ?_
        exact p_X12_those_29 C hp0 (fun _ _ _ h => ih _ _ _ h) h
def f_X12_those_0 (p0 : Nat) (x1 : Int32) (M : zM) : Option (Int32 × zM) := f_X12_those_4 p0 x1 zFU M (0 : Int32) (0 : Int32)
set_option maxRecDepth 20000 in
set_option maxHeartbeats 2000000 in
theorem p_X12_those_0 {X : zX} {E : zE} {p0 : Nat} {x1 : Int32} {r : Int32} {M' : zM} (C : zC X E cX12_those 4 RX12 (some .int) 0) (hp0 : zia p0 47) {M : zM} (h : f_X12_those_0 p0 x1 M = some (r, M')) : zW X E (zRQ X E (some (.int r)) M') M 0 [(0, .ref (E.2.1 p0)), (1, .int x1)] [] := by
  have h : (f_X12_those_4 p0 x1 zFU M (0 : Int32) (0 : Int32)) = some (r, M') := h
  refine zw_iconst (v := (0 : Int32)) C dX12_those_0 ct_i_0 ?_
  refine zw_istore_n (lv' := [(2, .int (0 : Int32)), (0, .ref (E.2.1 p0)), (1, .int x1)]) C dX12_those_1 rfl (by decide) rfl ?_
  refine zw_iconst (v := (0 : Int32)) C dX12_those_2 ct_i_0 ?_
  refine zw_istore_n (lv' := [(3, .int (0 : Int32)), (2, .int (0 : Int32)), (0, .ref (E.2.1 p0)), (1, .int x1)]) C dX12_those_3 rfl (by decide) rfl ?_
  refine zw_sb [2, 3, 1, 0] rfl ?_
  exact p_X12_those_4 C hp0 zFU _ _ _ h
def f_X12_those (M : zM) (p0 : Nat) (x1 : Int32) : Option (Int32 × zM) := f_X12_those_0 p0 x1 M
theorem m_X12_those {l : Launch} {E : zE} (hI : zI E) {M M' : zM} {p0 : Nat} {x1 : Int32} {r : Int32} (hp0 : zia p0 47) (h : f_X12_those M p0 x1 = some (r, M')) : zMet l E yX12_those cX12_those 4 (some .int) 0 [.ref (E.2.1 p0), .int x1] M M' (some (.int r)) := zm_of hI (by decide) (Nat.le_of_ble_eq_true rfl) (fun X _ C => p_X12_those_0 C hp0 h)
theorem ks_X12_those : zKS yX12_those cX12_those 4 (some .int) 2 := ⟨⟨gw_4_134, gw_1_13, gw_4_135⟩, ⟨by decide, by decide, by decide +kernel⟩, by decide⟩
-- WingDoorModel.inRoom([II)I, 35 instructions, depth 0
def f_X12_inRoom_39 (p0 : Nat) (x1 : Int32) (k4 : zM → Int32 → Int32 → Option (Int32 × zM)) (M : zM) (x3 : Int32) (s0 : Int32) (s1 : Int32) : Option (Int32 × zM) := k4 M (s1 ||| s0) (x3 + (1 : Int32))
set_option maxRecDepth 20000 in
set_option maxHeartbeats 2000000 in
theorem p_X12_inRoom_39 {X : zX} {E : zE} {p0 : Nat} {x1 : Int32} {r : Int32} {M' : zM} {k4 : zM → Int32 → Int32 → Option (Int32 × zM)} (C : zC X E cX12_inRoom 4 RX12 (some .int) 0) (hp0 : zia p0 47) (hk4 : ∀ (M : zM) (y2 : Int32) (y3 : Int32), k4 M y2 y3 = some (r, M') → zW X E (zRQ X E (some (.int r)) M') M 4 [(0, .ref (E.2.1 p0)), (1, .int x1), (2, .int y2), (3, .int y3)] []) {M : zM} {x3 : Int32} {s0 : Int32} {s1 : Int32} (h : f_X12_inRoom_39 p0 x1 k4 M x3 s0 s1 = some (r, M')) : zW X E (zRQ X E (some (.int r)) M') M 39 [(0, .ref (E.2.1 p0)), (1, .int x1), (3, .int x3)] [.int s0, .int s1] := by
  have h : (k4 M (s1 ||| s0) (x3 + (1 : Int32))) = some (r, M') := h
  refine zw_ior C dX12_inRoom_39 ?_
  refine zw_istore_n (lv' := [(2, .int (s1 ||| s0)), (0, .ref (E.2.1 p0)), (1, .int x1), (3, .int x3)]) C dX12_inRoom_40 rfl (by decide) rfl ?_
  refine zw_iinc (lv' := [(3, .int (x3 + (1 : Int32))), (2, .int (s1 ||| s0)), (0, .ref (E.2.1 p0)), (1, .int x1)]) C 3 rfl dX12_inRoom_41 (ct_n_1 _) (by decide) rfl ?_
  refine zw_goto (tgt := 4) C dX12_inRoom_44 (by decide) ?_
  refine zw_sb [2, 3, 1, 0] rfl ?_
  exact hk4 _ _ _ h
def f_X12_inRoom_4 (p0 : Nat) (x1 : Int32) : Nat → zM → Int32 → Int32 → Option (Int32 × zM)
  | 0, _, _, _ => none
  | n + 1, M, x2, x3 => zg (zin (0 : Int32) 47) (if (M.1 p0 (0 : Int32).toNatClampNeg) ≤ x3 then (some (x2, M)) else (zg (zin ((20 : Int32) + x3) 47) (if (M.1 p0 ((20 : Int32) + x3).toNatClampNeg) = (1 : Int32) then (zg (zin ((29 : Int32) + x3) 47) (if (M.1 p0 ((29 : Int32) + x3).toNatClampNeg) = x1 then (f_X12_inRoom_39 p0 x1 (f_X12_inRoom_4 p0 x1 n) M x3 ((1 : Int32) <<< (x3 &&& 31)) x2) else (f_X12_inRoom_39 p0 x1 (f_X12_inRoom_4 p0 x1 n) M x3 (0 : Int32) x2))) else (f_X12_inRoom_39 p0 x1 (f_X12_inRoom_4 p0 x1 n) M x3 (0 : Int32) x2))))
set_option maxRecDepth 20000 in
set_option maxHeartbeats 2000000 in
theorem p_X12_inRoom_4 {X : zX} {E : zE} {p0 : Nat} {x1 : Int32} {r : Int32} {M' : zM} (C : zC X E cX12_inRoom 4 RX12 (some .int) 0) (hp0 : zia p0 47) : ∀ (n : Nat) (M : zM) (x2 : Int32) (x3 : Int32), f_X12_inRoom_4 p0 x1 n M x2 x3 = some (r, M') → zW X E (zRQ X E (some (.int r)) M') M 4 [(0, .ref (E.2.1 p0)), (1, .int x1), (2, .int x2), (3, .int x3)] [] := by
  intro n
  induction n with
  | zero => intro M x2 x3 h; cases h
  | succ n ih =>
    intro M x2 x3 h
    have h : (zg (zin (0 : Int32) 47) (if (M.1 p0 (0 : Int32).toNatClampNeg) ≤ x3 then (some (x2, M)) else (zg (zin ((20 : Int32) + x3) 47) (if (M.1 p0 ((20 : Int32) + x3).toNatClampNeg) = (1 : Int32) then (zg (zin ((29 : Int32) + x3) 47) (if (M.1 p0 ((29 : Int32) + x3).toNatClampNeg) = x1 then (f_X12_inRoom_39 p0 x1 (f_X12_inRoom_4 p0 x1 n) M x3 ((1 : Int32) <<< (x3 &&& 31)) x2) else (f_X12_inRoom_39 p0 x1 (f_X12_inRoom_4 p0 x1 n) M x3 (0 : Int32) x2))) else (f_X12_inRoom_39 p0 x1 (f_X12_inRoom_4 p0 x1 n) M x3 (0 : Int32) x2))))) = some (r, M') := h
    refine zw_iload_n C 3 rfl dX12_inRoom_4 rfl ?_
    refine zw_aload_n C 0 rfl dX12_inRoom_5 rfl ?_
    refine zw_iconst (v := (0 : Int32)) C dX12_inRoom_6 ct_i_0 ?_
    obtain ⟨hi1, h⟩ := zg_e h
    refine zw_iald C hp0 (zin_e hi1) dX12_inRoom_7 ?_
    refine zw_icmp_ge (tgt := 47) C dX12_inRoom_8 (by decide) (fun hb2 => ?_) (fun hb2 => ?_)
    · have h := zt_ hb2 h
      refine zw_iload_n C 2 rfl dX12_inRoom_47 rfl ?_
      exact zw_ireturnE C h dX12_inRoom_48
    · have h := zf_ hb2 h
      refine zw_iload_n C 2 rfl dX12_inRoom_11 rfl ?_
      refine zw_aload_n C 0 rfl dX12_inRoom_12 rfl ?_
      refine zw_bipush (v := (20 : Int32)) C dX12_inRoom_13 ct_b_20 ?_
      refine zw_iload_n C 3 rfl dX12_inRoom_15 rfl ?_
      refine zw_iadd C dX12_inRoom_16 ?_
      obtain ⟨hi3, h⟩ := zg_e h
      refine zw_iald C hp0 (zin_e hi3) dX12_inRoom_17 ?_
      refine zw_iconst (v := (1 : Int32)) C dX12_inRoom_18 ct_i_1 ?_
      refine zw_icmp_ne (tgt := 38) C dX12_inRoom_19 (by decide) (fun hb4 => ?_) (fun hb4 => ?_)
      · have h := zt_ hb4 h
        refine zw_aload_n C 0 rfl dX12_inRoom_22 rfl ?_
        refine zw_bipush (v := (29 : Int32)) C dX12_inRoom_23 ct_b_29 ?_
        refine zw_iload_n C 3 rfl dX12_inRoom_25 rfl ?_
        refine zw_iadd C dX12_inRoom_26 ?_
        obtain ⟨hi5, h⟩ := zg_e h
        refine zw_iald C hp0 (zin_e hi5) dX12_inRoom_27 ?_
        refine zw_iload_n C 1 rfl dX12_inRoom_28 rfl ?_
        refine zw_icmp_ne (tgt := 38) C dX12_inRoom_29 (by decide) (fun hb6 => ?_) (fun hb6 => ?_)
        · have h := zt_ hb6 h
          refine zw_iconst (v := (1 : Int32)) C dX12_inRoom_32 ct_i_1 ?_
          refine zw_iload_n C 3 rfl dX12_inRoom_33 rfl ?_
          refine zw_ishl C dX12_inRoom_34 ?_
          refine zw_goto (tgt := 39) C dX12_inRoom_35 (by decide) ?_
          refine zw_sb [0, 1, 3] rfl ?_
          exact p_X12_inRoom_39 C hp0 (fun _ _ _ h => ih _ _ _ h) h
        · have h := zf_ hb6 h
          refine zw_iconst (v := (0 : Int32)) C dX12_inRoom_38 ct_i_0 ?_
          refine zw_sb [0, 1, 3] rfl ?_
          exact p_X12_inRoom_39 C hp0 (fun _ _ _ h => ih _ _ _ h) h
      · have h := zf_ hb4 h
        refine zw_iconst (v := (0 : Int32)) C dX12_inRoom_38 ct_i_0 ?_
        refine zw_sb [0, 1, 3] rfl ?_
        exact p_X12_inRoom_39 C hp0 (fun _ _ _ h => ih _ _ _ h) h
def f_X12_inRoom_0 (p0 : Nat) (x1 : Int32) (M : zM) : Option (Int32 × zM) := f_X12_inRoom_4 p0 x1 zFU M (0 : Int32) (0 : Int32)
set_option maxRecDepth 20000 in
set_option maxHeartbeats 2000000 in
theorem p_X12_inRoom_0 {X : zX} {E : zE} {p0 : Nat} {x1 : Int32} {r : Int32} {M' : zM} (C : zC X E cX12_inRoom 4 RX12 (some .int) 0) (hp0 : zia p0 47) {M : zM} (h : f_X12_inRoom_0 p0 x1 M = some (r, M')) : zW X E (zRQ X E (some (.int r)) M') M 0 [(0, .ref (E.2.1 p0)), (1, .int x1)] [] := by
  have h : (f_X12_inRoom_4 p0 x1 zFU M (0 : Int32) (0 : Int32)) = some (r, M') := h
  refine zw_iconst (v := (0 : Int32)) C dX12_inRoom_0 ct_i_0 ?_
  refine zw_istore_n (lv' := [(2, .int (0 : Int32)), (0, .ref (E.2.1 p0)), (1, .int x1)]) C dX12_inRoom_1 rfl (by decide) rfl ?_
  refine zw_iconst (v := (0 : Int32)) C dX12_inRoom_2 ct_i_0 ?_
  refine zw_istore_n (lv' := [(3, .int (0 : Int32)), (2, .int (0 : Int32)), (0, .ref (E.2.1 p0)), (1, .int x1)]) C dX12_inRoom_3 rfl (by decide) rfl ?_
  refine zw_sb [2, 3, 1, 0] rfl ?_
  exact p_X12_inRoom_4 C hp0 zFU _ _ _ h
def f_X12_inRoom (M : zM) (p0 : Nat) (x1 : Int32) : Option (Int32 × zM) := f_X12_inRoom_0 p0 x1 M
theorem m_X12_inRoom {l : Launch} {E : zE} (hI : zI E) {M M' : zM} {p0 : Nat} {x1 : Int32} {r : Int32} (hp0 : zia p0 47) (h : f_X12_inRoom M p0 x1 = some (r, M')) : zMet l E yX12_inRoom cX12_inRoom 4 (some .int) 0 [.ref (E.2.1 p0), .int x1] M M' (some (.int r)) := zm_of hI (by decide) (Nat.le_of_ble_eq_true rfl) (fun X _ C => p_X12_inRoom_0 C hp0 h)
theorem ks_X12_inRoom : zKS yX12_inRoom cX12_inRoom 4 (some .int) 2 := ⟨⟨gw_4_163, gw_1_13, gw_4_164⟩, ⟨by decide, by decide, by decide +kernel⟩, by decide⟩
-- WingDoorModel.bulkIn([II)I, 28 instructions, depth 1
def f_X12_bulkIn_38 (p1 : Nat) (x2 : Int32) (k5 : zM → Int32 → Int32 → Option (Int32 × zM)) (M : zM) (x4 : Int32) (s0 : Int32) (s1 : Int32) : Option (Int32 × zM) := k5 M (s1 + s0) (x4 + (1 : Int32))
set_option maxRecDepth 20000 in
set_option maxHeartbeats 2000000 in
theorem p_X12_bulkIn_38 {X : zX} {E : zE} {p1 : Nat} {x2 : Int32} {r : Int32} {M' : zM} {k5 : zM → Int32 → Int32 → Option (Int32 × zM)} (C : zC X E cX12_bulkIn 5 RX12 (some .int) 1) (hp1 : zia p1 47) (hk5 : ∀ (M : zM) (y3 : Int32) (y4 : Int32), k5 M y3 y4 = some (r, M') → zW X E (zRQ X E (some (.int r)) M') M 5 [(0, .ref (E.2.1 25)), (1, .ref (E.2.1 p1)), (2, .int x2), (3, .int y3), (4, .int y4)] []) {M : zM} {x4 : Int32} {s0 : Int32} {s1 : Int32} (h : f_X12_bulkIn_38 p1 x2 k5 M x4 s0 s1 = some (r, M')) : zW X E (zRQ X E (some (.int r)) M') M 38 [(0, .ref (E.2.1 25)), (1, .ref (E.2.1 p1)), (2, .int x2), (4, .int x4)] [.int s0, .int s1] := by
  have h : (k5 M (s1 + s0) (x4 + (1 : Int32))) = some (r, M') := h
  refine zw_iadd C dX12_bulkIn_38 ?_
  refine zw_istore_n (lv' := [(3, .int (s1 + s0)), (0, .ref (E.2.1 25)), (1, .ref (E.2.1 p1)), (2, .int x2), (4, .int x4)]) C dX12_bulkIn_39 rfl (by decide) rfl ?_
  refine zw_iinc (lv' := [(4, .int (x4 + (1 : Int32))), (3, .int (s1 + s0)), (0, .ref (E.2.1 25)), (1, .ref (E.2.1 p1)), (2, .int x2)]) C 4 rfl dX12_bulkIn_40 (ct_n_1 _) (by decide) rfl ?_
  refine zw_goto (tgt := 5) C dX12_bulkIn_43 (by decide) ?_
  refine zw_sb [2, 3, 4, 1, 0] rfl ?_
  exact hk5 _ _ _ h
def f_X12_bulkIn_5 (p1 : Nat) (x2 : Int32) : Nat → zM → Int32 → Int32 → Option (Int32 × zM)
  | 0, _, _, _ => none
  | n + 1, M, x3, x4 => zg (zin (0 : Int32) 47) (if (M.1 p1 (0 : Int32).toNatClampNeg) ≤ x4 then (some (x3, M)) else (zbi (f_X12_inRoom M p1 x2) (fun r4 M5 => zbi (f_X12_has M5 r4 x4) (fun r7 M8 => if r7 = 0 then (f_X12_bulkIn_38 p1 x2 (f_X12_bulkIn_5 p1 x2 n) M8 x4 (0 : Int32) x3) else (zbi (f_X12_bulkOf M8 p1 x4) (fun r11 M12 => f_X12_bulkIn_38 p1 x2 (f_X12_bulkIn_5 p1 x2 n) M12 x4 r11 x3))))))
set_option maxRecDepth 20000 in
set_option maxHeartbeats 2000000 in
theorem p_X12_bulkIn_5 {X : zX} {E : zE} {p1 : Nat} {x2 : Int32} {r : Int32} {M' : zM} (C : zC X E cX12_bulkIn 5 RX12 (some .int) 1) (hp1 : zia p1 47) : ∀ (n : Nat) (M : zM) (x3 : Int32) (x4 : Int32), f_X12_bulkIn_5 p1 x2 n M x3 x4 = some (r, M') → zW X E (zRQ X E (some (.int r)) M') M 5 [(0, .ref (E.2.1 25)), (1, .ref (E.2.1 p1)), (2, .int x2), (3, .int x3), (4, .int x4)] [] := by
  intro n
  induction n with
  | zero => intro M x3 x4 h; cases h
  | succ n ih =>
    intro M x3 x4 h
    have h : (zg (zin (0 : Int32) 47) (if (M.1 p1 (0 : Int32).toNatClampNeg) ≤ x4 then (some (x3, M)) else (zbi (f_X12_inRoom M p1 x2) (fun r4 M5 => zbi (f_X12_has M5 r4 x4) (fun r7 M8 => if r7 = 0 then (f_X12_bulkIn_38 p1 x2 (f_X12_bulkIn_5 p1 x2 n) M8 x4 (0 : Int32) x3) else (zbi (f_X12_bulkOf M8 p1 x4) (fun r11 M12 => f_X12_bulkIn_38 p1 x2 (f_X12_bulkIn_5 p1 x2 n) M12 x4 r11 x3))))))) = some (r, M') := h
    refine zw_iload C 4 rfl dX12_bulkIn_5 ?_
    refine zw_aload_n C 1 rfl dX12_bulkIn_7 rfl ?_
    refine zw_iconst (v := (0 : Int32)) C dX12_bulkIn_8 ct_i_0 ?_
    obtain ⟨hi1, h⟩ := zg_e h
    refine zw_iald C hp1 (zin_e hi1) dX12_bulkIn_9 ?_
    refine zw_icmp_ge (tgt := 46) C dX12_bulkIn_10 (by decide) (fun hb2 => ?_) (fun hb2 => ?_)
    · have h := zt_ hb2 h
      refine zw_iload_n C 3 rfl dX12_bulkIn_46 rfl ?_
      exact zw_ireturnE C h dX12_bulkIn_47
    · have h := zf_ hb2 h
      refine zw_iload_n C 3 rfl dX12_bulkIn_13 rfl ?_
      refine zw_aload_n C 1 rfl dX12_bulkIn_14 rfl ?_
      refine zw_iload_n C 2 rfl dX12_bulkIn_15 rfl ?_
      obtain ⟨r4, M5, hq3, h⟩ := zbi_e h
      refine zw_callSi (As := [.ref (E.2.1 p1), .int x2]) (st := [.int x3]) C (m_X12_inRoom C.2.2.2.2.2.2.2.1 hp1 hq3) ks_X12_inRoom gw_4_162 (by decide) rfl rfl (Nat.le_of_ble_eq_true rfl) dX12_bulkIn_16 ?_
      refine zw_iload C 4 rfl dX12_bulkIn_19 ?_
      obtain ⟨r7, M8, hq6, h⟩ := zbi_e h
      refine zw_callSi (As := [.int r4, .int x4]) (st := [.int x3]) C (m_X12_has C.2.2.2.2.2.2.2.1 hq6) ks_X12_has gw_4_165 (by decide) rfl rfl (Nat.le_of_ble_eq_true rfl) dX12_bulkIn_21 ?_
      refine zw_if_eq (tgt := 37) C dX12_bulkIn_24 (by decide) (fun hb9 => ?_) (fun hb9 => ?_)
      · have h := zt_ hb9 h
        refine zw_iconst (v := (0 : Int32)) C dX12_bulkIn_37 ct_i_0 ?_
        refine zw_sb [0, 1, 2, 4] rfl ?_
        exact p_X12_bulkIn_38 C hp1 (fun _ _ _ h => ih _ _ _ h) h
      · have h := zf_ hb9 h
        refine zw_aload_n C 0 rfl dX12_bulkIn_27 rfl ?_
        refine zw_aload_n C 1 rfl dX12_bulkIn_28 rfl ?_
        refine zw_iload C 4 rfl dX12_bulkIn_29 ?_
        obtain ⟨r11, M12, hq10, h⟩ := zbi_e h
        refine zw_callVi (As := [.ref (E.2.1 p1), .int x4]) (st := [.int x3]) C (m_X12_bulkOf C.2.2.2.2.2.2.2.1 hp1 hq10) kv_X12_bulkOf gw_4_168 (by decide) (by decide) (zc_25 E) rfl rfl rfl rfl (Nat.le_of_ble_eq_true rfl) dX12_bulkIn_31 ?_
        refine zw_goto (tgt := 38) C dX12_bulkIn_34 (by decide) ?_
        refine zw_sb [0, 1, 2, 4] rfl ?_
        exact p_X12_bulkIn_38 C hp1 (fun _ _ _ h => ih _ _ _ h) h
def f_X12_bulkIn_0 (p1 : Nat) (x2 : Int32) (M : zM) : Option (Int32 × zM) := f_X12_bulkIn_5 p1 x2 zFU M (0 : Int32) (0 : Int32)
set_option maxRecDepth 20000 in
set_option maxHeartbeats 2000000 in
theorem p_X12_bulkIn_0 {X : zX} {E : zE} {p1 : Nat} {x2 : Int32} {r : Int32} {M' : zM} (C : zC X E cX12_bulkIn 5 RX12 (some .int) 1) (hp1 : zia p1 47) {M : zM} (h : f_X12_bulkIn_0 p1 x2 M = some (r, M')) : zW X E (zRQ X E (some (.int r)) M') M 0 [(0, .ref (E.2.1 25)), (1, .ref (E.2.1 p1)), (2, .int x2)] [] := by
  have h : (f_X12_bulkIn_5 p1 x2 zFU M (0 : Int32) (0 : Int32)) = some (r, M') := h
  refine zw_iconst (v := (0 : Int32)) C dX12_bulkIn_0 ct_i_0 ?_
  refine zw_istore_n (lv' := [(3, .int (0 : Int32)), (0, .ref (E.2.1 25)), (1, .ref (E.2.1 p1)), (2, .int x2)]) C dX12_bulkIn_1 rfl (by decide) rfl ?_
  refine zw_iconst (v := (0 : Int32)) C dX12_bulkIn_2 ct_i_0 ?_
  refine zw_istore (lv' := [(4, .int (0 : Int32)), (3, .int (0 : Int32)), (0, .ref (E.2.1 25)), (1, .ref (E.2.1 p1)), (2, .int x2)]) C dX12_bulkIn_3 (by decide) rfl ?_
  refine zw_sb [2, 3, 4, 1, 0] rfl ?_
  exact p_X12_bulkIn_5 C hp1 zFU _ _ _ h
def f_X12_bulkIn (M : zM) (p1 : Nat) (x2 : Int32) : Option (Int32 × zM) := f_X12_bulkIn_0 p1 x2 M
theorem m_X12_bulkIn {l : Launch} {E : zE} (hI : zI E) {M M' : zM} {p1 : Nat} {x2 : Int32} {r : Int32} (hp1 : zia p1 47) (h : f_X12_bulkIn M p1 x2 = some (r, M')) : zMet l E yX12_bulkIn cX12_bulkIn 5 (some .int) 1 [.ref (E.2.1 25), .ref (E.2.1 p1), .int x2] M M' (some (.int r)) := zm_of hI (by decide) (Nat.le_of_ble_eq_true rfl) (fun X _ C => p_X12_bulkIn_0 C hp1 h)
theorem kv_X12_bulkIn : zKV yX12_bulkIn cX12_bulkIn 5 (some .int) 2 := ⟨⟨gw_4_160, gs_37, gw_1_13, gw_4_161⟩, ⟨by decide, by decide, by decide +kernel⟩, by decide⟩
-- WingDoorModel.firstOn([II)I, 50 instructions, depth 0
def f_X12_firstOn_69 (p0 : Nat) (x1 : Int32) (k5 : zM → Int32 → Int32 → Option (Int32 × zM)) (M : zM) (x3 : Int32) (s0 : Int32) : Option (Int32 × zM) := k5 M s0 (x3 + (1 : Int32))
set_option maxRecDepth 20000 in
set_option maxHeartbeats 2000000 in
theorem p_X12_firstOn_69 {X : zX} {E : zE} {p0 : Nat} {x1 : Int32} {r : Int32} {M' : zM} {k5 : zM → Int32 → Int32 → Option (Int32 × zM)} (C : zC X E cX12_firstOn 5 RX12 (some .int) 0) (hp0 : zia p0 47) (hk5 : ∀ (M : zM) (y2 : Int32) (y3 : Int32), k5 M y2 y3 = some (r, M') → zW X E (zRQ X E (some (.int r)) M') M 5 [(0, .ref (E.2.1 p0)), (1, .int x1), (2, .int y2), (3, .int y3)] []) {M : zM} {x3 : Int32} {s0 : Int32} (h : f_X12_firstOn_69 p0 x1 k5 M x3 s0 = some (r, M')) : zW X E (zRQ X E (some (.int r)) M') M 69 [(0, .ref (E.2.1 p0)), (1, .int x1), (3, .int x3)] [.int s0] := by
  have h : (k5 M s0 (x3 + (1 : Int32))) = some (r, M') := h
  refine zw_istore_n (lv' := [(2, .int s0), (0, .ref (E.2.1 p0)), (1, .int x1), (3, .int x3)]) C dX12_firstOn_69 rfl (by decide) rfl ?_
  refine zw_iinc (lv' := [(3, .int (x3 + (1 : Int32))), (2, .int s0), (0, .ref (E.2.1 p0)), (1, .int x1)]) C 3 rfl dX12_firstOn_70 (ct_n_1 _) (by decide) rfl ?_
  refine zw_goto (tgt := 5) C dX12_firstOn_73 (by decide) ?_
  refine zw_sb [2, 3, 1, 0] rfl ?_
  exact hk5 _ _ _ h
def f_X12_firstOn_36 (p0 : Nat) (x1 : Int32) (k5 : zM → Int32 → Int32 → Option (Int32 × zM)) (M : zM) (x2 : Int32) (x3 : Int32) (s0 : Int32) : Option (Int32 × zM) := if s0 = 0 then (f_X12_firstOn_69 p0 x1 k5 M x3 x2) else (if x2 = (-9 : Int32) then (f_X12_firstOn_69 p0 x1 k5 M x3 x3) else (zg (zin ((38 : Int32) + x3) 47) (zg (zin ((38 : Int32) + x2) 47) (if (M.1 p0 ((38 : Int32) + x2).toNatClampNeg) ≤ (M.1 p0 ((38 : Int32) + x3).toNatClampNeg) then (f_X12_firstOn_69 p0 x1 k5 M x3 x2) else (f_X12_firstOn_69 p0 x1 k5 M x3 x3)))))
set_option maxRecDepth 20000 in
set_option maxHeartbeats 2000000 in
theorem p_X12_firstOn_36 {X : zX} {E : zE} {p0 : Nat} {x1 : Int32} {r : Int32} {M' : zM} {k5 : zM → Int32 → Int32 → Option (Int32 × zM)} (C : zC X E cX12_firstOn 5 RX12 (some .int) 0) (hp0 : zia p0 47) (hk5 : ∀ (M : zM) (y2 : Int32) (y3 : Int32), k5 M y2 y3 = some (r, M') → zW X E (zRQ X E (some (.int r)) M') M 5 [(0, .ref (E.2.1 p0)), (1, .int x1), (2, .int y2), (3, .int y3)] []) {M : zM} {x2 : Int32} {x3 : Int32} {s0 : Int32} (h : f_X12_firstOn_36 p0 x1 k5 M x2 x3 s0 = some (r, M')) : zW X E (zRQ X E (some (.int r)) M') M 36 [(0, .ref (E.2.1 p0)), (1, .int x1), (2, .int x2), (3, .int x3)] [.int s0] := by
  have h : (if s0 = 0 then (f_X12_firstOn_69 p0 x1 k5 M x3 x2) else (if x2 = (-9 : Int32) then (f_X12_firstOn_69 p0 x1 k5 M x3 x3) else (zg (zin ((38 : Int32) + x3) 47) (zg (zin ((38 : Int32) + x2) 47) (if (M.1 p0 ((38 : Int32) + x2).toNatClampNeg) ≤ (M.1 p0 ((38 : Int32) + x3).toNatClampNeg) then (f_X12_firstOn_69 p0 x1 k5 M x3 x2) else (f_X12_firstOn_69 p0 x1 k5 M x3 x3)))))) = some (r, M') := h
  refine zw_istore (lv' := [(4, .int s0), (0, .ref (E.2.1 p0)), (1, .int x1), (2, .int x2), (3, .int x3)]) C dX12_firstOn_36 (by decide) rfl ?_
  refine zw_iload C 0 rfl dX12_firstOn_38 ?_
  refine zw_if_eq (tgt := 68) C dX12_firstOn_40 (by decide) (fun hb1 => ?_) (fun hb1 => ?_)
  · have h := zt_ hb1 h
    refine zw_iload_n C 3 rfl dX12_firstOn_68 rfl ?_
    refine zw_sb [1, 2, 4] rfl ?_
    exact p_X12_firstOn_69 C hp0 hk5 h
  · have h := zf_ hb1 h
    refine zw_iload_n C 3 rfl dX12_firstOn_43 rfl ?_
    refine zw_bipush (v := (-9 : Int32)) C dX12_firstOn_44 ct_b_m9 ?_
    refine zw_icmp_eq (tgt := 64) C dX12_firstOn_46 (by decide) (fun hb2 => ?_) (fun hb2 => ?_)
    · have h := zt_ hb2 h
      refine zw_iload_n C 4 rfl dX12_firstOn_64 rfl ?_
      refine zw_goto (tgt := 69) C dX12_firstOn_65 (by decide) ?_
      refine zw_sb [1, 2, 4] rfl ?_
      exact p_X12_firstOn_69 C hp0 hk5 h
    · have h := zf_ hb2 h
      refine zw_aload_n C 1 rfl dX12_firstOn_49 rfl ?_
      refine zw_bipush (v := (38 : Int32)) C dX12_firstOn_50 ct_b_38 ?_
      refine zw_iload_n C 4 rfl dX12_firstOn_52 rfl ?_
      refine zw_iadd C dX12_firstOn_53 ?_
      obtain ⟨hi3, h⟩ := zg_e h
      refine zw_iald C hp0 (zin_e hi3) dX12_firstOn_54 ?_
      refine zw_aload_n C 1 rfl dX12_firstOn_55 rfl ?_
      refine zw_bipush (v := (38 : Int32)) C dX12_firstOn_56 ct_b_38 ?_
      refine zw_iload_n C 3 rfl dX12_firstOn_58 rfl ?_
      refine zw_iadd C dX12_firstOn_59 ?_
      obtain ⟨hi4, h⟩ := zg_e h
      refine zw_iald C hp0 (zin_e hi4) dX12_firstOn_60 ?_
      refine zw_icmp_ge (tgt := 68) C dX12_firstOn_61 (by decide) (fun hb5 => ?_) (fun hb5 => ?_)
      · have h := zt_ hb5 h
        refine zw_iload_n C 3 rfl dX12_firstOn_68 rfl ?_
        refine zw_sb [1, 2, 4] rfl ?_
        exact p_X12_firstOn_69 C hp0 hk5 h
      · have h := zf_ hb5 h
        refine zw_iload_n C 4 rfl dX12_firstOn_64 rfl ?_
        refine zw_goto (tgt := 69) C dX12_firstOn_65 (by decide) ?_
        refine zw_sb [1, 2, 4] rfl ?_
        exact p_X12_firstOn_69 C hp0 hk5 h
def f_X12_firstOn_5 (p0 : Nat) (x1 : Int32) : Nat → zM → Int32 → Int32 → Option (Int32 × zM)
  | 0, _, _, _ => none
  | n + 1, M, x2, x3 => zg (zin (0 : Int32) 47) (if (M.1 p0 (0 : Int32).toNatClampNeg) ≤ x3 then (some (x2, M)) else (zg (zin ((20 : Int32) + x3) 47) (if (M.1 p0 ((20 : Int32) + x3).toNatClampNeg) = 0 then (zg (zin ((11 : Int32) + x3) 47) (if (M.1 p0 ((11 : Int32) + x3).toNatClampNeg) = x1 then (f_X12_firstOn_36 p0 x1 (f_X12_firstOn_5 p0 x1 n) M x2 x3 (1 : Int32)) else (f_X12_firstOn_36 p0 x1 (f_X12_firstOn_5 p0 x1 n) M x2 x3 (0 : Int32)))) else (f_X12_firstOn_36 p0 x1 (f_X12_firstOn_5 p0 x1 n) M x2 x3 (0 : Int32)))))
set_option maxRecDepth 20000 in
set_option maxHeartbeats 2000000 in
theorem p_X12_firstOn_5 {X : zX} {E : zE} {p0 : Nat} {x1 : Int32} {r : Int32} {M' : zM} (C : zC X E cX12_firstOn 5 RX12 (some .int) 0) (hp0 : zia p0 47) : ∀ (n : Nat) (M : zM) (x2 : Int32) (x3 : Int32), f_X12_firstOn_5 p0 x1 n M x2 x3 = some (r, M') → zW X E (zRQ X E (some (.int r)) M') M 5 [(0, .ref (E.2.1 p0)), (1, .int x1), (2, .int x2), (3, .int x3)] [] := by
  intro n
  induction n with
  | zero => intro M x2 x3 h; cases h
  | succ n ih =>
    intro M x2 x3 h
    have h : (zg (zin (0 : Int32) 47) (if (M.1 p0 (0 : Int32).toNatClampNeg) ≤ x3 then (some (x2, M)) else (zg (zin ((20 : Int32) + x3) 47) (if (M.1 p0 ((20 : Int32) + x3).toNatClampNeg) = 0 then (zg (zin ((11 : Int32) + x3) 47) (if (M.1 p0 ((11 : Int32) + x3).toNatClampNeg) = x1 then (f_X12_firstOn_36 p0 x1 (f_X12_firstOn_5 p0 x1 n) M x2 x3 (1 : Int32)) else (f_X12_firstOn_36 p0 x1 (f_X12_firstOn_5 p0 x1 n) M x2 x3 (0 : Int32)))) else (f_X12_firstOn_36 p0 x1 (f_X12_firstOn_5 p0 x1 n) M x2 x3 (0 : Int32)))))) = some (r, M') := h
    refine zw_iload_n C 3 rfl dX12_firstOn_5 rfl ?_
    refine zw_aload_n C 0 rfl dX12_firstOn_6 rfl ?_
    refine zw_iconst (v := (0 : Int32)) C dX12_firstOn_7 ct_i_0 ?_
    obtain ⟨hi1, h⟩ := zg_e h
    refine zw_iald C hp0 (zin_e hi1) dX12_firstOn_8 ?_
    refine zw_icmp_ge (tgt := 76) C dX12_firstOn_9 (by decide) (fun hb2 => ?_) (fun hb2 => ?_)
    · have h := zt_ hb2 h
      refine zw_iload_n C 2 rfl dX12_firstOn_76 rfl ?_
      exact zw_ireturnE C h dX12_firstOn_77
    · have h := zf_ hb2 h
      refine zw_aload_n C 0 rfl dX12_firstOn_12 rfl ?_
      refine zw_bipush (v := (20 : Int32)) C dX12_firstOn_13 ct_b_20 ?_
      refine zw_iload_n C 3 rfl dX12_firstOn_15 rfl ?_
      refine zw_iadd C dX12_firstOn_16 ?_
      obtain ⟨hi3, h⟩ := zg_e h
      refine zw_iald C hp0 (zin_e hi3) dX12_firstOn_17 ?_
      refine zw_if_ne (tgt := 35) C dX12_firstOn_18 (by decide) (fun hb4 => ?_) (fun hb4 => ?_)
      · have h := zt_ hb4 h
        refine zw_aload_n C 0 rfl dX12_firstOn_21 rfl ?_
        refine zw_bipush (v := (11 : Int32)) C dX12_firstOn_22 ct_b_11 ?_
        refine zw_iload_n C 3 rfl dX12_firstOn_24 rfl ?_
        refine zw_iadd C dX12_firstOn_25 ?_
        obtain ⟨hi5, h⟩ := zg_e h
        refine zw_iald C hp0 (zin_e hi5) dX12_firstOn_26 ?_
        refine zw_iload_n C 1 rfl dX12_firstOn_27 rfl ?_
        refine zw_icmp_ne (tgt := 35) C dX12_firstOn_28 (by decide) (fun hb6 => ?_) (fun hb6 => ?_)
        · have h := zt_ hb6 h
          refine zw_iconst (v := (1 : Int32)) C dX12_firstOn_31 ct_i_1 ?_
          refine zw_goto (tgt := 36) C dX12_firstOn_32 (by decide) ?_
          exact p_X12_firstOn_36 C hp0 (fun _ _ _ h => ih _ _ _ h) h
        · have h := zf_ hb6 h
          refine zw_iconst (v := (0 : Int32)) C dX12_firstOn_35 ct_i_0 ?_
          exact p_X12_firstOn_36 C hp0 (fun _ _ _ h => ih _ _ _ h) h
      · have h := zf_ hb4 h
        refine zw_iconst (v := (0 : Int32)) C dX12_firstOn_35 ct_i_0 ?_
        exact p_X12_firstOn_36 C hp0 (fun _ _ _ h => ih _ _ _ h) h
def f_X12_firstOn_0 (p0 : Nat) (x1 : Int32) (M : zM) : Option (Int32 × zM) := f_X12_firstOn_5 p0 x1 zFU M (-9 : Int32) (0 : Int32)
set_option maxRecDepth 20000 in
set_option maxHeartbeats 2000000 in
theorem p_X12_firstOn_0 {X : zX} {E : zE} {p0 : Nat} {x1 : Int32} {r : Int32} {M' : zM} (C : zC X E cX12_firstOn 5 RX12 (some .int) 0) (hp0 : zia p0 47) {M : zM} (h : f_X12_firstOn_0 p0 x1 M = some (r, M')) : zW X E (zRQ X E (some (.int r)) M') M 0 [(0, .ref (E.2.1 p0)), (1, .int x1)] [] := by
  have h : (f_X12_firstOn_5 p0 x1 zFU M (-9 : Int32) (0 : Int32)) = some (r, M') := h
  refine zw_bipush (v := (-9 : Int32)) C dX12_firstOn_0 ct_b_m9 ?_
  refine zw_istore_n (lv' := [(2, .int (-9 : Int32)), (0, .ref (E.2.1 p0)), (1, .int x1)]) C dX12_firstOn_2 rfl (by decide) rfl ?_
  refine zw_iconst (v := (0 : Int32)) C dX12_firstOn_3 ct_i_0 ?_
  refine zw_istore_n (lv' := [(3, .int (0 : Int32)), (2, .int (-9 : Int32)), (0, .ref (E.2.1 p0)), (1, .int x1)]) C dX12_firstOn_4 rfl (by decide) rfl ?_
  refine zw_sb [2, 3, 1, 0] rfl ?_
  exact p_X12_firstOn_5 C hp0 zFU _ _ _ h
def f_X12_firstOn (M : zM) (p0 : Nat) (x1 : Int32) : Option (Int32 × zM) := f_X12_firstOn_0 p0 x1 M
theorem m_X12_firstOn {l : Launch} {E : zE} (hI : zI E) {M M' : zM} {p0 : Nat} {x1 : Int32} {r : Int32} (hp0 : zia p0 47) (h : f_X12_firstOn M p0 x1 = some (r, M')) : zMet l E yX12_firstOn cX12_firstOn 5 (some .int) 0 [.ref (E.2.1 p0), .int x1] M M' (some (.int r)) := zm_of hI (by decide) (Nat.le_of_ble_eq_true rfl) (fun X _ C => p_X12_firstOn_0 C hp0 h)
theorem ks_X12_firstOn : zKS yX12_firstOn cX12_firstOn 5 (some .int) 2 := ⟨⟨gw_4_156, gw_1_13, gw_4_157⟩, ⟨by decide, by decide, by decide +kernel⟩, by decide⟩
-- WingDoorModel.placeOf(I)I, 9 instructions, depth 0
def f_X12_placeOf_0 (x1 : Int32) (M : zM) : Option (Int32 × zM) := if x1 = 0 then (some ((0 : Int32), M)) else (some ((M.1 25 0) / (2 : Int32), M))
set_option maxRecDepth 20000 in
set_option maxHeartbeats 2000000 in
theorem p_X12_placeOf_0 {X : zX} {E : zE} {x1 : Int32} {r : Int32} {M' : zM} (C : zC X E cX12_placeOf 2 RX12 (some .int) 0) {M : zM} (h : f_X12_placeOf_0 x1 M = some (r, M')) : zW X E (zRQ X E (some (.int r)) M') M 0 [(0, .ref (E.2.1 25)), (1, .int x1)] [] := by
  have h : (if x1 = 0 then (some ((0 : Int32), M)) else (some ((M.1 25 0) / (2 : Int32), M))) = some (r, M') := h
  refine zw_iload_n C 1 rfl dX12_placeOf_0 rfl ?_
  refine zw_if_ne (tgt := 8) C dX12_placeOf_1 (by decide) (fun hb1 => ?_) (fun hb1 => ?_)
  · have h := zt_ hb1 h
    refine zw_iconst (v := (0 : Int32)) C dX12_placeOf_4 ct_i_0 ?_
    refine zw_goto (tgt := 14) C dX12_placeOf_5 (by decide) ?_
    exact zw_ireturnE C h dX12_placeOf_14
  · have h := zf_ hb1 h
    refine zw_aload_n C 0 rfl dX12_placeOf_8 rfl ?_
    refine zw_get (v := .int (M.1 25 0)) C (by decide) (zc_25 E) rfl zin_X12 0 (by decide) gw_3_195 rfl dX12_placeOf_9 ?_
    refine zw_iconst (v := (2 : Int32)) C dX12_placeOf_12 ct_i_2 ?_
    refine zw_idiv C (by decide) dX12_placeOf_13 ?_
    exact zw_ireturnE C h dX12_placeOf_14
def f_X12_placeOf (M : zM) (x1 : Int32) : Option (Int32 × zM) := f_X12_placeOf_0 x1 M
theorem m_X12_placeOf {l : Launch} {E : zE} (hI : zI E) {M M' : zM} {x1 : Int32} {r : Int32} (h : f_X12_placeOf M x1 = some (r, M')) : zMet l E yX12_placeOf cX12_placeOf 2 (some .int) 0 [.ref (E.2.1 25), .int x1] M M' (some (.int r)) := zm_of hI (by decide) (Nat.le_of_ble_eq_true rfl) (fun X _ C => p_X12_placeOf_0 C h)
theorem kv_X12_placeOf : zKV yX12_placeOf cX12_placeOf 2 (some .int) 1 := ⟨⟨gw_4_149, gs_35, gw_1_13, gw_4_150⟩, ⟨by decide, by decide, by decide +kernel⟩, by decide⟩
-- WingDoorModel.fills([I)V, 48 instructions, depth 2
def f_X12_fills_13 (p1 : Nat) (k2 : zM → Int32 → Option zM) : Nat → zM → Int32 → Int32 → Option zM
  | 0, _, _, _ => none
  | n + 1, M, x2, x3 => if x3 = (-9 : Int32) then (k2 M (x2 + (1 : Int32))) else (zbi (f_X12_placeOf M x2) (fun r3 M4 => zbi (f_X12_bulkIn M4 p1 r3) (fun r6 M7 => zbi (f_X12_bulkOf M7 p1 x3) (fun r9 M10 => if (M10.1 25 1) < (r6 + r9) then (k2 M10 (x2 + (1 : Int32))) else (zg (zin ((20 : Int32) + x3) 47) (zbi (f_X12_placeOf (zs M10 p1 ((20 : Int32) + x3).toNatClampNeg (1 : Int32)) x2) (fun r14 M15 => zg (zin ((29 : Int32) + x3) 47) (zbi (f_X12_firstOn (zs M15 p1 ((29 : Int32) + x3).toNatClampNeg r14) p1 x2) (fun r18 M19 => f_X12_fills_13 p1 k2 n M19 x2 r18)))))))))
set_option maxRecDepth 20000 in
set_option maxHeartbeats 2000000 in
theorem p_X12_fills_13 {X : zX} {E : zE} {p1 : Nat} {M' : zM} {k2 : zM → Int32 → Option zM} (C : zC X E cX12_fills 4 RX12 none 2) (hp1 : zia p1 47) (hk2 : ∀ (M : zM) (y2 : Int32), k2 M y2 = some M' → zW X E (zRQ X E none M') M 2 [(0, .ref (E.2.1 25)), (1, .ref (E.2.1 p1)), (2, .int y2)] []) : ∀ (n : Nat) (M : zM) (x2 : Int32) (x3 : Int32), f_X12_fills_13 p1 k2 n M x2 x3 = some M' → zW X E (zRQ X E none M') M 13 [(0, .ref (E.2.1 25)), (1, .ref (E.2.1 p1)), (2, .int x2), (3, .int x3)] [] := by
  intro n
  induction n with
  | zero => intro M x2 x3 h; cases h
  | succ n ih =>
    intro M x2 x3 h
    have h : (if x3 = (-9 : Int32) then (k2 M (x2 + (1 : Int32))) else (zbi (f_X12_placeOf M x2) (fun r3 M4 => zbi (f_X12_bulkIn M4 p1 r3) (fun r6 M7 => zbi (f_X12_bulkOf M7 p1 x3) (fun r9 M10 => if (M10.1 25 1) < (r6 + r9) then (k2 M10 (x2 + (1 : Int32))) else (zg (zin ((20 : Int32) + x3) 47) (zbi (f_X12_placeOf (zs M10 p1 ((20 : Int32) + x3).toNatClampNeg (1 : Int32)) x2) (fun r14 M15 => zg (zin ((29 : Int32) + x3) 47) (zbi (f_X12_firstOn (zs M15 p1 ((29 : Int32) + x3).toNatClampNeg r14) p1 x2) (fun r18 M19 => f_X12_fills_13 p1 k2 n M19 x2 r18)))))))))) = some M' := h
    refine zw_iload_n C 3 rfl dX12_fills_13 rfl ?_
    refine zw_bipush (v := (-9 : Int32)) C dX12_fills_14 ct_b_m9 ?_
    refine zw_icmp_eq (tgt := 70) C dX12_fills_16 (by decide) (fun hb1 => ?_) (fun hb1 => ?_)
    · have h := zt_ hb1 h
      refine zw_iinc (lv' := [(2, .int (x2 + (1 : Int32))), (0, .ref (E.2.1 25)), (1, .ref (E.2.1 p1)), (3, .int x3)]) C 2 rfl dX12_fills_70 (ct_n_1 _) (by decide) rfl ?_
      refine zw_goto (tgt := 2) C dX12_fills_73 (by decide) ?_
      refine zw_sb [1, 2, 0] rfl ?_
      exact hk2 _ _ h
    · have h := zf_ hb1 h
      refine zw_aload_n C 0 rfl dX12_fills_19 rfl ?_
      refine zw_aload_n C 1 rfl dX12_fills_20 rfl ?_
      refine zw_aload_n C 0 rfl dX12_fills_21 rfl ?_
      refine zw_iload_n C 2 rfl dX12_fills_22 rfl ?_
      obtain ⟨r3, M4, hq2, h⟩ := zbi_e h
      refine zw_callVi (As := [.int x2]) (st := [.ref (E.2.1 p1), .ref (E.2.1 25)]) C (m_X12_placeOf C.2.2.2.2.2.2.2.1 hq2) kv_X12_placeOf gw_4_147 (by decide) (by decide) (zc_25 E) rfl rfl rfl rfl (Nat.le_of_ble_eq_true rfl) dX12_fills_23 ?_
      obtain ⟨r6, M7, hq5, h⟩ := zbi_e h
      refine zw_callVi (As := [.ref (E.2.1 p1), .int r3]) (st := []) C (m_X12_bulkIn C.2.2.2.2.2.2.2.1 hp1 hq5) kv_X12_bulkIn gw_4_158 (by decide) (by decide) (zc_25 E) rfl rfl rfl rfl (Nat.le_of_ble_eq_true rfl) dX12_fills_26 ?_
      refine zw_aload_n C 0 rfl dX12_fills_29 rfl ?_
      refine zw_aload_n C 1 rfl dX12_fills_30 rfl ?_
      refine zw_iload_n C 3 rfl dX12_fills_31 rfl ?_
      obtain ⟨r9, M10, hq8, h⟩ := zbi_e h
      refine zw_callVi (As := [.ref (E.2.1 p1), .int x3]) (st := [.int r6]) C (m_X12_bulkOf C.2.2.2.2.2.2.2.1 hp1 hq8) kv_X12_bulkOf gw_4_168 (by decide) (by decide) (zc_25 E) rfl rfl rfl rfl (Nat.le_of_ble_eq_true rfl) dX12_fills_32 ?_
      refine zw_iadd C dX12_fills_35 ?_
      refine zw_aload_n C 0 rfl dX12_fills_36 rfl ?_
      refine zw_get (v := .int (M10.1 25 1)) C (by decide) (zc_25 E) rfl zin_X12 1 (by decide) gw_3_196 rfl dX12_fills_37 ?_
      refine zw_icmp_gt (tgt := 70) C dX12_fills_40 (by decide) (fun hb11 => ?_) (fun hb11 => ?_)
      · have h := zt_ hb11 h
        refine zw_iinc (lv' := [(2, .int (x2 + (1 : Int32))), (0, .ref (E.2.1 25)), (1, .ref (E.2.1 p1)), (3, .int x3)]) C 2 rfl dX12_fills_70 (ct_n_1 _) (by decide) rfl ?_
        refine zw_goto (tgt := 2) C dX12_fills_73 (by decide) ?_
        refine zw_sb [1, 2, 0] rfl ?_
        exact hk2 _ _ h
      · have h := zf_ hb11 h
        refine zw_aload_n C 1 rfl dX12_fills_43 rfl ?_
        refine zw_bipush (v := (20 : Int32)) C dX12_fills_44 ct_b_20 ?_
        refine zw_iload_n C 3 rfl dX12_fills_46 rfl ?_
        refine zw_iadd C dX12_fills_47 ?_
        refine zw_iconst (v := (1 : Int32)) C dX12_fills_48 ct_i_1 ?_
        obtain ⟨hi12, h⟩ := zg_e h
        refine zw_iast C hp1 (zin_e hi12) dX12_fills_49 ?_
        refine zw_aload_n C 1 rfl dX12_fills_50 rfl ?_
        refine zw_bipush (v := (29 : Int32)) C dX12_fills_51 ct_b_29 ?_
        refine zw_iload_n C 3 rfl dX12_fills_53 rfl ?_
        refine zw_iadd C dX12_fills_54 ?_
        refine zw_aload_n C 0 rfl dX12_fills_55 rfl ?_
        refine zw_iload_n C 2 rfl dX12_fills_56 rfl ?_
        obtain ⟨r14, M15, hq13, h⟩ := zbi_e h
        refine zw_callVi (As := [.int x2]) (st := [.int ((29 : Int32) + x3), .ref (E.2.1 p1)]) C (m_X12_placeOf C.2.2.2.2.2.2.2.1 hq13) kv_X12_placeOf gw_4_147 (by decide) (by decide) (zc_25 E) rfl rfl rfl rfl (Nat.le_of_ble_eq_true rfl) dX12_fills_57 ?_
        obtain ⟨hi16, h⟩ := zg_e h
        refine zw_iast C hp1 (zin_e hi16) dX12_fills_60 ?_
        refine zw_aload_n C 1 rfl dX12_fills_61 rfl ?_
        refine zw_iload_n C 2 rfl dX12_fills_62 rfl ?_
        obtain ⟨r18, M19, hq17, h⟩ := zbi_e h
        refine zw_callSi (As := [.ref (E.2.1 p1), .int x2]) (st := []) C (m_X12_firstOn C.2.2.2.2.2.2.2.1 hp1 hq17) ks_X12_firstOn gw_4_155 (by decide) rfl rfl (Nat.le_of_ble_eq_true rfl) dX12_fills_63 ?_
        refine zw_istore_n (lv' := [(3, .int r18), (0, .ref (E.2.1 25)), (1, .ref (E.2.1 p1)), (2, .int x2)]) C dX12_fills_66 rfl (by decide) rfl ?_
        refine zw_goto (tgt := 13) C dX12_fills_67 (by decide) ?_
        refine zw_sb [1, 2, 3, 0] rfl ?_
        exact ih _ _ _ h
def f_X12_fills_2 (p1 : Nat) : Nat → zM → Int32 → Option zM
  | 0, _, _ => none
  | n + 1, M, x2 => if (2 : Int32) ≤ x2 then (some M) else (zbi (f_X12_firstOn M p1 x2) (fun r3 M4 => f_X12_fills_13 p1 (f_X12_fills_2 p1 n) zFU M4 x2 r3))
set_option maxRecDepth 20000 in
set_option maxHeartbeats 2000000 in
theorem p_X12_fills_2 {X : zX} {E : zE} {p1 : Nat} {M' : zM} (C : zC X E cX12_fills 4 RX12 none 2) (hp1 : zia p1 47) : ∀ (n : Nat) (M : zM) (x2 : Int32), f_X12_fills_2 p1 n M x2 = some M' → zW X E (zRQ X E none M') M 2 [(0, .ref (E.2.1 25)), (1, .ref (E.2.1 p1)), (2, .int x2)] [] := by
  intro n
  induction n with
  | zero => intro M x2 h; cases h
  | succ n ih =>
    intro M x2 h
    have h : (if (2 : Int32) ≤ x2 then (some M) else (zbi (f_X12_firstOn M p1 x2) (fun r3 M4 => f_X12_fills_13 p1 (f_X12_fills_2 p1 n) zFU M4 x2 r3))) = some M' := h
    refine zw_iload_n C 2 rfl dX12_fills_2 rfl ?_
    refine zw_iconst (v := (2 : Int32)) C dX12_fills_3 ct_i_2 ?_
    refine zw_icmp_ge (tgt := 76) C dX12_fills_4 (by decide) (fun hb1 => ?_) (fun hb1 => ?_)
    · have h := zt_ hb1 h
      exact zw_returnE C h dX12_fills_76
    · have h := zf_ hb1 h
      refine zw_aload_n C 1 rfl dX12_fills_7 rfl ?_
      refine zw_iload_n C 2 rfl dX12_fills_8 rfl ?_
      obtain ⟨r3, M4, hq2, h⟩ := zbi_e h
      refine zw_callSi (As := [.ref (E.2.1 p1), .int x2]) (st := []) C (m_X12_firstOn C.2.2.2.2.2.2.2.1 hp1 hq2) ks_X12_firstOn gw_4_155 (by decide) rfl rfl (Nat.le_of_ble_eq_true rfl) dX12_fills_9 ?_
      refine zw_istore_n (lv' := [(3, .int r3), (0, .ref (E.2.1 25)), (1, .ref (E.2.1 p1)), (2, .int x2)]) C dX12_fills_12 rfl (by decide) rfl ?_
      refine zw_sb [1, 2, 3, 0] rfl ?_
      exact p_X12_fills_13 C hp1 (fun _ _ h => ih _ _ h) zFU _ _ _ h
def f_X12_fills_0 (p1 : Nat) (M : zM) : Option zM := f_X12_fills_2 p1 zFU M (0 : Int32)
set_option maxRecDepth 20000 in
set_option maxHeartbeats 2000000 in
theorem p_X12_fills_0 {X : zX} {E : zE} {p1 : Nat} {M' : zM} (C : zC X E cX12_fills 4 RX12 none 2) (hp1 : zia p1 47) {M : zM} (h : f_X12_fills_0 p1 M = some M') : zW X E (zRQ X E none M') M 0 [(0, .ref (E.2.1 25)), (1, .ref (E.2.1 p1))] [] := by
  have h : (f_X12_fills_2 p1 zFU M (0 : Int32)) = some M' := h
  refine zw_iconst (v := (0 : Int32)) C dX12_fills_0 ct_i_0 ?_
  refine zw_istore_n (lv' := [(2, .int (0 : Int32)), (0, .ref (E.2.1 25)), (1, .ref (E.2.1 p1))]) C dX12_fills_1 rfl (by decide) rfl ?_
  refine zw_sb [1, 2, 0] rfl ?_
  exact p_X12_fills_2 C hp1 zFU _ _ h
def f_X12_fills (M : zM) (p1 : Nat) : Option zM := f_X12_fills_0 p1 M
theorem m_X12_fills {l : Launch} {E : zE} (hI : zI E) {M M' : zM} {p1 : Nat} (hp1 : zia p1 47) (h : f_X12_fills M p1 = some M') : zMet l E yX12_fills cX12_fills 4 none 2 [.ref (E.2.1 25), .ref (E.2.1 p1)] M M' none := zm_of hI (by decide) (Nat.le_of_ble_eq_true rfl) (fun X _ C => p_X12_fills_0 C hp1 h)
theorem kv_X12_fills : zKV yX12_fills cX12_fills 4 none 1 := ⟨⟨gw_4_153, gs_36, gw_1_13, gw_4_154⟩, ⟨by decide, by decide, by decide +kernel⟩, by decide⟩
-- WingDoorModel.loadOn([I)I, 33 instructions, depth 0
def f_X12_loadOn_36 (p1 : Nat) (k4 : zM → Int32 → Int32 → Option (Int32 × zM)) (M : zM) (x3 : Int32) (s0 : Int32) (s1 : Int32) : Option (Int32 × zM) := k4 M (s1 + s0) (x3 + (1 : Int32))
set_option maxRecDepth 20000 in
set_option maxHeartbeats 2000000 in
theorem p_X12_loadOn_36 {X : zX} {E : zE} {p1 : Nat} {r : Int32} {M' : zM} {k4 : zM → Int32 → Int32 → Option (Int32 × zM)} (C : zC X E cX12_loadOn 4 RX12 (some .int) 0) (hp1 : zia p1 47) (hk4 : ∀ (M : zM) (y2 : Int32) (y3 : Int32), k4 M y2 y3 = some (r, M') → zW X E (zRQ X E (some (.int r)) M') M 4 [(0, .ref (E.2.1 25)), (1, .ref (E.2.1 p1)), (2, .int y2), (3, .int y3)] []) {M : zM} {x3 : Int32} {s0 : Int32} {s1 : Int32} (h : f_X12_loadOn_36 p1 k4 M x3 s0 s1 = some (r, M')) : zW X E (zRQ X E (some (.int r)) M') M 36 [(0, .ref (E.2.1 25)), (1, .ref (E.2.1 p1)), (3, .int x3)] [.int s0, .int s1] := by
  have h : (k4 M (s1 + s0) (x3 + (1 : Int32))) = some (r, M') := h
  refine zw_iadd C dX12_loadOn_36 ?_
  refine zw_istore_n (lv' := [(2, .int (s1 + s0)), (0, .ref (E.2.1 25)), (1, .ref (E.2.1 p1)), (3, .int x3)]) C dX12_loadOn_37 rfl (by decide) rfl ?_
  refine zw_iinc (lv' := [(3, .int (x3 + (1 : Int32))), (2, .int (s1 + s0)), (0, .ref (E.2.1 25)), (1, .ref (E.2.1 p1))]) C 3 rfl dX12_loadOn_38 (ct_n_1 _) (by decide) rfl ?_
  refine zw_goto (tgt := 4) C dX12_loadOn_41 (by decide) ?_
  refine zw_sb [2, 3, 1, 0] rfl ?_
  exact hk4 _ _ _ h
def f_X12_loadOn_4 (p1 : Nat) : Nat → zM → Int32 → Int32 → Option (Int32 × zM)
  | 0, _, _, _ => none
  | n + 1, M, x2, x3 => zg (zin (0 : Int32) 47) (if (M.1 p1 (0 : Int32).toNatClampNeg) ≤ x3 then (some (x2, M)) else (zg (zin ((20 : Int32) + x3) 47) (if (M.1 p1 ((20 : Int32) + x3).toNatClampNeg) = (1 : Int32) then (zg (zin ((2 : Int32) + x3) 47) (zg (zin (M.1 p1 ((2 : Int32) + x3).toNatClampNeg) 6) (f_X12_loadOn_36 p1 (f_X12_loadOn_4 p1 n) M x3 (M.1 27 (M.1 p1 ((2 : Int32) + x3).toNatClampNeg).toNatClampNeg) x2))) else (f_X12_loadOn_36 p1 (f_X12_loadOn_4 p1 n) M x3 (0 : Int32) x2))))
set_option maxRecDepth 20000 in
set_option maxHeartbeats 2000000 in
theorem p_X12_loadOn_4 {X : zX} {E : zE} {p1 : Nat} {r : Int32} {M' : zM} (C : zC X E cX12_loadOn 4 RX12 (some .int) 0) (hp1 : zia p1 47) : ∀ (n : Nat) (M : zM) (x2 : Int32) (x3 : Int32), f_X12_loadOn_4 p1 n M x2 x3 = some (r, M') → zW X E (zRQ X E (some (.int r)) M') M 4 [(0, .ref (E.2.1 25)), (1, .ref (E.2.1 p1)), (2, .int x2), (3, .int x3)] [] := by
  intro n
  induction n with
  | zero => intro M x2 x3 h; cases h
  | succ n ih =>
    intro M x2 x3 h
    have h : (zg (zin (0 : Int32) 47) (if (M.1 p1 (0 : Int32).toNatClampNeg) ≤ x3 then (some (x2, M)) else (zg (zin ((20 : Int32) + x3) 47) (if (M.1 p1 ((20 : Int32) + x3).toNatClampNeg) = (1 : Int32) then (zg (zin ((2 : Int32) + x3) 47) (zg (zin (M.1 p1 ((2 : Int32) + x3).toNatClampNeg) 6) (f_X12_loadOn_36 p1 (f_X12_loadOn_4 p1 n) M x3 (M.1 27 (M.1 p1 ((2 : Int32) + x3).toNatClampNeg).toNatClampNeg) x2))) else (f_X12_loadOn_36 p1 (f_X12_loadOn_4 p1 n) M x3 (0 : Int32) x2))))) = some (r, M') := h
    refine zw_iload_n C 3 rfl dX12_loadOn_4 rfl ?_
    refine zw_aload_n C 1 rfl dX12_loadOn_5 rfl ?_
    refine zw_iconst (v := (0 : Int32)) C dX12_loadOn_6 ct_i_0 ?_
    obtain ⟨hi1, h⟩ := zg_e h
    refine zw_iald C hp1 (zin_e hi1) dX12_loadOn_7 ?_
    refine zw_icmp_ge (tgt := 44) C dX12_loadOn_8 (by decide) (fun hb2 => ?_) (fun hb2 => ?_)
    · have h := zt_ hb2 h
      refine zw_iload_n C 2 rfl dX12_loadOn_44 rfl ?_
      exact zw_ireturnE C h dX12_loadOn_45
    · have h := zf_ hb2 h
      refine zw_iload_n C 2 rfl dX12_loadOn_11 rfl ?_
      refine zw_aload_n C 1 rfl dX12_loadOn_12 rfl ?_
      refine zw_bipush (v := (20 : Int32)) C dX12_loadOn_13 ct_b_20 ?_
      refine zw_iload_n C 3 rfl dX12_loadOn_15 rfl ?_
      refine zw_iadd C dX12_loadOn_16 ?_
      obtain ⟨hi3, h⟩ := zg_e h
      refine zw_iald C hp1 (zin_e hi3) dX12_loadOn_17 ?_
      refine zw_iconst (v := (1 : Int32)) C dX12_loadOn_18 ct_i_1 ?_
      refine zw_icmp_ne (tgt := 35) C dX12_loadOn_19 (by decide) (fun hb4 => ?_) (fun hb4 => ?_)
      · have h := zt_ hb4 h
        refine zw_aload_n C 0 rfl dX12_loadOn_22 rfl ?_
        refine zw_get (v := .ref (E.2.1 27)) C (by decide) (zc_25 E) rfl zin_X12 5 (by decide) gw_3_200 rfl dX12_loadOn_23 ?_
        refine zw_aload_n C 1 rfl dX12_loadOn_26 rfl ?_
        refine zw_iconst (v := (2 : Int32)) C dX12_loadOn_27 ct_i_2 ?_
        refine zw_iload_n C 3 rfl dX12_loadOn_28 rfl ?_
        refine zw_iadd C dX12_loadOn_29 ?_
        obtain ⟨hi5, h⟩ := zg_e h
        refine zw_iald C hp1 (zin_e hi5) dX12_loadOn_30 ?_
        obtain ⟨hi6, h⟩ := zg_e h
        refine zw_iald C zia_27 (zin_e hi6) dX12_loadOn_31 ?_
        refine zw_goto (tgt := 36) C dX12_loadOn_32 (by decide) ?_
        refine zw_sb [0, 1, 3] rfl ?_
        exact p_X12_loadOn_36 C hp1 (fun _ _ _ h => ih _ _ _ h) h
      · have h := zf_ hb4 h
        refine zw_iconst (v := (0 : Int32)) C dX12_loadOn_35 ct_i_0 ?_
        refine zw_sb [0, 1, 3] rfl ?_
        exact p_X12_loadOn_36 C hp1 (fun _ _ _ h => ih _ _ _ h) h
def f_X12_loadOn_0 (p1 : Nat) (M : zM) : Option (Int32 × zM) := f_X12_loadOn_4 p1 zFU M (0 : Int32) (0 : Int32)
set_option maxRecDepth 20000 in
set_option maxHeartbeats 2000000 in
theorem p_X12_loadOn_0 {X : zX} {E : zE} {p1 : Nat} {r : Int32} {M' : zM} (C : zC X E cX12_loadOn 4 RX12 (some .int) 0) (hp1 : zia p1 47) {M : zM} (h : f_X12_loadOn_0 p1 M = some (r, M')) : zW X E (zRQ X E (some (.int r)) M') M 0 [(0, .ref (E.2.1 25)), (1, .ref (E.2.1 p1))] [] := by
  have h : (f_X12_loadOn_4 p1 zFU M (0 : Int32) (0 : Int32)) = some (r, M') := h
  refine zw_iconst (v := (0 : Int32)) C dX12_loadOn_0 ct_i_0 ?_
  refine zw_istore_n (lv' := [(2, .int (0 : Int32)), (0, .ref (E.2.1 25)), (1, .ref (E.2.1 p1))]) C dX12_loadOn_1 rfl (by decide) rfl ?_
  refine zw_iconst (v := (0 : Int32)) C dX12_loadOn_2 ct_i_0 ?_
  refine zw_istore_n (lv' := [(3, .int (0 : Int32)), (2, .int (0 : Int32)), (0, .ref (E.2.1 25)), (1, .ref (E.2.1 p1))]) C dX12_loadOn_3 rfl (by decide) rfl ?_
  refine zw_sb [2, 3, 1, 0] rfl ?_
  exact p_X12_loadOn_4 C hp1 zFU _ _ _ h
def f_X12_loadOn (M : zM) (p1 : Nat) : Option (Int32 × zM) := f_X12_loadOn_0 p1 M
theorem m_X12_loadOn {l : Launch} {E : zE} (hI : zI E) {M M' : zM} {p1 : Nat} {r : Int32} (hp1 : zia p1 47) (h : f_X12_loadOn M p1 = some (r, M')) : zMet l E yX12_loadOn cX12_loadOn 4 (some .int) 0 [.ref (E.2.1 25), .ref (E.2.1 p1)] M M' (some (.int r)) := zm_of hI (by decide) (Nat.le_of_ble_eq_true rfl) (fun X _ C => p_X12_loadOn_0 C hp1 h)
theorem kv_X12_loadOn : zKV yX12_loadOn cX12_loadOn 4 (some .int) 1 := ⟨⟨gw_4_138, gs_33, gw_1_13, gw_4_139⟩, ⟨by decide, by decide, by decide +kernel⟩, by decide⟩
-- WingDoorModel.dragOn([I)I, 8 instructions, depth 1
def f_X12_dragOn_0 (p1 : Nat) (M : zM) : Option (Int32 × zM) := zbi (f_X12_those M p1 (1 : Int32)) (fun r2 M3 => zbi (f_X12_bits M3 r2) (fun r5 M6 => some ((M.1 25 2) + r5, M6)))
set_option maxRecDepth 20000 in
set_option maxHeartbeats 2000000 in
theorem p_X12_dragOn_0 {X : zX} {E : zE} {p1 : Nat} {r : Int32} {M' : zM} (C : zC X E cX12_dragOn 2 RX12 (some .int) 1) (hp1 : zia p1 47) {M : zM} (h : f_X12_dragOn_0 p1 M = some (r, M')) : zW X E (zRQ X E (some (.int r)) M') M 0 [(0, .ref (E.2.1 25)), (1, .ref (E.2.1 p1))] [] := by
  have h : (zbi (f_X12_those M p1 (1 : Int32)) (fun r2 M3 => zbi (f_X12_bits M3 r2) (fun r5 M6 => some ((M.1 25 2) + r5, M6)))) = some (r, M') := h
  refine zw_aload_n C 0 rfl dX12_dragOn_0 rfl ?_
  refine zw_get (v := .int (M.1 25 2)) C (by decide) (zc_25 E) rfl zin_X12 2 (by decide) gw_3_197 rfl dX12_dragOn_1 ?_
  refine zw_aload_n C 1 rfl dX12_dragOn_4 rfl ?_
  refine zw_iconst (v := (1 : Int32)) C dX12_dragOn_5 ct_i_1 ?_
  obtain ⟨r2, M3, hq1, h⟩ := zbi_e h
  refine zw_callSi (As := [.ref (E.2.1 p1), .int (1 : Int32)]) (st := [.int (M.1 25 2)]) C (m_X12_those C.2.2.2.2.2.2.2.1 hp1 hq1) ks_X12_those gw_4_133 (by decide) rfl rfl (Nat.le_of_ble_eq_true rfl) dX12_dragOn_6 ?_
  obtain ⟨r5, M6, hq4, h⟩ := zbi_e h
  refine zw_callSi (As := [.int r2]) (st := [.int (M.1 25 2)]) C (m_X12_bits C.2.2.2.2.2.2.2.1 hq4) ks_X12_bits gw_4_144 (by decide) rfl rfl (Nat.le_of_ble_eq_true rfl) dX12_dragOn_9 ?_
  refine zw_iadd C dX12_dragOn_12 ?_
  exact zw_ireturnE C h dX12_dragOn_13
def f_X12_dragOn (M : zM) (p1 : Nat) : Option (Int32 × zM) := f_X12_dragOn_0 p1 M
theorem m_X12_dragOn {l : Launch} {E : zE} (hI : zI E) {M M' : zM} {p1 : Nat} {r : Int32} (hp1 : zia p1 47) (h : f_X12_dragOn M p1 = some (r, M')) : zMet l E yX12_dragOn cX12_dragOn 2 (some .int) 1 [.ref (E.2.1 25), .ref (E.2.1 p1)] M M' (some (.int r)) := zm_of hI (by decide) (Nat.le_of_ble_eq_true rfl) (fun X _ C => p_X12_dragOn_0 C hp1 h)
theorem kv_X12_dragOn : zKV yX12_dragOn cX12_dragOn 2 (some .int) 1 := ⟨⟨gw_4_142, gs_34, gw_1_13, gw_4_143⟩, ⟨by decide, by decide, by decide +kernel⟩, by decide⟩
-- WingDoorModel.sticksOn([I)Z, 15 instructions, depth 2
def f_X12_sticksOn_0 (p1 : Nat) (M : zM) : Option (Int32 × zM) := zbi (f_X12_those M p1 (1 : Int32)) (fun r2 M3 => if r2 = 0 then (some ((1 : Int32), M3)) else (zbi (f_X12_loadOn M3 p1) (fun r6 M7 => zbi (f_X12_dragOn M7 p1) (fun r9 M10 => if r9 ≤ r6 then (some ((0 : Int32), M10)) else (some ((1 : Int32), M10))))))
set_option maxRecDepth 20000 in
set_option maxHeartbeats 2000000 in
theorem p_X12_sticksOn_0 {X : zX} {E : zE} {p1 : Nat} {r : Int32} {M' : zM} (C : zC X E cX12_sticksOn 2 RX12 (some .boolean) 2) (hp1 : zia p1 47) {M : zM} (h : f_X12_sticksOn_0 p1 M = some (r, M')) : zW X E (zRQ X E (some (.int r)) M') M 0 [(0, .ref (E.2.1 25)), (1, .ref (E.2.1 p1))] [] := by
  have h : (zbi (f_X12_those M p1 (1 : Int32)) (fun r2 M3 => if r2 = 0 then (some ((1 : Int32), M3)) else (zbi (f_X12_loadOn M3 p1) (fun r6 M7 => zbi (f_X12_dragOn M7 p1) (fun r9 M10 => if r9 ≤ r6 then (some ((0 : Int32), M10)) else (some ((1 : Int32), M10))))))) = some (r, M') := h
  refine zw_aload_n C 1 rfl dX12_sticksOn_0 rfl ?_
  refine zw_iconst (v := (1 : Int32)) C dX12_sticksOn_1 ct_i_1 ?_
  obtain ⟨r2, M3, hq1, h⟩ := zbi_e h
  refine zw_callSi (As := [.ref (E.2.1 p1), .int (1 : Int32)]) (st := []) C (m_X12_those C.2.2.2.2.2.2.2.1 hp1 hq1) ks_X12_those gw_4_133 (by decide) rfl rfl (Nat.le_of_ble_eq_true rfl) dX12_sticksOn_2 ?_
  refine zw_if_eq (tgt := 21) C dX12_sticksOn_5 (by decide) (fun hb4 => ?_) (fun hb4 => ?_)
  · have h := zt_ hb4 h
    refine zw_iconst (v := (1 : Int32)) C dX12_sticksOn_21 ct_i_1 ?_
    refine zw_goto (tgt := 26) C dX12_sticksOn_22 (by decide) ?_
    exact zw_zreturnE C rfl h dX12_sticksOn_26
  · have h := zf_ hb4 h
    refine zw_aload_n C 0 rfl dX12_sticksOn_8 rfl ?_
    refine zw_aload_n C 1 rfl dX12_sticksOn_9 rfl ?_
    obtain ⟨r6, M7, hq5, h⟩ := zbi_e h
    refine zw_callVi (As := [.ref (E.2.1 p1)]) (st := []) C (m_X12_loadOn C.2.2.2.2.2.2.2.1 hp1 hq5) kv_X12_loadOn gw_4_136 (by decide) (by decide) (zc_25 E) rfl rfl rfl rfl (Nat.le_of_ble_eq_true rfl) dX12_sticksOn_10 ?_
    refine zw_aload_n C 0 rfl dX12_sticksOn_13 rfl ?_
    refine zw_aload_n C 1 rfl dX12_sticksOn_14 rfl ?_
    obtain ⟨r9, M10, hq8, h⟩ := zbi_e h
    refine zw_callVi (As := [.ref (E.2.1 p1)]) (st := [.int r6]) C (m_X12_dragOn C.2.2.2.2.2.2.2.1 hp1 hq8) kv_X12_dragOn gw_4_140 (by decide) (by decide) (zc_25 E) rfl rfl rfl rfl (Nat.le_of_ble_eq_true rfl) dX12_sticksOn_15 ?_
    refine zw_icmp_ge (tgt := 25) C dX12_sticksOn_18 (by decide) (fun hb11 => ?_) (fun hb11 => ?_)
    · have h := zt_ hb11 h
      refine zw_iconst (v := (0 : Int32)) C dX12_sticksOn_25 ct_i_0 ?_
      exact zw_zreturnE C rfl h dX12_sticksOn_26
    · have h := zf_ hb11 h
      refine zw_iconst (v := (1 : Int32)) C dX12_sticksOn_21 ct_i_1 ?_
      refine zw_goto (tgt := 26) C dX12_sticksOn_22 (by decide) ?_
      exact zw_zreturnE C rfl h dX12_sticksOn_26
def f_X12_sticksOn (M : zM) (p1 : Nat) : Option (Int32 × zM) := f_X12_sticksOn_0 p1 M
theorem m_X12_sticksOn {l : Launch} {E : zE} (hI : zI E) {M M' : zM} {p1 : Nat} {r : Int32} (hp1 : zia p1 47) (h : f_X12_sticksOn M p1 = some (r, M')) : zMet l E yX12_sticksOn cX12_sticksOn 2 (some .boolean) 2 [.ref (E.2.1 25), .ref (E.2.1 p1)] M M' (some (.int r)) := zm_of hI (by decide) (Nat.le_of_ble_eq_true rfl) (fun X _ C => p_X12_sticksOn_0 C hp1 h)
theorem kv_X12_sticksOn : zKV yX12_sticksOn cX12_sticksOn 2 (some .boolean) 1 := ⟨⟨gw_4_131, gs_32, gw_1_13, gw_4_132⟩, ⟨by decide, by decide, by decide +kernel⟩, by decide⟩
-- WingDoorModel.goes([I)I, 86 instructions, depth 3
def f_X12_goes_103 (p1 : Nat) (k12 : zM → Int32 → Int32 → Option (Int32 × zM)) (M : zM) (x3 : Int32) (s0 : Int32) (s1 : Int32) : Option (Int32 × zM) := k12 M (s1 + s0) (x3 + (1 : Int32))
set_option maxRecDepth 20000 in
set_option maxHeartbeats 2000000 in
theorem p_X12_goes_103 {X : zX} {E : zE} {p1 : Nat} {r : Int32} {M' : zM} {k12 : zM → Int32 → Int32 → Option (Int32 × zM)} (C : zC X E cX12_goes 5 RX12 (some .int) 3) (hp1 : zia p1 47) (hk12 : ∀ (M : zM) (y2 : Int32) (y3 : Int32), k12 M y2 y3 = some (r, M') → zW X E (zRQ X E (some (.int r)) M') M 12 [(0, .ref (E.2.1 25)), (1, .ref (E.2.1 p1)), (2, .int y2), (3, .int y3)] []) {M : zM} {x3 : Int32} {s0 : Int32} {s1 : Int32} (h : f_X12_goes_103 p1 k12 M x3 s0 s1 = some (r, M')) : zW X E (zRQ X E (some (.int r)) M') M 103 [(0, .ref (E.2.1 25)), (1, .ref (E.2.1 p1)), (3, .int x3)] [.int s0, .int s1] := by
  have h : (k12 M (s1 + s0) (x3 + (1 : Int32))) = some (r, M') := h
  refine zw_iadd C dX12_goes_103 ?_
  refine zw_istore_n (lv' := [(2, .int (s1 + s0)), (0, .ref (E.2.1 25)), (1, .ref (E.2.1 p1)), (3, .int x3)]) C dX12_goes_104 rfl (by decide) rfl ?_
  refine zw_iinc (lv' := [(3, .int (x3 + (1 : Int32))), (2, .int (s1 + s0)), (0, .ref (E.2.1 25)), (1, .ref (E.2.1 p1))]) C 3 rfl dX12_goes_105 (ct_n_1 _) (by decide) rfl ?_
  refine zw_goto (tgt := 12) C dX12_goes_108 (by decide) ?_
  refine zw_sb [2, 3, 1, 0] rfl ?_
  exact hk12 _ _ _ h
def f_X12_goes_91 (p1 : Nat) (k12 : zM → Int32 → Int32 → Option (Int32 × zM)) (M : zM) (x2 : Int32) (x3 : Int32) (x4 : Int32) (s0 : Int32) (s1 : Int32) : Option (Int32 × zM) := zg (zin s1 47) (if x4 = 0 then (f_X12_goes_103 p1 k12 (zs M p1 s1.toNatClampNeg s0) x3 (0 : Int32) x2) else (f_X12_goes_103 p1 k12 (zs M p1 s1.toNatClampNeg s0) x3 (1 : Int32) x2))
set_option maxRecDepth 20000 in
set_option maxHeartbeats 2000000 in
theorem p_X12_goes_91 {X : zX} {E : zE} {p1 : Nat} {r : Int32} {M' : zM} {k12 : zM → Int32 → Int32 → Option (Int32 × zM)} (C : zC X E cX12_goes 5 RX12 (some .int) 3) (hp1 : zia p1 47) (hk12 : ∀ (M : zM) (y2 : Int32) (y3 : Int32), k12 M y2 y3 = some (r, M') → zW X E (zRQ X E (some (.int r)) M') M 12 [(0, .ref (E.2.1 25)), (1, .ref (E.2.1 p1)), (2, .int y2), (3, .int y3)] []) {M : zM} {x2 : Int32} {x3 : Int32} {x4 : Int32} {s0 : Int32} {s1 : Int32} (h : f_X12_goes_91 p1 k12 M x2 x3 x4 s0 s1 = some (r, M')) : zW X E (zRQ X E (some (.int r)) M') M 91 [(0, .ref (E.2.1 25)), (1, .ref (E.2.1 p1)), (2, .int x2), (3, .int x3), (4, .int x4)] [.int s0, .int s1, .ref (E.2.1 p1)] := by
  have h : (zg (zin s1 47) (if x4 = 0 then (f_X12_goes_103 p1 k12 (zs M p1 s1.toNatClampNeg s0) x3 (0 : Int32) x2) else (f_X12_goes_103 p1 k12 (zs M p1 s1.toNatClampNeg s0) x3 (1 : Int32) x2))) = some (r, M') := h
  obtain ⟨hi1, h⟩ := zg_e h
  refine zw_iast C hp1 (zin_e hi1) dX12_goes_91 ?_
  refine zw_iload_n C 2 rfl dX12_goes_92 rfl ?_
  refine zw_iload C 4 rfl dX12_goes_93 ?_
  refine zw_if_eq (tgt := 102) C dX12_goes_95 (by decide) (fun hb2 => ?_) (fun hb2 => ?_)
  · have h := zt_ hb2 h
    refine zw_iconst (v := (0 : Int32)) C dX12_goes_102 ct_i_0 ?_
    refine zw_sb [0, 1, 3] rfl ?_
    exact p_X12_goes_103 C hp1 hk12 h
  · have h := zf_ hb2 h
    refine zw_iconst (v := (1 : Int32)) C dX12_goes_98 ct_i_1 ?_
    refine zw_goto (tgt := 103) C dX12_goes_99 (by decide) ?_
    refine zw_sb [0, 1, 3] rfl ?_
    exact p_X12_goes_103 C hp1 hk12 h
def f_X12_goes_74 (p1 : Nat) (k12 : zM → Int32 → Int32 → Option (Int32 × zM)) (M : zM) (x2 : Int32) (x3 : Int32) (s0 : Int32) : Option (Int32 × zM) := if s0 = 0 then (f_X12_goes_91 p1 k12 M x2 x3 s0 (1 : Int32) ((20 : Int32) + x3)) else (f_X12_goes_91 p1 k12 M x2 x3 s0 (2 : Int32) ((20 : Int32) + x3))
set_option maxRecDepth 20000 in
set_option maxHeartbeats 2000000 in
theorem p_X12_goes_74 {X : zX} {E : zE} {p1 : Nat} {r : Int32} {M' : zM} {k12 : zM → Int32 → Int32 → Option (Int32 × zM)} (C : zC X E cX12_goes 5 RX12 (some .int) 3) (hp1 : zia p1 47) (hk12 : ∀ (M : zM) (y2 : Int32) (y3 : Int32), k12 M y2 y3 = some (r, M') → zW X E (zRQ X E (some (.int r)) M') M 12 [(0, .ref (E.2.1 25)), (1, .ref (E.2.1 p1)), (2, .int y2), (3, .int y3)] []) {M : zM} {x2 : Int32} {x3 : Int32} {s0 : Int32} (h : f_X12_goes_74 p1 k12 M x2 x3 s0 = some (r, M')) : zW X E (zRQ X E (some (.int r)) M') M 74 [(0, .ref (E.2.1 25)), (1, .ref (E.2.1 p1)), (2, .int x2), (3, .int x3)] [.int s0] := by
  have h : (if s0 = 0 then (f_X12_goes_91 p1 k12 M x2 x3 s0 (1 : Int32) ((20 : Int32) + x3)) else (f_X12_goes_91 p1 k12 M x2 x3 s0 (2 : Int32) ((20 : Int32) + x3))) = some (r, M') := h
  refine zw_istore (lv' := [(4, .int s0), (0, .ref (E.2.1 25)), (1, .ref (E.2.1 p1)), (2, .int x2), (3, .int x3)]) C dX12_goes_74 (by decide) rfl ?_
  refine zw_aload_n C 2 rfl dX12_goes_76 rfl ?_
  refine zw_bipush (v := (20 : Int32)) C dX12_goes_77 ct_b_20 ?_
  refine zw_iload_n C 4 rfl dX12_goes_79 rfl ?_
  refine zw_iadd C dX12_goes_80 ?_
  refine zw_iload C 0 rfl dX12_goes_81 ?_
  refine zw_if_eq (tgt := 90) C dX12_goes_83 (by decide) (fun hb1 => ?_) (fun hb1 => ?_)
  · have h := zt_ hb1 h
    refine zw_iconst (v := (1 : Int32)) C dX12_goes_90 ct_i_1 ?_
    refine zw_sb [1, 2, 3, 4, 0] rfl ?_
    exact p_X12_goes_91 C hp1 hk12 h
  · have h := zf_ hb1 h
    refine zw_iconst (v := (2 : Int32)) C dX12_goes_86 ct_i_2 ?_
    refine zw_goto (tgt := 91) C dX12_goes_87 (by decide) ?_
    refine zw_sb [1, 2, 3, 4, 0] rfl ?_
    exact p_X12_goes_91 C hp1 hk12 h
def f_X12_goes_48 (p1 : Nat) (k12 : zM → Int32 → Int32 → Option (Int32 × zM)) (M : zM) (x2 : Int32) (x3 : Int32) : Option (Int32 × zM) := zg (zin ((29 : Int32) + x3) 47) (zg (zin ((11 : Int32) + x3) 47) (zbi (f_X12_placeOf M ((1 : Int32) - (M.1 p1 ((11 : Int32) + x3).toNatClampNeg))) (fun r4 M5 => if (M.1 p1 ((29 : Int32) + x3).toNatClampNeg) = r4 then (f_X12_goes_74 p1 k12 M5 x2 x3 (1 : Int32)) else (f_X12_goes_74 p1 k12 M5 x2 x3 (0 : Int32)))))
set_option maxRecDepth 20000 in
set_option maxHeartbeats 2000000 in
theorem p_X12_goes_48 {X : zX} {E : zE} {p1 : Nat} {r : Int32} {M' : zM} {k12 : zM → Int32 → Int32 → Option (Int32 × zM)} (C : zC X E cX12_goes 5 RX12 (some .int) 3) (hp1 : zia p1 47) (hk12 : ∀ (M : zM) (y2 : Int32) (y3 : Int32), k12 M y2 y3 = some (r, M') → zW X E (zRQ X E (some (.int r)) M') M 12 [(0, .ref (E.2.1 25)), (1, .ref (E.2.1 p1)), (2, .int y2), (3, .int y3)] []) {M : zM} {x2 : Int32} {x3 : Int32} (h : f_X12_goes_48 p1 k12 M x2 x3 = some (r, M')) : zW X E (zRQ X E (some (.int r)) M') M 48 [(0, .ref (E.2.1 25)), (1, .ref (E.2.1 p1)), (2, .int x2), (3, .int x3)] [] := by
  have h : (zg (zin ((29 : Int32) + x3) 47) (zg (zin ((11 : Int32) + x3) 47) (zbi (f_X12_placeOf M ((1 : Int32) - (M.1 p1 ((11 : Int32) + x3).toNatClampNeg))) (fun r4 M5 => if (M.1 p1 ((29 : Int32) + x3).toNatClampNeg) = r4 then (f_X12_goes_74 p1 k12 M5 x2 x3 (1 : Int32)) else (f_X12_goes_74 p1 k12 M5 x2 x3 (0 : Int32)))))) = some (r, M') := h
  refine zw_aload_n C 1 rfl dX12_goes_48 rfl ?_
  refine zw_bipush (v := (29 : Int32)) C dX12_goes_49 ct_b_29 ?_
  refine zw_iload_n C 3 rfl dX12_goes_51 rfl ?_
  refine zw_iadd C dX12_goes_52 ?_
  obtain ⟨hi1, h⟩ := zg_e h
  refine zw_iald C hp1 (zin_e hi1) dX12_goes_53 ?_
  refine zw_aload_n C 0 rfl dX12_goes_54 rfl ?_
  refine zw_iconst (v := (1 : Int32)) C dX12_goes_55 ct_i_1 ?_
  refine zw_aload_n C 1 rfl dX12_goes_56 rfl ?_
  refine zw_bipush (v := (11 : Int32)) C dX12_goes_57 ct_b_11 ?_
  refine zw_iload_n C 3 rfl dX12_goes_59 rfl ?_
  refine zw_iadd C dX12_goes_60 ?_
  obtain ⟨hi2, h⟩ := zg_e h
  refine zw_iald C hp1 (zin_e hi2) dX12_goes_61 ?_
  refine zw_isub C dX12_goes_62 ?_
  obtain ⟨r4, M5, hq3, h⟩ := zbi_e h
  refine zw_callVi (As := [.int ((1 : Int32) - (M.1 p1 ((11 : Int32) + x3).toNatClampNeg))]) (st := [.int (M.1 p1 ((29 : Int32) + x3).toNatClampNeg)]) C (m_X12_placeOf C.2.2.2.2.2.2.2.1 hq3) kv_X12_placeOf gw_4_147 (by decide) (by decide) (zc_25 E) rfl rfl rfl rfl (Nat.le_of_ble_eq_true rfl) dX12_goes_63 ?_
  refine zw_icmp_ne (tgt := 73) C dX12_goes_66 (by decide) (fun hb6 => ?_) (fun hb6 => ?_)
  · have h := zt_ hb6 h
    refine zw_iconst (v := (1 : Int32)) C dX12_goes_69 ct_i_1 ?_
    refine zw_goto (tgt := 74) C dX12_goes_70 (by decide) ?_
    exact p_X12_goes_74 C hp1 hk12 h
  · have h := zf_ hb6 h
    refine zw_iconst (v := (0 : Int32)) C dX12_goes_73 ct_i_0 ?_
    exact p_X12_goes_74 C hp1 hk12 h
def f_X12_goes_116 (p1 : Nat) (M : zM) (x2 : Int32) : Option (Int32 × zM) := zg (zin (1 : Int32) 47) (zg (zin (1 : Int32) 47) (some (x2, zs M p1 (1 : Int32).toNatClampNeg ((M.1 p1 (1 : Int32).toNatClampNeg) + (1 : Int32)))))
set_option maxRecDepth 20000 in
set_option maxHeartbeats 2000000 in
theorem p_X12_goes_116 {X : zX} {E : zE} {p1 : Nat} {r : Int32} {M' : zM} (C : zC X E cX12_goes 5 RX12 (some .int) 3) (hp1 : zia p1 47) {M : zM} {x2 : Int32} (h : f_X12_goes_116 p1 M x2 = some (r, M')) : zW X E (zRQ X E (some (.int r)) M') M 116 [(0, .ref (E.2.1 25)), (1, .ref (E.2.1 p1)), (2, .int x2)] [] := by
  have h : (zg (zin (1 : Int32) 47) (zg (zin (1 : Int32) 47) (some (x2, zs M p1 (1 : Int32).toNatClampNeg ((M.1 p1 (1 : Int32).toNatClampNeg) + (1 : Int32)))))) = some (r, M') := h
  refine zw_aload_n C 1 rfl dX12_goes_116 rfl ?_
  refine zw_iconst (v := (1 : Int32)) C dX12_goes_117 ct_i_1 ?_
  refine zw_dup2 C rfl rfl dX12_goes_118 ?_
  obtain ⟨hi1, h⟩ := zg_e h
  refine zw_iald C hp1 (zin_e hi1) dX12_goes_119 ?_
  refine zw_iconst (v := (1 : Int32)) C dX12_goes_120 ct_i_1 ?_
  refine zw_iadd C dX12_goes_121 ?_
  obtain ⟨hi2, h⟩ := zg_e h
  refine zw_iast C hp1 (zin_e hi2) dX12_goes_122 ?_
  refine zw_iload_n C 2 rfl dX12_goes_123 rfl ?_
  exact zw_ireturnE C h dX12_goes_124
def f_X12_goes_12 (p1 : Nat) : Nat → zM → Int32 → Int32 → Option (Int32 × zM)
  | 0, _, _, _ => none
  | n + 1, M, x2, x3 => zg (zin (0 : Int32) 47) (if (M.1 p1 (0 : Int32).toNatClampNeg) ≤ x3 then (zbv (f_X12_fills M p1) (fun M5 => f_X12_goes_116 p1 M5 x2)) else (zg (zin ((20 : Int32) + x3) 47) (if (M.1 p1 ((20 : Int32) + x3).toNatClampNeg) = (1 : Int32) then (zg (zin ((29 : Int32) + x3) 47) (zg (znz (M.1 25 0)) (zg (zin ((29 : Int32) + x3) 47) (f_X12_goes_48 p1 (f_X12_goes_12 p1 n) (zs M p1 ((29 : Int32) + x3).toNatClampNeg (((M.1 p1 ((29 : Int32) + x3).toNatClampNeg) + (1 : Int32)) - ((M.1 p1 ((29 : Int32) + x3).toNatClampNeg) + (1 : Int32)) / (M.1 25 0) * (M.1 25 0))) x2 x3)))) else (f_X12_goes_12 p1 n M x2 (x3 + (1 : Int32))))))
set_option maxRecDepth 20000 in
set_option maxHeartbeats 2000000 in
theorem p_X12_goes_12 {X : zX} {E : zE} {p1 : Nat} {r : Int32} {M' : zM} (C : zC X E cX12_goes 5 RX12 (some .int) 3) (hp1 : zia p1 47) : ∀ (n : Nat) (M : zM) (x2 : Int32) (x3 : Int32), f_X12_goes_12 p1 n M x2 x3 = some (r, M') → zW X E (zRQ X E (some (.int r)) M') M 12 [(0, .ref (E.2.1 25)), (1, .ref (E.2.1 p1)), (2, .int x2), (3, .int x3)] [] := by
  intro n
  induction n with
  | zero => intro M x2 x3 h; cases h
  | succ n ih =>
    intro M x2 x3 h
    have h : (zg (zin (0 : Int32) 47) (if (M.1 p1 (0 : Int32).toNatClampNeg) ≤ x3 then (zbv (f_X12_fills M p1) (fun M5 => f_X12_goes_116 p1 M5 x2)) else (zg (zin ((20 : Int32) + x3) 47) (if (M.1 p1 ((20 : Int32) + x3).toNatClampNeg) = (1 : Int32) then (zg (zin ((29 : Int32) + x3) 47) (zg (znz (M.1 25 0)) (zg (zin ((29 : Int32) + x3) 47) (f_X12_goes_48 p1 (f_X12_goes_12 p1 n) (zs M p1 ((29 : Int32) + x3).toNatClampNeg (((M.1 p1 ((29 : Int32) + x3).toNatClampNeg) + (1 : Int32)) - ((M.1 p1 ((29 : Int32) + x3).toNatClampNeg) + (1 : Int32)) / (M.1 25 0) * (M.1 25 0))) x2 x3)))) else (f_X12_goes_12 p1 n M x2 (x3 + (1 : Int32))))))) = some (r, M') := h
    refine zw_iload_n C 3 rfl dX12_goes_12 rfl ?_
    refine zw_aload_n C 1 rfl dX12_goes_13 rfl ?_
    refine zw_iconst (v := (0 : Int32)) C dX12_goes_14 ct_i_0 ?_
    obtain ⟨hi1, h⟩ := zg_e h
    refine zw_iald C hp1 (zin_e hi1) dX12_goes_15 ?_
    refine zw_icmp_ge (tgt := 111) C dX12_goes_16 (by decide) (fun hb2 => ?_) (fun hb2 => ?_)
    · have h := zt_ hb2 h
      refine zw_aload_n C 0 rfl dX12_goes_111 rfl ?_
      refine zw_aload_n C 1 rfl dX12_goes_112 rfl ?_
      obtain ⟨M5, hq3, h⟩ := zbv_e h
      refine zw_callVv (As := [.ref (E.2.1 p1)]) (st := []) C (m_X12_fills C.2.2.2.2.2.2.2.1 hp1 hq3) kv_X12_fills gw_4_151 (by decide) (by decide) (zc_25 E) rfl rfl rfl rfl (Nat.le_of_ble_eq_true rfl) dX12_goes_113 ?_
      refine zw_sb [0, 1, 2] rfl ?_
      exact p_X12_goes_116 C hp1 h
    · have h := zf_ hb2 h
      refine zw_aload_n C 1 rfl dX12_goes_19 rfl ?_
      refine zw_bipush (v := (20 : Int32)) C dX12_goes_20 ct_b_20 ?_
      refine zw_iload_n C 3 rfl dX12_goes_22 rfl ?_
      refine zw_iadd C dX12_goes_23 ?_
      obtain ⟨hi6, h⟩ := zg_e h
      refine zw_iald C hp1 (zin_e hi6) dX12_goes_24 ?_
      refine zw_iconst (v := (1 : Int32)) C dX12_goes_25 ct_i_1 ?_
      refine zw_icmp_ne (tgt := 105) C dX12_goes_26 (by decide) (fun hb7 => ?_) (fun hb7 => ?_)
      · have h := zt_ hb7 h
        refine zw_aload_n C 1 rfl dX12_goes_29 rfl ?_
        refine zw_bipush (v := (29 : Int32)) C dX12_goes_30 ct_b_29 ?_
        refine zw_iload_n C 3 rfl dX12_goes_32 rfl ?_
        refine zw_iadd C dX12_goes_33 ?_
        refine zw_aload_n C 1 rfl dX12_goes_34 rfl ?_
        refine zw_bipush (v := (29 : Int32)) C dX12_goes_35 ct_b_29 ?_
        refine zw_iload_n C 3 rfl dX12_goes_37 rfl ?_
        refine zw_iadd C dX12_goes_38 ?_
        obtain ⟨hi8, h⟩ := zg_e h
        refine zw_iald C hp1 (zin_e hi8) dX12_goes_39 ?_
        refine zw_iconst (v := (1 : Int32)) C dX12_goes_40 ct_i_1 ?_
        refine zw_iadd C dX12_goes_41 ?_
        refine zw_aload_n C 0 rfl dX12_goes_42 rfl ?_
        refine zw_get (v := .int (M.1 25 0)) C (by decide) (zc_25 E) rfl zin_X12 0 (by decide) gw_3_195 rfl dX12_goes_43 ?_
        obtain ⟨hz9, h⟩ := zg_e h
        refine zw_irem C (znz_e hz9) dX12_goes_46 ?_
        obtain ⟨hi10, h⟩ := zg_e h
        refine zw_iast C hp1 (zin_e hi10) dX12_goes_47 ?_
        exact p_X12_goes_48 C hp1 (fun _ _ _ h => ih _ _ _ h) h
      · have h := zf_ hb7 h
        refine zw_iinc (lv' := [(3, .int (x3 + (1 : Int32))), (0, .ref (E.2.1 25)), (1, .ref (E.2.1 p1)), (2, .int x2)]) C 3 rfl dX12_goes_105 (ct_n_1 _) (by decide) rfl ?_
        refine zw_goto (tgt := 12) C dX12_goes_108 (by decide) ?_
        refine zw_sb [1, 2, 3, 0] rfl ?_
        exact ih _ _ _ h
def f_X12_goes_0 (p1 : Nat) (M : zM) : Option (Int32 × zM) := zbi (f_X12_sticksOn M p1) (fun r2 M3 => if r2 = 0 then (f_X12_goes_12 p1 zFU M3 (0 : Int32) (0 : Int32)) else (f_X12_goes_116 p1 M3 (0 : Int32)))
set_option maxRecDepth 20000 in
set_option maxHeartbeats 2000000 in
theorem p_X12_goes_0 {X : zX} {E : zE} {p1 : Nat} {r : Int32} {M' : zM} (C : zC X E cX12_goes 5 RX12 (some .int) 3) (hp1 : zia p1 47) {M : zM} (h : f_X12_goes_0 p1 M = some (r, M')) : zW X E (zRQ X E (some (.int r)) M') M 0 [(0, .ref (E.2.1 25)), (1, .ref (E.2.1 p1))] [] := by
  have h : (zbi (f_X12_sticksOn M p1) (fun r2 M3 => if r2 = 0 then (f_X12_goes_12 p1 zFU M3 (0 : Int32) (0 : Int32)) else (f_X12_goes_116 p1 M3 (0 : Int32)))) = some (r, M') := h
  refine zw_iconst (v := (0 : Int32)) C dX12_goes_0 ct_i_0 ?_
  refine zw_istore_n (lv' := [(2, .int (0 : Int32)), (0, .ref (E.2.1 25)), (1, .ref (E.2.1 p1))]) C dX12_goes_1 rfl (by decide) rfl ?_
  refine zw_aload_n C 1 rfl dX12_goes_2 rfl ?_
  refine zw_aload_n C 2 rfl dX12_goes_3 rfl ?_
  obtain ⟨r2, M3, hq1, h⟩ := zbi_e h
  refine zw_callVi (As := [.ref (E.2.1 p1)]) (st := []) C (m_X12_sticksOn C.2.2.2.2.2.2.2.1 hp1 hq1) kv_X12_sticksOn gw_4_129 (by decide) (by decide) (zc_25 E) rfl rfl rfl rfl (Nat.le_of_ble_eq_true rfl) dX12_goes_4 ?_
  refine zw_if_ne (tgt := 116) C dX12_goes_7 (by decide) (fun hb4 => ?_) (fun hb4 => ?_)
  · have h := zt_ hb4 h
    refine zw_iconst (v := (0 : Int32)) C dX12_goes_10 ct_i_0 ?_
    refine zw_istore_n (lv' := [(3, .int (0 : Int32)), (2, .int (0 : Int32)), (0, .ref (E.2.1 25)), (1, .ref (E.2.1 p1))]) C dX12_goes_11 rfl (by decide) rfl ?_
    refine zw_sb [2, 3, 1, 0] rfl ?_
    exact p_X12_goes_12 C hp1 zFU _ _ _ h
  · have h := zf_ hb4 h
    refine zw_sb [1, 2, 0] rfl ?_
    exact p_X12_goes_116 C hp1 h
def f_X12_goes (M : zM) (p1 : Nat) : Option (Int32 × zM) := f_X12_goes_0 p1 M
theorem m_X12_goes {l : Launch} {E : zE} (hI : zI E) {M M' : zM} {p1 : Nat} {r : Int32} (hp1 : zia p1 47) (h : f_X12_goes M p1 = some (r, M')) : zMet l E yX12_goes cX12_goes 5 (some .int) 3 [.ref (E.2.1 25), .ref (E.2.1 p1)] M M' (some (.int r)) := zm_of hI (by decide) (Nat.le_of_ble_eq_true rfl) (fun X _ C => p_X12_goes_0 C hp1 h)
theorem kv_X12_goes : zKV yX12_goes cX12_goes 5 (some .int) 1 := ⟨⟨gw_4_127, gs_31, gw_1_13, gw_4_128⟩, ⟨by decide, by decide, by decide +kernel⟩, by decide⟩
-- WingDoorModel.aheadOf([II)I, 47 instructions, depth 0
def f_X12_aheadOf_56 (p0 : Nat) (x1 : Int32) (k4 : zM → Int32 → Int32 → Option (Int32 × zM)) (M : zM) (x3 : Int32) (s0 : Int32) (s1 : Int32) : Option (Int32 × zM) := k4 M (s1 + s0) (x3 + (1 : Int32))
set_option maxRecDepth 20000 in
set_option maxHeartbeats 2000000 in
theorem p_X12_aheadOf_56 {X : zX} {E : zE} {p0 : Nat} {x1 : Int32} {r : Int32} {M' : zM} {k4 : zM → Int32 → Int32 → Option (Int32 × zM)} (C : zC X E cX12_aheadOf 4 RX12 (some .int) 0) (hp0 : zia p0 47) (hk4 : ∀ (M : zM) (y2 : Int32) (y3 : Int32), k4 M y2 y3 = some (r, M') → zW X E (zRQ X E (some (.int r)) M') M 4 [(0, .ref (E.2.1 p0)), (1, .int x1), (2, .int y2), (3, .int y3)] []) {M : zM} {x3 : Int32} {s0 : Int32} {s1 : Int32} (h : f_X12_aheadOf_56 p0 x1 k4 M x3 s0 s1 = some (r, M')) : zW X E (zRQ X E (some (.int r)) M') M 56 [(0, .ref (E.2.1 p0)), (1, .int x1), (3, .int x3)] [.int s0, .int s1] := by
  have h : (k4 M (s1 + s0) (x3 + (1 : Int32))) = some (r, M') := h
  refine zw_iadd C dX12_aheadOf_56 ?_
  refine zw_istore_n (lv' := [(2, .int (s1 + s0)), (0, .ref (E.2.1 p0)), (1, .int x1), (3, .int x3)]) C dX12_aheadOf_57 rfl (by decide) rfl ?_
  refine zw_iinc (lv' := [(3, .int (x3 + (1 : Int32))), (2, .int (s1 + s0)), (0, .ref (E.2.1 p0)), (1, .int x1)]) C 3 rfl dX12_aheadOf_58 (ct_n_1 _) (by decide) rfl ?_
  refine zw_goto (tgt := 4) C dX12_aheadOf_61 (by decide) ?_
  refine zw_sb [2, 3, 1, 0] rfl ?_
  exact hk4 _ _ _ h
def f_X12_aheadOf_4 (p0 : Nat) (x1 : Int32) : Nat → zM → Int32 → Int32 → Option (Int32 × zM)
  | 0, _, _, _ => none
  | n + 1, M, x2, x3 => zg (zin (0 : Int32) 47) (if (M.1 p0 (0 : Int32).toNatClampNeg) ≤ x3 then (some (x2, M)) else (zg (zin ((20 : Int32) + x3) 47) (if (M.1 p0 ((20 : Int32) + x3).toNatClampNeg) = 0 then (zg (zin ((11 : Int32) + x3) 47) (zg (zin ((11 : Int32) + x1) 47) (if (M.1 p0 ((11 : Int32) + x3).toNatClampNeg) = (M.1 p0 ((11 : Int32) + x1).toNatClampNeg) then (zg (zin ((38 : Int32) + x3) 47) (zg (zin ((38 : Int32) + x1) 47) (if (M.1 p0 ((38 : Int32) + x1).toNatClampNeg) ≤ (M.1 p0 ((38 : Int32) + x3).toNatClampNeg) then (f_X12_aheadOf_56 p0 x1 (f_X12_aheadOf_4 p0 x1 n) M x3 (0 : Int32) x2) else (f_X12_aheadOf_56 p0 x1 (f_X12_aheadOf_4 p0 x1 n) M x3 (1 : Int32) x2)))) else (f_X12_aheadOf_56 p0 x1 (f_X12_aheadOf_4 p0 x1 n) M x3 (0 : Int32) x2)))) else (f_X12_aheadOf_56 p0 x1 (f_X12_aheadOf_4 p0 x1 n) M x3 (0 : Int32) x2))))
set_option maxRecDepth 20000 in
set_option maxHeartbeats 2000000 in
theorem p_X12_aheadOf_4 {X : zX} {E : zE} {p0 : Nat} {x1 : Int32} {r : Int32} {M' : zM} (C : zC X E cX12_aheadOf 4 RX12 (some .int) 0) (hp0 : zia p0 47) : ∀ (n : Nat) (M : zM) (x2 : Int32) (x3 : Int32), f_X12_aheadOf_4 p0 x1 n M x2 x3 = some (r, M') → zW X E (zRQ X E (some (.int r)) M') M 4 [(0, .ref (E.2.1 p0)), (1, .int x1), (2, .int x2), (3, .int x3)] [] := by
  intro n
  induction n with
  | zero => intro M x2 x3 h; cases h
  | succ n ih =>
    intro M x2 x3 h
    have h : (zg (zin (0 : Int32) 47) (if (M.1 p0 (0 : Int32).toNatClampNeg) ≤ x3 then (some (x2, M)) else (zg (zin ((20 : Int32) + x3) 47) (if (M.1 p0 ((20 : Int32) + x3).toNatClampNeg) = 0 then (zg (zin ((11 : Int32) + x3) 47) (zg (zin ((11 : Int32) + x1) 47) (if (M.1 p0 ((11 : Int32) + x3).toNatClampNeg) = (M.1 p0 ((11 : Int32) + x1).toNatClampNeg) then (zg (zin ((38 : Int32) + x3) 47) (zg (zin ((38 : Int32) + x1) 47) (if (M.1 p0 ((38 : Int32) + x1).toNatClampNeg) ≤ (M.1 p0 ((38 : Int32) + x3).toNatClampNeg) then (f_X12_aheadOf_56 p0 x1 (f_X12_aheadOf_4 p0 x1 n) M x3 (0 : Int32) x2) else (f_X12_aheadOf_56 p0 x1 (f_X12_aheadOf_4 p0 x1 n) M x3 (1 : Int32) x2)))) else (f_X12_aheadOf_56 p0 x1 (f_X12_aheadOf_4 p0 x1 n) M x3 (0 : Int32) x2)))) else (f_X12_aheadOf_56 p0 x1 (f_X12_aheadOf_4 p0 x1 n) M x3 (0 : Int32) x2))))) = some (r, M') := h
    refine zw_iload_n C 3 rfl dX12_aheadOf_4 rfl ?_
    refine zw_aload_n C 0 rfl dX12_aheadOf_5 rfl ?_
    refine zw_iconst (v := (0 : Int32)) C dX12_aheadOf_6 ct_i_0 ?_
    obtain ⟨hi1, h⟩ := zg_e h
    refine zw_iald C hp0 (zin_e hi1) dX12_aheadOf_7 ?_
    refine zw_icmp_ge (tgt := 64) C dX12_aheadOf_8 (by decide) (fun hb2 => ?_) (fun hb2 => ?_)
    · have h := zt_ hb2 h
      refine zw_iload_n C 2 rfl dX12_aheadOf_64 rfl ?_
      exact zw_ireturnE C h dX12_aheadOf_65
    · have h := zf_ hb2 h
      refine zw_iload_n C 2 rfl dX12_aheadOf_11 rfl ?_
      refine zw_aload_n C 0 rfl dX12_aheadOf_12 rfl ?_
      refine zw_bipush (v := (20 : Int32)) C dX12_aheadOf_13 ct_b_20 ?_
      refine zw_iload_n C 3 rfl dX12_aheadOf_15 rfl ?_
      refine zw_iadd C dX12_aheadOf_16 ?_
      obtain ⟨hi3, h⟩ := zg_e h
      refine zw_iald C hp0 (zin_e hi3) dX12_aheadOf_17 ?_
      refine zw_if_ne (tgt := 55) C dX12_aheadOf_18 (by decide) (fun hb4 => ?_) (fun hb4 => ?_)
      · have h := zt_ hb4 h
        refine zw_aload_n C 0 rfl dX12_aheadOf_21 rfl ?_
        refine zw_bipush (v := (11 : Int32)) C dX12_aheadOf_22 ct_b_11 ?_
        refine zw_iload_n C 3 rfl dX12_aheadOf_24 rfl ?_
        refine zw_iadd C dX12_aheadOf_25 ?_
        obtain ⟨hi5, h⟩ := zg_e h
        refine zw_iald C hp0 (zin_e hi5) dX12_aheadOf_26 ?_
        refine zw_aload_n C 0 rfl dX12_aheadOf_27 rfl ?_
        refine zw_bipush (v := (11 : Int32)) C dX12_aheadOf_28 ct_b_11 ?_
        refine zw_iload_n C 1 rfl dX12_aheadOf_30 rfl ?_
        refine zw_iadd C dX12_aheadOf_31 ?_
        obtain ⟨hi6, h⟩ := zg_e h
        refine zw_iald C hp0 (zin_e hi6) dX12_aheadOf_32 ?_
        refine zw_icmp_ne (tgt := 55) C dX12_aheadOf_33 (by decide) (fun hb7 => ?_) (fun hb7 => ?_)
        · have h := zt_ hb7 h
          refine zw_aload_n C 0 rfl dX12_aheadOf_36 rfl ?_
          refine zw_bipush (v := (38 : Int32)) C dX12_aheadOf_37 ct_b_38 ?_
          refine zw_iload_n C 3 rfl dX12_aheadOf_39 rfl ?_
          refine zw_iadd C dX12_aheadOf_40 ?_
          obtain ⟨hi8, h⟩ := zg_e h
          refine zw_iald C hp0 (zin_e hi8) dX12_aheadOf_41 ?_
          refine zw_aload_n C 0 rfl dX12_aheadOf_42 rfl ?_
          refine zw_bipush (v := (38 : Int32)) C dX12_aheadOf_43 ct_b_38 ?_
          refine zw_iload_n C 1 rfl dX12_aheadOf_45 rfl ?_
          refine zw_iadd C dX12_aheadOf_46 ?_
          obtain ⟨hi9, h⟩ := zg_e h
          refine zw_iald C hp0 (zin_e hi9) dX12_aheadOf_47 ?_
          refine zw_icmp_ge (tgt := 55) C dX12_aheadOf_48 (by decide) (fun hb10 => ?_) (fun hb10 => ?_)
          · have h := zt_ hb10 h
            refine zw_iconst (v := (0 : Int32)) C dX12_aheadOf_55 ct_i_0 ?_
            refine zw_sb [0, 1, 3] rfl ?_
            exact p_X12_aheadOf_56 C hp0 (fun _ _ _ h => ih _ _ _ h) h
          · have h := zf_ hb10 h
            refine zw_iconst (v := (1 : Int32)) C dX12_aheadOf_51 ct_i_1 ?_
            refine zw_goto (tgt := 56) C dX12_aheadOf_52 (by decide) ?_
            refine zw_sb [0, 1, 3] rfl ?_
            exact p_X12_aheadOf_56 C hp0 (fun _ _ _ h => ih _ _ _ h) h
        · have h := zf_ hb7 h
          refine zw_iconst (v := (0 : Int32)) C dX12_aheadOf_55 ct_i_0 ?_
          refine zw_sb [0, 1, 3] rfl ?_
          exact p_X12_aheadOf_56 C hp0 (fun _ _ _ h => ih _ _ _ h) h
      · have h := zf_ hb4 h
        refine zw_iconst (v := (0 : Int32)) C dX12_aheadOf_55 ct_i_0 ?_
        refine zw_sb [0, 1, 3] rfl ?_
        exact p_X12_aheadOf_56 C hp0 (fun _ _ _ h => ih _ _ _ h) h
def f_X12_aheadOf_0 (p0 : Nat) (x1 : Int32) (M : zM) : Option (Int32 × zM) := f_X12_aheadOf_4 p0 x1 zFU M (0 : Int32) (0 : Int32)
set_option maxRecDepth 20000 in
set_option maxHeartbeats 2000000 in
theorem p_X12_aheadOf_0 {X : zX} {E : zE} {p0 : Nat} {x1 : Int32} {r : Int32} {M' : zM} (C : zC X E cX12_aheadOf 4 RX12 (some .int) 0) (hp0 : zia p0 47) {M : zM} (h : f_X12_aheadOf_0 p0 x1 M = some (r, M')) : zW X E (zRQ X E (some (.int r)) M') M 0 [(0, .ref (E.2.1 p0)), (1, .int x1)] [] := by
  have h : (f_X12_aheadOf_4 p0 x1 zFU M (0 : Int32) (0 : Int32)) = some (r, M') := h
  refine zw_iconst (v := (0 : Int32)) C dX12_aheadOf_0 ct_i_0 ?_
  refine zw_istore_n (lv' := [(2, .int (0 : Int32)), (0, .ref (E.2.1 p0)), (1, .int x1)]) C dX12_aheadOf_1 rfl (by decide) rfl ?_
  refine zw_iconst (v := (0 : Int32)) C dX12_aheadOf_2 ct_i_0 ?_
  refine zw_istore_n (lv' := [(3, .int (0 : Int32)), (2, .int (0 : Int32)), (0, .ref (E.2.1 p0)), (1, .int x1)]) C dX12_aheadOf_3 rfl (by decide) rfl ?_
  refine zw_sb [2, 3, 1, 0] rfl ?_
  exact p_X12_aheadOf_4 C hp0 zFU _ _ _ h
def f_X12_aheadOf (M : zM) (p0 : Nat) (x1 : Int32) : Option (Int32 × zM) := f_X12_aheadOf_0 p0 x1 M
theorem m_X12_aheadOf {l : Launch} {E : zE} (hI : zI E) {M M' : zM} {p0 : Nat} {x1 : Int32} {r : Int32} (hp0 : zia p0 47) (h : f_X12_aheadOf M p0 x1 = some (r, M')) : zMet l E yX12_aheadOf cX12_aheadOf 4 (some .int) 0 [.ref (E.2.1 p0), .int x1] M M' (some (.int r)) := zm_of hI (by decide) (Nat.le_of_ble_eq_true rfl) (fun X _ C => p_X12_aheadOf_0 C hp0 h)
theorem ks_X12_aheadOf : zKS yX12_aheadOf cX12_aheadOf 4 (some .int) 2 := ⟨⟨gw_4_111, gw_1_13, gw_4_112⟩, ⟨by decide, by decide, by decide +kernel⟩, by decide⟩
-- WingDoorModel.layAside()V, 9 instructions, depth 1
def f_X12_layAside_0 (M : zM) : Option zM := zbv (f_X12_copies M 28 47 (0 : Int32) 29 47 (0 : Int32) (47 : Int32)) (fun M3 => some M3)
set_option maxRecDepth 20000 in
set_option maxHeartbeats 2000000 in
theorem p_X12_layAside_0 {X : zX} {E : zE} {M' : zM} (C : zC X E cX12_layAside 1 RX12 none 1) {M : zM} (h : f_X12_layAside_0  M = some M') : zW X E (zRQ X E none M') M 0 [(0, .ref (E.2.1 25))] [] := by
  have h : (zbv (f_X12_copies M 28 47 (0 : Int32) 29 47 (0 : Int32) (47 : Int32)) (fun M3 => some M3)) = some M' := h
  refine zw_aload_n C 0 rfl dX12_layAside_0 rfl ?_
  refine zw_get (v := .ref (E.2.1 28)) C (by decide) (zc_25 E) rfl zin_X12 6 (by decide) gw_3_201 rfl dX12_layAside_1 ?_
  refine zw_iconst (v := (0 : Int32)) C dX12_layAside_4 ct_i_0 ?_
  refine zw_aload_n C 0 rfl dX12_layAside_5 rfl ?_
  refine zw_get (v := .ref (E.2.1 29)) C (by decide) (zc_25 E) rfl zin_X12 7 (by decide) gw_3_202 rfl dX12_layAside_6 ?_
  refine zw_iconst (v := (0 : Int32)) C dX12_layAside_9 ct_i_0 ?_
  refine zw_bipush (v := (47 : Int32)) C dX12_layAside_10 ct_b_47 ?_
  obtain ⟨M3, hq1, h⟩ := zbv_e h
  refine zw_callSv (As := [.ref (E.2.1 28), .int (0 : Int32), .ref (E.2.1 29), .int (0 : Int32), .int (47 : Int32)]) (st := []) C (m_X12_copies C.2.2.2.2.2.2.2.1 zia_28 zia_29 hq1) ks_X12_copies gw_4_95 (by decide) rfl rfl (Nat.le_of_ble_eq_true rfl) dX12_layAside_12 ?_
  exact zw_returnE C h dX12_layAside_15
def f_X12_layAside (M : zM) : Option zM := f_X12_layAside_0 M
theorem m_X12_layAside {l : Launch} {E : zE} (hI : zI E) {M M' : zM} (h : f_X12_layAside M = some M') : zMet l E yX12_layAside cX12_layAside 1 none 1 [.ref (E.2.1 25)] M M' none := zm_of hI (by decide) (Nat.le_of_ble_eq_true rfl) (fun X _ C => p_X12_layAside_0 C h)
theorem kv_X12_layAside : zKV yX12_layAside cX12_layAside 1 none 0 := ⟨⟨gw_4_119, gs_29, gw_1_13, gw_4_120⟩, ⟨by decide, by decide, by decide +kernel⟩, by decide⟩
-- WingDoorModel.whenAside(I)I, 24 instructions, depth 4
def f_X12_whenAside_2 (x1 : Int32) : Nat → zM → Int32 → Option (Int32 × zM)
  | 0, _, _ => none
  | n + 1, M, x2 => if (61 : Int32) ≤ x2 then (some ((61 : Int32), M)) else (zg (zin ((20 : Int32) + x1) 47) (if (M.1 29 ((20 : Int32) + x1).toNatClampNeg) = (2 : Int32) then (some (x2, M)) else (zbi (f_X12_goes M 29) (fun r5 M6 => f_X12_whenAside_2 x1 n M6 (x2 + (1 : Int32))))))
set_option maxRecDepth 20000 in
set_option maxHeartbeats 2000000 in
theorem p_X12_whenAside_2 {X : zX} {E : zE} {x1 : Int32} {r : Int32} {M' : zM} (C : zC X E cX12_whenAside 4 RX12 (some .int) 4) : ∀ (n : Nat) (M : zM) (x2 : Int32), f_X12_whenAside_2 x1 n M x2 = some (r, M') → zW X E (zRQ X E (some (.int r)) M') M 2 [(0, .ref (E.2.1 25)), (1, .int x1), (2, .int x2)] [] := by
  intro n
  induction n with
  | zero => intro M x2 h; cases h
  | succ n ih =>
    intro M x2 h
    have h : (if (61 : Int32) ≤ x2 then (some ((61 : Int32), M)) else (zg (zin ((20 : Int32) + x1) 47) (if (M.1 29 ((20 : Int32) + x1).toNatClampNeg) = (2 : Int32) then (some (x2, M)) else (zbi (f_X12_goes M 29) (fun r5 M6 => f_X12_whenAside_2 x1 n M6 (x2 + (1 : Int32))))))) = some (r, M') := h
    refine zw_iload_n C 2 rfl dX12_whenAside_2 rfl ?_
    refine zw_bipush (v := (61 : Int32)) C dX12_whenAside_3 ct_b_61 ?_
    refine zw_icmp_ge (tgt := 38) C dX12_whenAside_5 (by decide) (fun hb1 => ?_) (fun hb1 => ?_)
    · have h := zt_ hb1 h
      refine zw_bipush (v := (61 : Int32)) C dX12_whenAside_38 ct_b_61 ?_
      exact zw_ireturnE C h dX12_whenAside_40
    · have h := zf_ hb1 h
      refine zw_aload_n C 0 rfl dX12_whenAside_8 rfl ?_
      refine zw_get (v := .ref (E.2.1 29)) C (by decide) (zc_25 E) rfl zin_X12 7 (by decide) gw_3_202 rfl dX12_whenAside_9 ?_
      refine zw_bipush (v := (20 : Int32)) C dX12_whenAside_12 ct_b_20 ?_
      refine zw_iload_n C 1 rfl dX12_whenAside_14 rfl ?_
      refine zw_iadd C dX12_whenAside_15 ?_
      obtain ⟨hi2, h⟩ := zg_e h
      refine zw_iald C zia_29 (zin_e hi2) dX12_whenAside_16 ?_
      refine zw_iconst (v := (2 : Int32)) C dX12_whenAside_17 ct_i_2 ?_
      refine zw_icmp_ne (tgt := 23) C dX12_whenAside_18 (by decide) (fun hb3 => ?_) (fun hb3 => ?_)
      · have h := zt_ hb3 h
        refine zw_iload_n C 2 rfl dX12_whenAside_21 rfl ?_
        exact zw_ireturnE C h dX12_whenAside_22
      · have h := zf_ hb3 h
        refine zw_aload_n C 0 rfl dX12_whenAside_23 rfl ?_
        refine zw_aload_n C 0 rfl dX12_whenAside_24 rfl ?_
        refine zw_get (v := .ref (E.2.1 29)) C (by decide) (zc_25 E) rfl zin_X12 7 (by decide) gw_3_202 rfl dX12_whenAside_25 ?_
        obtain ⟨r5, M6, hq4, h⟩ := zbi_e h
        refine zw_callVi (As := [.ref (E.2.1 29)]) (st := []) C (m_X12_goes C.2.2.2.2.2.2.2.1 zia_29 hq4) kv_X12_goes gw_4_125 (by decide) (by decide) (zc_25 E) rfl rfl rfl rfl (Nat.le_of_ble_eq_true rfl) dX12_whenAside_28 ?_
        refine zw_istore_n (lv' := [(3, .int r5), (0, .ref (E.2.1 25)), (1, .int x1), (2, .int x2)]) C dX12_whenAside_31 rfl (by decide) rfl ?_
        refine zw_iinc (lv' := [(2, .int (x2 + (1 : Int32))), (3, .int r5), (0, .ref (E.2.1 25)), (1, .int x1)]) C 3 rfl dX12_whenAside_32 (ct_n_1 _) (by decide) rfl ?_
        refine zw_goto (tgt := 2) C dX12_whenAside_35 (by decide) ?_
        refine zw_sb [2, 3, 0] rfl ?_
        exact ih _ _ h
def f_X12_whenAside_0 (x1 : Int32) (M : zM) : Option (Int32 × zM) := f_X12_whenAside_2 x1 zFU M (0 : Int32)
set_option maxRecDepth 20000 in
set_option maxHeartbeats 2000000 in
theorem p_X12_whenAside_0 {X : zX} {E : zE} {x1 : Int32} {r : Int32} {M' : zM} (C : zC X E cX12_whenAside 4 RX12 (some .int) 4) {M : zM} (h : f_X12_whenAside_0 x1 M = some (r, M')) : zW X E (zRQ X E (some (.int r)) M') M 0 [(0, .ref (E.2.1 25)), (1, .int x1)] [] := by
  have h : (f_X12_whenAside_2 x1 zFU M (0 : Int32)) = some (r, M') := h
  refine zw_iconst (v := (0 : Int32)) C dX12_whenAside_0 ct_i_0 ?_
  refine zw_istore_n (lv' := [(2, .int (0 : Int32)), (0, .ref (E.2.1 25)), (1, .int x1)]) C dX12_whenAside_1 rfl (by decide) rfl ?_
  refine zw_sb [1, 2, 0] rfl ?_
  exact p_X12_whenAside_2 C zFU _ _ h
def f_X12_whenAside (M : zM) (x1 : Int32) : Option (Int32 × zM) := f_X12_whenAside_0 x1 M
theorem m_X12_whenAside {l : Launch} {E : zE} (hI : zI E) {M M' : zM} {x1 : Int32} {r : Int32} (h : f_X12_whenAside M x1 = some (r, M')) : zMet l E yX12_whenAside cX12_whenAside 4 (some .int) 4 [.ref (E.2.1 25), .int x1] M M' (some (.int r)) := zm_of hI (by decide) (Nat.le_of_ble_eq_true rfl) (fun X _ C => p_X12_whenAside_0 C h)
theorem kv_X12_whenAside : zKV yX12_whenAside cX12_whenAside 4 (some .int) 1 := ⟨⟨gw_4_123, gs_30, gw_1_13, gw_4_124⟩, ⟨by decide, by decide, by decide +kernel⟩, by decide⟩
-- WingDoorModel.when(I)I, 13 instructions, depth 5
def f_X12_when_0 (x1 : Int32) (M : zM) : Option (Int32 × zM) := zbv (f_X12_layAside M) (fun M3 => zbi (f_X12_whenAside M3 x1) (fun r5 M6 => if r5 = (61 : Int32) then (some ((-9 : Int32), M6)) else (some (r5, M6))))
set_option maxRecDepth 20000 in
set_option maxHeartbeats 2000000 in
theorem p_X12_when_0 {X : zX} {E : zE} {x1 : Int32} {r : Int32} {M' : zM} (C : zC X E cX12_when 3 RX12 (some .int) 5) {M : zM} (h : f_X12_when_0 x1 M = some (r, M')) : zW X E (zRQ X E (some (.int r)) M') M 0 [(0, .ref (E.2.1 25)), (1, .int x1)] [] := by
  have h : (zbv (f_X12_layAside M) (fun M3 => zbi (f_X12_whenAside M3 x1) (fun r5 M6 => if r5 = (61 : Int32) then (some ((-9 : Int32), M6)) else (some (r5, M6))))) = some (r, M') := h
  refine zw_aload_n C 0 rfl dX12_when_0 rfl ?_
  obtain ⟨M3, hq1, h⟩ := zbv_e h
  refine zw_callVv (As := []) (st := []) C (m_X12_layAside C.2.2.2.2.2.2.2.1 hq1) kv_X12_layAside gw_4_117 (by decide) (by decide) (zc_25 E) rfl rfl rfl rfl (Nat.le_of_ble_eq_true rfl) dX12_when_1 ?_
  refine zw_aload_n C 0 rfl dX12_when_4 rfl ?_
  refine zw_iload_n C 1 rfl dX12_when_5 rfl ?_
  obtain ⟨r5, M6, hq4, h⟩ := zbi_e h
  refine zw_callVi (As := [.int x1]) (st := []) C (m_X12_whenAside C.2.2.2.2.2.2.2.1 hq4) kv_X12_whenAside gw_4_121 (by decide) (by decide) (zc_25 E) rfl rfl rfl rfl (Nat.le_of_ble_eq_true rfl) dX12_when_6 ?_
  refine zw_istore_n (lv' := [(2, .int r5), (0, .ref (E.2.1 25)), (1, .int x1)]) C dX12_when_9 rfl (by decide) rfl ?_
  refine zw_iload_n C 0 rfl dX12_when_10 rfl ?_
  refine zw_bipush (v := (61 : Int32)) C dX12_when_11 ct_b_61 ?_
  refine zw_icmp_ne (tgt := 21) C dX12_when_13 (by decide) (fun hb7 => ?_) (fun hb7 => ?_)
  · have h := zt_ hb7 h
    refine zw_bipush (v := (-9 : Int32)) C dX12_when_16 ct_b_m9 ?_
    refine zw_goto (tgt := 22) C dX12_when_18 (by decide) ?_
    exact zw_ireturnE C h dX12_when_22
  · have h := zf_ hb7 h
    refine zw_iload_n C 0 rfl dX12_when_21 rfl ?_
    exact zw_ireturnE C h dX12_when_22
def f_X12_when (M : zM) (x1 : Int32) : Option (Int32 × zM) := f_X12_when_0 x1 M
theorem m_X12_when {l : Launch} {E : zE} (hI : zI E) {M M' : zM} {x1 : Int32} {r : Int32} (h : f_X12_when M x1 = some (r, M')) : zMet l E yX12_when cX12_when 3 (some .int) 5 [.ref (E.2.1 25), .int x1] M M' (some (.int r)) := zm_of hI (by decide) (Nat.le_of_ble_eq_true rfl) (fun X _ C => p_X12_when_0 C h)
theorem kv_X12_when : zKV yX12_when cX12_when 3 (some .int) 1 := ⟨⟨gw_4_115, gs_28, gw_1_13, gw_4_116⟩, ⟨by decide, by decide, by decide +kernel⟩, by decide⟩
-- WingDoorModel.sticksFirst()I, 23 instructions, depth 4
def f_X12_sticksFirst_6 : Nat → zM → Int32 → Option (Int32 × zM)
  | 0, _, _ => none
  | n + 1, M, x1 => if (61 : Int32) ≤ x1 then (some ((-9 : Int32), M)) else (zbi (f_X12_sticksOn M 29) (fun r3 M4 => if r3 = 0 then (zbi (f_X12_goes M4 29) (fun r7 M8 => f_X12_sticksFirst_6 n M8 (x1 + (1 : Int32)))) else (some (x1, M4))))
set_option maxRecDepth 20000 in
set_option maxHeartbeats 2000000 in
theorem p_X12_sticksFirst_6 {X : zX} {E : zE} {r : Int32} {M' : zM} (C : zC X E cX12_sticksFirst 3 RX12 (some .int) 4) : ∀ (n : Nat) (M : zM) (x1 : Int32), f_X12_sticksFirst_6  n M x1 = some (r, M') → zW X E (zRQ X E (some (.int r)) M') M 6 [(0, .ref (E.2.1 25)), (1, .int x1)] [] := by
  intro n
  induction n with
  | zero => intro M x1 h; cases h
  | succ n ih =>
    intro M x1 h
    have h : (if (61 : Int32) ≤ x1 then (some ((-9 : Int32), M)) else (zbi (f_X12_sticksOn M 29) (fun r3 M4 => if r3 = 0 then (zbi (f_X12_goes M4 29) (fun r7 M8 => f_X12_sticksFirst_6 n M8 (x1 + (1 : Int32)))) else (some (x1, M4))))) = some (r, M') := h
    refine zw_iload_n C 1 rfl dX12_sticksFirst_6 rfl ?_
    refine zw_bipush (v := (61 : Int32)) C dX12_sticksFirst_7 ct_b_61 ?_
    refine zw_icmp_ge (tgt := 40) C dX12_sticksFirst_9 (by decide) (fun hb1 => ?_) (fun hb1 => ?_)
    · have h := zt_ hb1 h
      refine zw_bipush (v := (-9 : Int32)) C dX12_sticksFirst_40 ct_b_m9 ?_
      exact zw_ireturnE C h dX12_sticksFirst_42
    · have h := zf_ hb1 h
      refine zw_aload_n C 0 rfl dX12_sticksFirst_12 rfl ?_
      refine zw_aload_n C 0 rfl dX12_sticksFirst_13 rfl ?_
      refine zw_get (v := .ref (E.2.1 29)) C (by decide) (zc_25 E) rfl zin_X12 7 (by decide) gw_3_202 rfl dX12_sticksFirst_14 ?_
      obtain ⟨r3, M4, hq2, h⟩ := zbi_e h
      refine zw_callVi (As := [.ref (E.2.1 29)]) (st := []) C (m_X12_sticksOn C.2.2.2.2.2.2.2.1 zia_29 hq2) kv_X12_sticksOn gw_4_129 (by decide) (by decide) (zc_25 E) rfl rfl rfl rfl (Nat.le_of_ble_eq_true rfl) dX12_sticksFirst_17 ?_
      refine zw_if_eq (tgt := 25) C dX12_sticksFirst_20 (by decide) (fun hb5 => ?_) (fun hb5 => ?_)
      · have h := zt_ hb5 h
        refine zw_aload_n C 0 rfl dX12_sticksFirst_25 rfl ?_
        refine zw_aload_n C 0 rfl dX12_sticksFirst_26 rfl ?_
        refine zw_get (v := .ref (E.2.1 29)) C (by decide) (zc_25 E) rfl zin_X12 7 (by decide) gw_3_202 rfl dX12_sticksFirst_27 ?_
        obtain ⟨r7, M8, hq6, h⟩ := zbi_e h
        refine zw_callVi (As := [.ref (E.2.1 29)]) (st := []) C (m_X12_goes C.2.2.2.2.2.2.2.1 zia_29 hq6) kv_X12_goes gw_4_125 (by decide) (by decide) (zc_25 E) rfl rfl rfl rfl (Nat.le_of_ble_eq_true rfl) dX12_sticksFirst_30 ?_
        refine zw_istore_n (lv' := [(2, .int r7), (0, .ref (E.2.1 25)), (1, .int x1)]) C dX12_sticksFirst_33 rfl (by decide) rfl ?_
        refine zw_iinc (lv' := [(1, .int (x1 + (1 : Int32))), (2, .int r7), (0, .ref (E.2.1 25))]) C 2 rfl dX12_sticksFirst_34 (ct_n_1 _) (by decide) rfl ?_
        refine zw_goto (tgt := 6) C dX12_sticksFirst_37 (by decide) ?_
        refine zw_sb [2, 0] rfl ?_
        exact ih _ _ h
      · have h := zf_ hb5 h
        refine zw_iload_n C 1 rfl dX12_sticksFirst_23 rfl ?_
        exact zw_ireturnE C h dX12_sticksFirst_24
def f_X12_sticksFirst_0 (M : zM) : Option (Int32 × zM) := zbv (f_X12_layAside M) (fun M3 => f_X12_sticksFirst_6 zFU M3 (0 : Int32))
set_option maxRecDepth 20000 in
set_option maxHeartbeats 2000000 in
theorem p_X12_sticksFirst_0 {X : zX} {E : zE} {r : Int32} {M' : zM} (C : zC X E cX12_sticksFirst 3 RX12 (some .int) 4) {M : zM} (h : f_X12_sticksFirst_0  M = some (r, M')) : zW X E (zRQ X E (some (.int r)) M') M 0 [(0, .ref (E.2.1 25))] [] := by
  have h : (zbv (f_X12_layAside M) (fun M3 => f_X12_sticksFirst_6 zFU M3 (0 : Int32))) = some (r, M') := h
  refine zw_aload_n C 0 rfl dX12_sticksFirst_0 rfl ?_
  obtain ⟨M3, hq1, h⟩ := zbv_e h
  refine zw_callVv (As := []) (st := []) C (m_X12_layAside C.2.2.2.2.2.2.2.1 hq1) kv_X12_layAside gw_4_117 (by decide) (by decide) (zc_25 E) rfl rfl rfl rfl (Nat.le_of_ble_eq_true rfl) dX12_sticksFirst_1 ?_
  refine zw_iconst (v := (0 : Int32)) C dX12_sticksFirst_4 ct_i_0 ?_
  refine zw_istore_n (lv' := [(1, .int (0 : Int32)), (0, .ref (E.2.1 25))]) C dX12_sticksFirst_5 rfl (by decide) rfl ?_
  refine zw_sb [1, 0] rfl ?_
  exact p_X12_sticksFirst_6 C zFU _ _ h
def f_X12_sticksFirst (M : zM) : Option (Int32 × zM) := f_X12_sticksFirst_0 M
theorem m_X12_sticksFirst {l : Launch} {E : zE} (hI : zI E) {M M' : zM} {r : Int32} (h : f_X12_sticksFirst M = some (r, M')) : zMet l E yX12_sticksFirst cX12_sticksFirst 3 (some .int) 4 [.ref (E.2.1 25)] M M' (some (.int r)) := zm_of hI (by decide) (Nat.le_of_ble_eq_true rfl) (fun X _ C => p_X12_sticksFirst_0 C h)
theorem kv_X12_sticksFirst : zKV yX12_sticksFirst cX12_sticksFirst 3 (some .int) 0 := ⟨⟨gw_4_185, gs_39, gw_1_13, gw_4_186⟩, ⟨by decide, by decide, by decide +kernel⟩, by decide⟩
-- WingDoorModel.allOut()I, 28 instructions, depth 4
def f_X12_allOut_6 : Nat → zM → Int32 → Option (Int32 × zM)
  | 0, _, _ => none
  | n + 1, M, x1 => if (61 : Int32) ≤ x1 then (some ((-9 : Int32), M)) else (zbi (f_X12_those M 29 (0 : Int32)) (fun r3 M4 => zbi (f_X12_those M4 29 (1 : Int32)) (fun r6 M7 => if (r3 ||| r6) = 0 then (some (x1, M7)) else (zbi (f_X12_goes M7 29) (fun r10 M11 => f_X12_allOut_6 n M11 (x1 + (1 : Int32)))))))
set_option maxRecDepth 20000 in
set_option maxHeartbeats 2000000 in
theorem p_X12_allOut_6 {X : zX} {E : zE} {r : Int32} {M' : zM} (C : zC X E cX12_allOut 3 RX12 (some .int) 4) : ∀ (n : Nat) (M : zM) (x1 : Int32), f_X12_allOut_6  n M x1 = some (r, M') → zW X E (zRQ X E (some (.int r)) M') M 6 [(0, .ref (E.2.1 25)), (1, .int x1)] [] := by
  intro n
  induction n with
  | zero => intro M x1 h; cases h
  | succ n ih =>
    intro M x1 h
    have h : (if (61 : Int32) ≤ x1 then (some ((-9 : Int32), M)) else (zbi (f_X12_those M 29 (0 : Int32)) (fun r3 M4 => zbi (f_X12_those M4 29 (1 : Int32)) (fun r6 M7 => if (r3 ||| r6) = 0 then (some (x1, M7)) else (zbi (f_X12_goes M7 29) (fun r10 M11 => f_X12_allOut_6 n M11 (x1 + (1 : Int32)))))))) = some (r, M') := h
    refine zw_iload_n C 1 rfl dX12_allOut_6 rfl ?_
    refine zw_bipush (v := (61 : Int32)) C dX12_allOut_7 ct_b_61 ?_
    refine zw_icmp_ge (tgt := 49) C dX12_allOut_9 (by decide) (fun hb1 => ?_) (fun hb1 => ?_)
    · have h := zt_ hb1 h
      refine zw_bipush (v := (-9 : Int32)) C dX12_allOut_49 ct_b_m9 ?_
      exact zw_ireturnE C h dX12_allOut_51
    · have h := zf_ hb1 h
      refine zw_aload_n C 0 rfl dX12_allOut_12 rfl ?_
      refine zw_get (v := .ref (E.2.1 29)) C (by decide) (zc_25 E) rfl zin_X12 7 (by decide) gw_3_202 rfl dX12_allOut_13 ?_
      refine zw_iconst (v := (0 : Int32)) C dX12_allOut_16 ct_i_0 ?_
      obtain ⟨r3, M4, hq2, h⟩ := zbi_e h
      refine zw_callSi (As := [.ref (E.2.1 29), .int (0 : Int32)]) (st := []) C (m_X12_those C.2.2.2.2.2.2.2.1 zia_29 hq2) ks_X12_those gw_4_133 (by decide) rfl rfl (Nat.le_of_ble_eq_true rfl) dX12_allOut_17 ?_
      refine zw_aload_n C 0 rfl dX12_allOut_20 rfl ?_
      refine zw_get (v := .ref (E.2.1 29)) C (by decide) (zc_25 E) rfl zin_X12 7 (by decide) gw_3_202 rfl dX12_allOut_21 ?_
      refine zw_iconst (v := (1 : Int32)) C dX12_allOut_24 ct_i_1 ?_
      obtain ⟨r6, M7, hq5, h⟩ := zbi_e h
      refine zw_callSi (As := [.ref (E.2.1 29), .int (1 : Int32)]) (st := [.int r3]) C (m_X12_those C.2.2.2.2.2.2.2.1 zia_29 hq5) ks_X12_those gw_4_133 (by decide) rfl rfl (Nat.le_of_ble_eq_true rfl) dX12_allOut_25 ?_
      refine zw_ior C dX12_allOut_28 ?_
      refine zw_if_ne (tgt := 34) C dX12_allOut_29 (by decide) (fun hb8 => ?_) (fun hb8 => ?_)
      · have h := zt_ hb8 h
        refine zw_iload_n C 1 rfl dX12_allOut_32 rfl ?_
        exact zw_ireturnE C h dX12_allOut_33
      · have h := zf_ hb8 h
        refine zw_aload_n C 0 rfl dX12_allOut_34 rfl ?_
        refine zw_aload_n C 0 rfl dX12_allOut_35 rfl ?_
        refine zw_get (v := .ref (E.2.1 29)) C (by decide) (zc_25 E) rfl zin_X12 7 (by decide) gw_3_202 rfl dX12_allOut_36 ?_
        obtain ⟨r10, M11, hq9, h⟩ := zbi_e h
        refine zw_callVi (As := [.ref (E.2.1 29)]) (st := []) C (m_X12_goes C.2.2.2.2.2.2.2.1 zia_29 hq9) kv_X12_goes gw_4_125 (by decide) (by decide) (zc_25 E) rfl rfl rfl rfl (Nat.le_of_ble_eq_true rfl) dX12_allOut_39 ?_
        refine zw_istore_n (lv' := [(2, .int r10), (0, .ref (E.2.1 25)), (1, .int x1)]) C dX12_allOut_42 rfl (by decide) rfl ?_
        refine zw_iinc (lv' := [(1, .int (x1 + (1 : Int32))), (2, .int r10), (0, .ref (E.2.1 25))]) C 2 rfl dX12_allOut_43 (ct_n_1 _) (by decide) rfl ?_
        refine zw_goto (tgt := 6) C dX12_allOut_46 (by decide) ?_
        refine zw_sb [2, 0] rfl ?_
        exact ih _ _ h
def f_X12_allOut_0 (M : zM) : Option (Int32 × zM) := zbv (f_X12_layAside M) (fun M3 => f_X12_allOut_6 zFU M3 (0 : Int32))
set_option maxRecDepth 20000 in
set_option maxHeartbeats 2000000 in
theorem p_X12_allOut_0 {X : zX} {E : zE} {r : Int32} {M' : zM} (C : zC X E cX12_allOut 3 RX12 (some .int) 4) {M : zM} (h : f_X12_allOut_0  M = some (r, M')) : zW X E (zRQ X E (some (.int r)) M') M 0 [(0, .ref (E.2.1 25))] [] := by
  have h : (zbv (f_X12_layAside M) (fun M3 => f_X12_allOut_6 zFU M3 (0 : Int32))) = some (r, M') := h
  refine zw_aload_n C 0 rfl dX12_allOut_0 rfl ?_
  obtain ⟨M3, hq1, h⟩ := zbv_e h
  refine zw_callVv (As := []) (st := []) C (m_X12_layAside C.2.2.2.2.2.2.2.1 hq1) kv_X12_layAside gw_4_117 (by decide) (by decide) (zc_25 E) rfl rfl rfl rfl (Nat.le_of_ble_eq_true rfl) dX12_allOut_1 ?_
  refine zw_iconst (v := (0 : Int32)) C dX12_allOut_4 ct_i_0 ?_
  refine zw_istore_n (lv' := [(1, .int (0 : Int32)), (0, .ref (E.2.1 25))]) C dX12_allOut_5 rfl (by decide) rfl ?_
  refine zw_sb [1, 0] rfl ?_
  exact p_X12_allOut_6 C zFU _ _ h
def f_X12_allOut (M : zM) : Option (Int32 × zM) := f_X12_allOut_0 M
theorem m_X12_allOut {l : Launch} {E : zE} (hI : zI E) {M M' : zM} {r : Int32} (h : f_X12_allOut M = some (r, M')) : zMet l E yX12_allOut cX12_allOut 3 (some .int) 4 [.ref (E.2.1 25)] M M' (some (.int r)) := zm_of hI (by decide) (Nat.le_of_ble_eq_true rfl) (fun X _ C => p_X12_allOut_0 C h)
theorem kv_X12_allOut : zKV yX12_allOut cX12_allOut 3 (some .int) 0 := ⟨⟨gw_4_189, gs_40, gw_1_13, gw_4_190⟩, ⟨by decide, by decide, by decide +kernel⟩, by decide⟩
