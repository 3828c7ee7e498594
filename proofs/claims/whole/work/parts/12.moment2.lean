-- WingDoor$Moment.fill()V, 63 instructions, depth 2
def f_X5_fill_40 (c : Nat) (k2 : zM → Int32 → Option zM) : Nat → zM → Int32 → Int32 → Int32 → Int32 → Int32 → Option zM
  | 0, _, _, _, _, _, _ => none
  | n + 1, M, x1, x2, x3, x4, x5 => if (M.1 c 2) ≤ x5 then (k2 M (x1 + (1 : Int32))) else (if x4 = (-1 : Int32) then (k2 M (x1 + (1 : Int32))) else (zg (zin x4 9) (zbi (f_X7_bulkOf M 3 (M.1 (c + 1) x4.toNatClampNeg)) (fun r5 M6 => if 0 ≤ (x3 - r5) then (zg (zin x4 9) (zg (zin x4 9) (zbi (f_X5_firstOn (zs (zs M6 (c + 3) x4.toNatClampNeg (1 : Int32)) (c + 4) x4.toNatClampNeg x2) c x1) (fun r11 M12 => f_X5_fill_40 c k2 n M12 x1 x2 (x3 - r5) r11 (x5 + (1 : Int32)))))) else (k2 M6 (x1 + (1 : Int32)))))))
set_option maxRecDepth 20000 in
set_option maxHeartbeats 2000000 in
theorem p_X5_fill_40 {X : zX} {E : zE} {c : Nat} {M' : zM} {k2 : zM → Int32 → Option zM} (C : zC X E cX5_fill 6 RX5 none 2) (hc : zmp c) (hk2 : ∀ (M : zM) (y1 : Int32), k2 M y1 = some M' → zW X E (zRQ X E none M') M 2 [(0, .ref (E.2.1 c)), (1, .int y1)] []) : ∀ (n : Nat) (M : zM) (x1 : Int32) (x2 : Int32) (x3 : Int32) (x4 : Int32) (x5 : Int32), f_X5_fill_40 c k2 n M x1 x2 x3 x4 x5 = some M' → zW X E (zRQ X E none M') M 40 [(0, .ref (E.2.1 c)), (1, .int x1), (2, .int x2), (3, .int x3), (4, .int x4), (5, .int x5)] [] := by
  intro n
  induction n with
  | zero => intro M x1 x2 x3 x4 x5 h; cases h
  | succ n ih =>
    intro M x1 x2 x3 x4 x5 h
    have h : (if (M.1 c 2) ≤ x5 then (k2 M (x1 + (1 : Int32))) else (if x4 = (-1 : Int32) then (k2 M (x1 + (1 : Int32))) else (zg (zin x4 9) (zbi (f_X7_bulkOf M 3 (M.1 (c + 1) x4.toNatClampNeg)) (fun r5 M6 => if 0 ≤ (x3 - r5) then (zg (zin x4 9) (zg (zin x4 9) (zbi (f_X5_firstOn (zs (zs M6 (c + 3) x4.toNatClampNeg (1 : Int32)) (c + 4) x4.toNatClampNeg x2) c x1) (fun r11 M12 => f_X5_fill_40 c k2 n M12 x1 x2 (x3 - r5) r11 (x5 + (1 : Int32)))))) else (k2 M6 (x1 + (1 : Int32)))))))) = some M' := h
    refine zw_iload C 5 rfl dX5_fill_40 ?_
    refine zw_aload_n C 0 rfl dX5_fill_42 rfl ?_
    refine zw_get (v := .int (M.1 c 2)) C hc.lt (hc.c E) rfl zin_X5 2 (by decide) gw_1_106 rfl dX5_fill_43 ?_
    refine zw_icmp_ge (tgt := 108) C dX5_fill_46 (by decide) (fun hb1 => ?_) (fun hb1 => ?_)
    · have h := zt_ hb1 h
      refine zw_iinc (lv' := [(1, .int (x1 + (1 : Int32))), (0, .ref (E.2.1 c)), (2, .int x2), (3, .int x3), (4, .int x4), (5, .int x5)]) C 1 rfl dX5_fill_108 (ct_n_1 _) (by decide) rfl ?_
      refine zw_goto (tgt := 2) C dX5_fill_111 (by decide) ?_
      refine zw_sb [1, 0] rfl ?_
      exact hk2 _ _ h
    · have h := zf_ hb1 h
      refine zw_iload C 4 rfl dX5_fill_49 ?_
      refine zw_iconst (v := (-1 : Int32)) C dX5_fill_51 ct_i_m1 ?_
      refine zw_icmp_eq (tgt := 108) C dX5_fill_52 (by decide) (fun hb2 => ?_) (fun hb2 => ?_)
      · have h := zt_ hb2 h
        refine zw_iinc (lv' := [(1, .int (x1 + (1 : Int32))), (0, .ref (E.2.1 c)), (2, .int x2), (3, .int x3), (4, .int x4), (5, .int x5)]) C 1 rfl dX5_fill_108 (ct_n_1 _) (by decide) rfl ?_
        refine zw_goto (tgt := 2) C dX5_fill_111 (by decide) ?_
        refine zw_sb [1, 0] rfl ?_
        exact hk2 _ _ h
      · have h := zf_ hb2 h
        refine zw_iload_n C 3 rfl dX5_fill_55 rfl ?_
        refine zw_aload_n C 0 rfl dX5_fill_56 rfl ?_
        refine zw_get (v := .ref (E.2.1 3)) C hc.lt (hc.c E) rfl zin_X5 0 (by decide) gw_1_102 rfl dX5_fill_57 ?_
        refine zw_aload_n C 0 rfl dX5_fill_60 rfl ?_
        refine zw_get (v := .ref (E.2.1 (c + 1))) C hc.lt (hc.c E) rfl zin_X5 3 (by decide) gw_1_108 rfl dX5_fill_61 ?_
        refine zw_iload C 4 rfl dX5_fill_64 ?_
        obtain ⟨hi3, h⟩ := zg_e h
        refine zw_iald C (hc.ia (j := 1) (by decide) (by decide)) (zin_e hi3) dX5_fill_66 ?_
        obtain ⟨r5, M6, hq4, h⟩ := zbi_e h
        refine zw_callVi (As := [.int (M.1 (c + 1) x4.toNatClampNeg)]) (st := [.int x3]) C (m_X7_bulkOf C.2.2.2.2.2.2.2.1 zpp_3 hq4) kv_X7_bulkOf gw_2_196 (by decide) zpp_3.lt (zpp_3.c E) rfl rfl rfl rfl (Nat.le_of_ble_eq_true rfl) dX5_fill_67 ?_
        refine zw_isub C dX5_fill_70 ?_
        refine zw_istore_n (lv' := [(3, .int (x3 - r5)), (0, .ref (E.2.1 c)), (1, .int x1), (2, .int x2), (4, .int x4), (5, .int x5)]) C dX5_fill_71 rfl (by decide) rfl ?_
        refine zw_iload_n C 0 rfl dX5_fill_72 rfl ?_
        refine zw_if_ge (tgt := 79) C dX5_fill_73 (by decide) (fun hb7 => ?_) (fun hb7 => ?_)
        · have h := zt_ hb7 h
          refine zw_aload_n C 1 rfl dX5_fill_79 rfl ?_
          refine zw_get (v := .ref (E.2.1 (c + 3))) C hc.lt (hc.c E) rfl zin_X5 5 (by decide) gw_1_112 rfl dX5_fill_80 ?_
          refine zw_iload C 4 rfl dX5_fill_83 ?_
          refine zw_iconst (v := (1 : Int32)) C dX5_fill_85 ct_i_1 ?_
          obtain ⟨hi8, h⟩ := zg_e h
          refine zw_iast C (hc.ia (j := 3) (by decide) (by decide)) (zin_e hi8) dX5_fill_86 ?_
          refine zw_aload_n C 1 rfl dX5_fill_87 rfl ?_
          refine zw_get (v := .ref (E.2.1 (c + 4))) C hc.lt (hc.c E) rfl zin_X5 6 (by decide) gw_1_114 rfl dX5_fill_88 ?_
          refine zw_iload C 4 rfl dX5_fill_91 ?_
          refine zw_iload_n C 3 rfl dX5_fill_93 rfl ?_
          obtain ⟨hi9, h⟩ := zg_e h
          refine zw_iast C (hc.ia (j := 4) (by decide) (by decide)) (zin_e hi9) dX5_fill_94 ?_
          refine zw_aload_n C 1 rfl dX5_fill_95 rfl ?_
          refine zw_iload_n C 2 rfl dX5_fill_96 rfl ?_
          obtain ⟨r11, M12, hq10, h⟩ := zbi_e h
          refine zw_callVi (As := [.int x1]) (st := []) C (m_X5_firstOn C.2.2.2.2.2.2.2.1 hc hq10) kv_X5_firstOn gw_2_197 (by decide) hc.lt (hc.c E) rfl rfl rfl rfl (Nat.le_of_ble_eq_true rfl) dX5_fill_97 ?_
          refine zw_istore (lv' := [(4, .int r11), (3, .int (x3 - r5)), (0, .ref (E.2.1 c)), (1, .int x1), (2, .int x2), (5, .int x5)]) C dX5_fill_100 (by decide) rfl ?_
          refine zw_iinc (lv' := [(5, .int (x5 + (1 : Int32))), (4, .int r11), (3, .int (x3 - r5)), (0, .ref (E.2.1 c)), (1, .int x1), (2, .int x2)]) C 5 rfl dX5_fill_102 (ct_n_1 _) (by decide) rfl ?_
          refine zw_goto (tgt := 40) C dX5_fill_105 (by decide) ?_
          refine zw_sb [3, 4, 5, 2, 1, 0] rfl ?_
          exact ih _ _ _ _ _ _ h
        · have h := zf_ hb7 h
          refine zw_goto (tgt := 108) C dX5_fill_76 (by decide) ?_
          refine zw_iinc (lv' := [(1, .int (x1 + (1 : Int32))), (3, .int (x3 - r5)), (0, .ref (E.2.1 c)), (2, .int x2), (4, .int x4), (5, .int x5)]) C 2 rfl dX5_fill_108 (ct_n_1 _) (by decide) rfl ?_
          refine zw_goto (tgt := 2) C dX5_fill_111 (by decide) ?_
          refine zw_sb [2, 0] rfl ?_
          exact hk2 _ _ h
def f_X5_fill_2 (c : Nat) : Nat → zM → Int32 → Option zM
  | 0, _, _ => none
  | n + 1, M, x1 => if (1 : Int32) < x1 then (some M) else (zbi (f_X7_placeOfSide M 3 x1) (fun r3 M4 => zbi (f_X5_bulkInRoomAt M4 c r3) (fun r6 M7 => zbi (f_X5_firstOn M7 c x1) (fun r9 M10 => f_X5_fill_40 c (f_X5_fill_2 c n) zFU M10 x1 r3 ((M4.1 3 1) - r6) r9 (0 : Int32)))))
set_option maxRecDepth 20000 in
set_option maxHeartbeats 2000000 in
theorem p_X5_fill_2 {X : zX} {E : zE} {c : Nat} {M' : zM} (C : zC X E cX5_fill 6 RX5 none 2) (hc : zmp c) : ∀ (n : Nat) (M : zM) (x1 : Int32), f_X5_fill_2 c n M x1 = some M' → zW X E (zRQ X E none M') M 2 [(0, .ref (E.2.1 c)), (1, .int x1)] [] := by
  intro n
  induction n with
  | zero => intro M x1 h; cases h
  | succ n ih =>
    intro M x1 h
    have h : (if (1 : Int32) < x1 then (some M) else (zbi (f_X7_placeOfSide M 3 x1) (fun r3 M4 => zbi (f_X5_bulkInRoomAt M4 c r3) (fun r6 M7 => zbi (f_X5_firstOn M7 c x1) (fun r9 M10 => f_X5_fill_40 c (f_X5_fill_2 c n) zFU M10 x1 r3 ((M4.1 3 1) - r6) r9 (0 : Int32)))))) = some M' := h
    refine zw_iload_n C 1 rfl dX5_fill_2 rfl ?_
    refine zw_iconst (v := (1 : Int32)) C dX5_fill_3 ct_i_1 ?_
    refine zw_icmp_gt (tgt := 114) C dX5_fill_4 (by decide) (fun hb1 => ?_) (fun hb1 => ?_)
    · have h := zt_ hb1 h
      exact zw_returnE C h dX5_fill_114
    · have h := zf_ hb1 h
      refine zw_aload_n C 0 rfl dX5_fill_7 rfl ?_
      refine zw_get (v := .ref (E.2.1 3)) C hc.lt (hc.c E) rfl zin_X5 0 (by decide) gw_1_102 rfl dX5_fill_8 ?_
      refine zw_iload_n C 1 rfl dX5_fill_11 rfl ?_
      obtain ⟨r3, M4, hq2, h⟩ := zbi_e h
      refine zw_callVi (As := [.int x1]) (st := []) C (m_X7_placeOfSide C.2.2.2.2.2.2.2.1 zpp_3 hq2) kv_X7_placeOfSide gw_2_184 (by decide) zpp_3.lt (zpp_3.c E) rfl rfl rfl rfl (Nat.le_of_ble_eq_true rfl) dX5_fill_12 ?_
      refine zw_istore_n (lv' := [(2, .int r3), (0, .ref (E.2.1 c)), (1, .int x1)]) C dX5_fill_15 rfl (by decide) rfl ?_
      refine zw_aload_n C 1 rfl dX5_fill_16 rfl ?_
      refine zw_get (v := .ref (E.2.1 3)) C hc.lt (hc.c E) rfl zin_X5 0 (by decide) gw_1_102 rfl dX5_fill_17 ?_
      refine zw_getN (v := .int (M4.1 3 1)) C zpp_3.lt (zpp_3.c E) rfl zin_X7 1 (by decide) (List.mem_of_getElem? (i := 4) rfl) rfl dX5_fill_20 ?_
      refine zw_aload_n C 1 rfl dX5_fill_23 rfl ?_
      refine zw_iload_n C 0 rfl dX5_fill_24 rfl ?_
      obtain ⟨r6, M7, hq5, h⟩ := zbi_e h
      refine zw_callVi (As := [.int r3]) (st := [.int (M4.1 3 1)]) C (m_X5_bulkInRoomAt C.2.2.2.2.2.2.2.1 hc hq5) kv_X5_bulkInRoomAt gw_2_192 (by decide) hc.lt (hc.c E) rfl rfl rfl rfl (Nat.le_of_ble_eq_true rfl) dX5_fill_25 ?_
      refine zw_isub C dX5_fill_28 ?_
      refine zw_istore_n (lv' := [(3, .int ((M4.1 3 1) - r6)), (2, .int r3), (0, .ref (E.2.1 c)), (1, .int x1)]) C dX5_fill_29 rfl (by decide) rfl ?_
      refine zw_aload_n C 2 rfl dX5_fill_30 rfl ?_
      refine zw_iload_n C 3 rfl dX5_fill_31 rfl ?_
      obtain ⟨r9, M10, hq8, h⟩ := zbi_e h
      refine zw_callVi (As := [.int x1]) (st := []) C (m_X5_firstOn C.2.2.2.2.2.2.2.1 hc hq8) kv_X5_firstOn gw_2_197 (by decide) hc.lt (hc.c E) rfl rfl rfl rfl (Nat.le_of_ble_eq_true rfl) dX5_fill_32 ?_
      refine zw_istore (lv' := [(4, .int r9), (3, .int ((M4.1 3 1) - r6)), (2, .int r3), (0, .ref (E.2.1 c)), (1, .int x1)]) C dX5_fill_35 (by decide) rfl ?_
      refine zw_iconst (v := (0 : Int32)) C dX5_fill_37 ct_i_0 ?_
      refine zw_istore (lv' := [(5, .int (0 : Int32)), (4, .int r9), (3, .int ((M4.1 3 1) - r6)), (2, .int r3), (0, .ref (E.2.1 c)), (1, .int x1)]) C dX5_fill_38 (by decide) rfl ?_
      refine zw_sb [4, 5, 3, 2, 1, 0] rfl ?_
      exact p_X5_fill_40 C hc (fun _ _ h => ih _ _ h) zFU _ _ _ _ _ _ h
def f_X5_fill_0 (c : Nat) (M : zM) : Option zM := f_X5_fill_2 c zFU M (0 : Int32)
set_option maxRecDepth 20000 in
set_option maxHeartbeats 2000000 in
theorem p_X5_fill_0 {X : zX} {E : zE} {c : Nat} {M' : zM} (C : zC X E cX5_fill 6 RX5 none 2) (hc : zmp c) {M : zM} (h : f_X5_fill_0 c M = some M') : zW X E (zRQ X E none M') M 0 [(0, .ref (E.2.1 c))] [] := by
  have h : (f_X5_fill_2 c zFU M (0 : Int32)) = some M' := h
  refine zw_iconst (v := (0 : Int32)) C dX5_fill_0 ct_i_0 ?_
  refine zw_istore_n (lv' := [(1, .int (0 : Int32)), (0, .ref (E.2.1 c))]) C dX5_fill_1 rfl (by decide) rfl ?_
  refine zw_sb [1, 0] rfl ?_
  exact p_X5_fill_2 C hc zFU _ _ h
def f_X5_fill (M : zM) (c : Nat) : Option zM := f_X5_fill_0 c M
theorem m_X5_fill {l : Launch} {E : zE} (hI : zI E) {M M' : zM} {c : Nat} (hc : zmp c) (h : f_X5_fill M c = some M') : zMet l E yX5_fill cX5_fill 6 none 2 [.ref (E.2.1 c)] M M' none := zm_of hI (by decide) (Nat.le_of_ble_eq_true rfl) (fun X _ C => p_X5_fill_0 C hc h)
theorem kv_X5_fill : zKV yX5_fill cX5_fill 6 none 0 := ⟨⟨gw_2_190, gs_10, gw_1_4, gw_2_191⟩, ⟨by decide, by decide, by decide +kernel⟩, by decide⟩
-- WingDoor$Moment.carry(I)Z, 38 instructions, depth 1
def f_X5_carry_48 (c : Nat) (x1 : Int32) (M : zM) (s0 : Int32) : Option (Int32 × zM) := if s0 = 0 then (zg (zbo s0) (some (s0, M))) else (zg (zin x1 9) (zg (zbo s0) (some (s0, zs M (c + 3) x1.toNatClampNeg (2 : Int32)))))
set_option maxRecDepth 20000 in
set_option maxHeartbeats 2000000 in
theorem p_X5_carry_48 {X : zX} {E : zE} {c : Nat} {x1 : Int32} {r : Int32} {M' : zM} (C : zC X E cX5_carry 3 RX5 (some .boolean) 1) (hc : zmp c) {M : zM} {s0 : Int32} (h : f_X5_carry_48 c x1 M s0 = some (r, M')) : zW X E (zRQ X E (some (.int r)) M') M 48 [(0, .ref (E.2.1 c)), (1, .int x1)] [.int s0] := by
  have h : (if s0 = 0 then (zg (zbo s0) (some (s0, M))) else (zg (zin x1 9) (zg (zbo s0) (some (s0, zs M (c + 3) x1.toNatClampNeg (2 : Int32)))))) = some (r, M') := h
  refine zw_istore_n (lv' := [(2, .int s0), (0, .ref (E.2.1 c)), (1, .int x1)]) C dX5_carry_48 rfl (by decide) rfl ?_
  refine zw_iload_n C 0 rfl dX5_carry_49 rfl ?_
  refine zw_if_eq (tgt := 60) C dX5_carry_50 (by decide) (fun hb1 => ?_) (fun hb1 => ?_)
  · have h := zt_ hb1 h
    refine zw_iload_n C 0 rfl dX5_carry_60 rfl ?_
    obtain ⟨hz2, h⟩ := zg_e h
    exact zw_zreturnE C (zbo_e hz2) h dX5_carry_61
  · have h := zf_ hb1 h
    refine zw_aload_n C 1 rfl dX5_carry_53 rfl ?_
    refine zw_get (v := .ref (E.2.1 (c + 3))) C hc.lt (hc.c E) rfl zin_X5 5 (by decide) gw_1_112 rfl dX5_carry_54 ?_
    refine zw_iload_n C 2 rfl dX5_carry_57 rfl ?_
    refine zw_iconst (v := (2 : Int32)) C dX5_carry_58 ct_i_2 ?_
    obtain ⟨hi3, h⟩ := zg_e h
    refine zw_iast C (hc.ia (j := 3) (by decide) (by decide)) (zin_e hi3) dX5_carry_59 ?_
    refine zw_iload_n C 0 rfl dX5_carry_60 rfl ?_
    obtain ⟨hz4, h⟩ := zg_e h
    exact zw_zreturnE C (zbo_e hz4) h dX5_carry_61
def f_X5_carry_0 (c : Nat) (x1 : Int32) (M : zM) : Option (Int32 × zM) := zg (zin x1 9) (zbi (f_X7_placeBehind M 3 (M.1 (c + 4) x1.toNatClampNeg)) (fun r3 M4 => zg (zin x1 9) (zg (zin x1 9) (zg (zin x1 9) (zbi (f_X7_placeOfSide (zs M4 (c + 4) x1.toNatClampNeg r3) 3 ((1 : Int32) - ((zs M4 (c + 4) x1.toNatClampNeg r3).1 (c + 2) x1.toNatClampNeg))) (fun r9 M10 => if ((zs M4 (c + 4) x1.toNatClampNeg r3).1 (c + 4) x1.toNatClampNeg) = r9 then (f_X5_carry_48 c x1 M10 (1 : Int32)) else (f_X5_carry_48 c x1 M10 (0 : Int32))))))))
set_option maxRecDepth 20000 in
set_option maxHeartbeats 2000000 in
theorem p_X5_carry_0 {X : zX} {E : zE} {c : Nat} {x1 : Int32} {r : Int32} {M' : zM} (C : zC X E cX5_carry 3 RX5 (some .boolean) 1) (hc : zmp c) {M : zM} (h : f_X5_carry_0 c x1 M = some (r, M')) : zW X E (zRQ X E (some (.int r)) M') M 0 [(0, .ref (E.2.1 c)), (1, .int x1)] [] := by
  have h : (zg (zin x1 9) (zbi (f_X7_placeBehind M 3 (M.1 (c + 4) x1.toNatClampNeg)) (fun r3 M4 => zg (zin x1 9) (zg (zin x1 9) (zg (zin x1 9) (zbi (f_X7_placeOfSide (zs M4 (c + 4) x1.toNatClampNeg r3) 3 ((1 : Int32) - ((zs M4 (c + 4) x1.toNatClampNeg r3).1 (c + 2) x1.toNatClampNeg))) (fun r9 M10 => if ((zs M4 (c + 4) x1.toNatClampNeg r3).1 (c + 4) x1.toNatClampNeg) = r9 then (f_X5_carry_48 c x1 M10 (1 : Int32)) else (f_X5_carry_48 c x1 M10 (0 : Int32))))))))) = some (r, M') := h
  refine zw_aload_n C 0 rfl dX5_carry_0 rfl ?_
  refine zw_get (v := .ref (E.2.1 (c + 4))) C hc.lt (hc.c E) rfl zin_X5 6 (by decide) gw_1_114 rfl dX5_carry_1 ?_
  refine zw_iload_n C 1 rfl dX5_carry_4 rfl ?_
  refine zw_aload_n C 0 rfl dX5_carry_5 rfl ?_
  refine zw_get (v := .ref (E.2.1 3)) C hc.lt (hc.c E) rfl zin_X5 0 (by decide) gw_1_102 rfl dX5_carry_6 ?_
  refine zw_aload_n C 0 rfl dX5_carry_9 rfl ?_
  refine zw_get (v := .ref (E.2.1 (c + 4))) C hc.lt (hc.c E) rfl zin_X5 6 (by decide) gw_1_114 rfl dX5_carry_10 ?_
  refine zw_iload_n C 1 rfl dX5_carry_13 rfl ?_
  obtain ⟨hi1, h⟩ := zg_e h
  refine zw_iald C (hc.ia (j := 4) (by decide) (by decide)) (zin_e hi1) dX5_carry_14 ?_
  obtain ⟨r3, M4, hq2, h⟩ := zbi_e h
  refine zw_callVi (As := [.int (M.1 (c + 4) x1.toNatClampNeg)]) (st := [.int x1, .ref (E.2.1 (c + 4))]) C (m_X7_placeBehind C.2.2.2.2.2.2.2.1 zpp_3 hq2) kv_X7_placeBehind gw_2_180 (by decide) zpp_3.lt (zpp_3.c E) rfl rfl rfl rfl (Nat.le_of_ble_eq_true rfl) dX5_carry_15 ?_
  obtain ⟨hi5, h⟩ := zg_e h
  refine zw_iast C (hc.ia (j := 4) (by decide) (by decide)) (zin_e hi5) dX5_carry_18 ?_
  refine zw_aload_n C 0 rfl dX5_carry_19 rfl ?_
  refine zw_get (v := .ref (E.2.1 (c + 4))) C hc.lt (hc.c E) rfl zin_X5 6 (by decide) gw_1_114 rfl dX5_carry_20 ?_
  refine zw_iload_n C 1 rfl dX5_carry_23 rfl ?_
  obtain ⟨hi6, h⟩ := zg_e h
  refine zw_iald C (hc.ia (j := 4) (by decide) (by decide)) (zin_e hi6) dX5_carry_24 ?_
  refine zw_aload_n C 0 rfl dX5_carry_25 rfl ?_
  refine zw_get (v := .ref (E.2.1 3)) C hc.lt (hc.c E) rfl zin_X5 0 (by decide) gw_1_102 rfl dX5_carry_26 ?_
  refine zw_iconst (v := (1 : Int32)) C dX5_carry_29 ct_i_1 ?_
  refine zw_aload_n C 0 rfl dX5_carry_30 rfl ?_
  refine zw_get (v := .ref (E.2.1 (c + 2))) C hc.lt (hc.c E) rfl zin_X5 4 (by decide) gw_1_110 rfl dX5_carry_31 ?_
  refine zw_iload_n C 1 rfl dX5_carry_34 rfl ?_
  obtain ⟨hi7, h⟩ := zg_e h
  refine zw_iald C (hc.ia (j := 2) (by decide) (by decide)) (zin_e hi7) dX5_carry_35 ?_
  refine zw_isub C dX5_carry_36 ?_
  obtain ⟨r9, M10, hq8, h⟩ := zbi_e h
  refine zw_callVi (As := [.int ((1 : Int32) - ((zs M4 (c + 4) x1.toNatClampNeg r3).1 (c + 2) x1.toNatClampNeg))]) (st := [.int ((zs M4 (c + 4) x1.toNatClampNeg r3).1 (c + 4) x1.toNatClampNeg)]) C (m_X7_placeOfSide C.2.2.2.2.2.2.2.1 zpp_3 hq8) kv_X7_placeOfSide gw_2_184 (by decide) zpp_3.lt (zpp_3.c E) rfl rfl rfl rfl (Nat.le_of_ble_eq_true rfl) dX5_carry_37 ?_
  refine zw_icmp_ne (tgt := 47) C dX5_carry_40 (by decide) (fun hb11 => ?_) (fun hb11 => ?_)
  · have h := zt_ hb11 h
    refine zw_iconst (v := (1 : Int32)) C dX5_carry_43 ct_i_1 ?_
    refine zw_goto (tgt := 48) C dX5_carry_44 (by decide) ?_
    exact p_X5_carry_48 C hc h
  · have h := zf_ hb11 h
    refine zw_iconst (v := (0 : Int32)) C dX5_carry_47 ct_i_0 ?_
    exact p_X5_carry_48 C hc h
def f_X5_carry (M : zM) (c : Nat) (x1 : Int32) : Option (Int32 × zM) := f_X5_carry_0 c x1 M
theorem m_X5_carry {l : Launch} {E : zE} (hI : zI E) {M M' : zM} {c : Nat} {x1 : Int32} {r : Int32} (hc : zmp c) (h : f_X5_carry M c x1 = some (r, M')) : zMet l E yX5_carry cX5_carry 3 (some .boolean) 1 [.ref (E.2.1 c), .int x1] M M' (some (.int r)) := zm_of hI (by decide) (Nat.le_of_ble_eq_true rfl) (fun X _ C => p_X5_carry_0 C hc h)
theorem kv_X5_carry : zKV yX5_carry cX5_carry 3 (some .boolean) 1 := ⟨⟨gw_2_178, gs_9, gw_1_4, gw_2_179⟩, ⟨by decide, by decide, by decide +kernel⟩, by decide⟩
-- WingDoor$Moment.letCome(II)I, 44 instructions, depth 3
def f_X5_letCome_61 (c : Nat) (x1 : Int32) (x2 : Int32) (M : zM) (x3 : Int32) : Option (Int32 × zM) := zbv (f_X5_fill M c) (fun M3 => some (x3, M3))
set_option maxRecDepth 20000 in
set_option maxHeartbeats 2000000 in
theorem p_X5_letCome_61 {X : zX} {E : zE} {c : Nat} {x1 : Int32} {x2 : Int32} {r : Int32} {M' : zM} (C : zC X E cX5_letCome 4 RX5 (some .int) 3) (hc : zmp c) {M : zM} {x3 : Int32} (h : f_X5_letCome_61 c x1 x2 M x3 = some (r, M')) : zW X E (zRQ X E (some (.int r)) M') M 61 [(0, .ref (E.2.1 c)), (1, .int x1), (2, .int x2), (3, .int x3)] [] := by
  have h : (zbv (f_X5_fill M c) (fun M3 => some (x3, M3))) = some (r, M') := h
  refine zw_aload_n C 0 rfl dX5_letCome_61 rfl ?_
  obtain ⟨M3, hq1, h⟩ := zbv_e h
  refine zw_callVv (As := []) (st := []) C (m_X5_fill C.2.2.2.2.2.2.2.1 hc hq1) kv_X5_fill gw_2_188 (by decide) hc.lt (hc.c E) rfl rfl rfl rfl (Nat.le_of_ble_eq_true rfl) dX5_letCome_62 ?_
  refine zw_iload_n C 3 rfl dX5_letCome_65 rfl ?_
  exact zw_ireturnE C h dX5_letCome_66
def f_X5_letCome_40 (c : Nat) (x1 : Int32) (x2 : Int32) (M : zM) (x3 : Int32) : Option (Int32 × zM) := zg (zin x3 9) (zg (zin x3 9) (zg (zin x3 9) (f_X5_letCome_61 c x1 x2 (zs (zs (zs M (c + 3) x3.toNatClampNeg (0 : Int32)) (c + 4) x3.toNatClampNeg (0 : Int32)) (c + 5) x3.toNatClampNeg x3) x3)))
set_option maxRecDepth 20000 in
set_option maxHeartbeats 2000000 in
theorem p_X5_letCome_40 {X : zX} {E : zE} {c : Nat} {x1 : Int32} {x2 : Int32} {r : Int32} {M' : zM} (C : zC X E cX5_letCome 4 RX5 (some .int) 3) (hc : zmp c) {M : zM} {x3 : Int32} (h : f_X5_letCome_40 c x1 x2 M x3 = some (r, M')) : zW X E (zRQ X E (some (.int r)) M') M 40 [(0, .ref (E.2.1 c)), (1, .int x1), (2, .int x2), (3, .int x3)] [] := by
  have h : (zg (zin x3 9) (zg (zin x3 9) (zg (zin x3 9) (f_X5_letCome_61 c x1 x2 (zs (zs (zs M (c + 3) x3.toNatClampNeg (0 : Int32)) (c + 4) x3.toNatClampNeg (0 : Int32)) (c + 5) x3.toNatClampNeg x3) x3)))) = some (r, M') := h
  refine zw_aload_n C 0 rfl dX5_letCome_40 rfl ?_
  refine zw_get (v := .ref (E.2.1 (c + 3))) C hc.lt (hc.c E) rfl zin_X5 5 (by decide) gw_1_112 rfl dX5_letCome_41 ?_
  refine zw_iload_n C 3 rfl dX5_letCome_44 rfl ?_
  refine zw_iconst (v := (0 : Int32)) C dX5_letCome_45 ct_i_0 ?_
  obtain ⟨hi1, h⟩ := zg_e h
  refine zw_iast C (hc.ia (j := 3) (by decide) (by decide)) (zin_e hi1) dX5_letCome_46 ?_
  refine zw_aload_n C 0 rfl dX5_letCome_47 rfl ?_
  refine zw_get (v := .ref (E.2.1 (c + 4))) C hc.lt (hc.c E) rfl zin_X5 6 (by decide) gw_1_114 rfl dX5_letCome_48 ?_
  refine zw_iload_n C 3 rfl dX5_letCome_51 rfl ?_
  refine zw_iconst (v := (0 : Int32)) C dX5_letCome_52 ct_i_0 ?_
  obtain ⟨hi2, h⟩ := zg_e h
  refine zw_iast C (hc.ia (j := 4) (by decide) (by decide)) (zin_e hi2) dX5_letCome_53 ?_
  refine zw_aload_n C 0 rfl dX5_letCome_54 rfl ?_
  refine zw_get (v := .ref (E.2.1 (c + 5))) C hc.lt (hc.c E) rfl zin_X5 7 (by decide) gw_1_116 rfl dX5_letCome_55 ?_
  refine zw_iload_n C 3 rfl dX5_letCome_58 rfl ?_
  refine zw_iload_n C 3 rfl dX5_letCome_59 rfl ?_
  obtain ⟨hi3, h⟩ := zg_e h
  refine zw_iast C (hc.ia (j := 5) (by decide) (by decide)) (zin_e hi3) dX5_letCome_60 ?_
  exact p_X5_letCome_61 C hc h
def f_X5_letCome_0 (c : Nat) (x1 : Int32) (x2 : Int32) (M : zM) : Option (Int32 × zM) := if (M.1 c 2) < (9 : Int32) then (zg (zin (M.1 c 2) 9) (zg (zin (M.1 c 2) 9) (f_X5_letCome_40 c x1 x2 (zs (zs (zs M c 2 ((M.1 c 2) + (1 : Int32))) (c + 1) (M.1 c 2).toNatClampNeg x1) (c + 2) (M.1 c 2).toNatClampNeg x2) (M.1 c 2)))) else (some ((-1 : Int32), M))
set_option maxRecDepth 20000 in
set_option maxHeartbeats 2000000 in
theorem p_X5_letCome_0 {X : zX} {E : zE} {c : Nat} {x1 : Int32} {x2 : Int32} {r : Int32} {M' : zM} (C : zC X E cX5_letCome 4 RX5 (some .int) 3) (hc : zmp c) {M : zM} (h : f_X5_letCome_0 c x1 x2 M = some (r, M')) : zW X E (zRQ X E (some (.int r)) M') M 0 [(0, .ref (E.2.1 c)), (1, .int x1), (2, .int x2)] [] := by
  have h : (if (M.1 c 2) < (9 : Int32) then (zg (zin (M.1 c 2) 9) (zg (zin (M.1 c 2) 9) (f_X5_letCome_40 c x1 x2 (zs (zs (zs M c 2 ((M.1 c 2) + (1 : Int32))) (c + 1) (M.1 c 2).toNatClampNeg x1) (c + 2) (M.1 c 2).toNatClampNeg x2) (M.1 c 2)))) else (some ((-1 : Int32), M))) = some (r, M') := h
  refine zw_aload_n C 0 rfl dX5_letCome_0 rfl ?_
  refine zw_get (v := .int (M.1 c 2)) C hc.lt (hc.c E) rfl zin_X5 2 (by decide) gw_1_106 rfl dX5_letCome_1 ?_
  refine zw_bipush (v := (9 : Int32)) C dX5_letCome_4 ct_b_9 ?_
  refine zw_icmp_lt (tgt := 11) C dX5_letCome_6 (by decide) (fun hb1 => ?_) (fun hb1 => ?_)
  · have h := zt_ hb1 h
    refine zw_aload_n C 0 rfl dX5_letCome_11 rfl ?_
    refine zw_get (v := .int (M.1 c 2)) C hc.lt (hc.c E) rfl zin_X5 2 (by decide) gw_1_106 rfl dX5_letCome_12 ?_
    refine zw_istore_n (lv' := [(3, .int (M.1 c 2)), (0, .ref (E.2.1 c)), (1, .int x1), (2, .int x2)]) C dX5_letCome_15 rfl (by decide) rfl ?_
    refine zw_aload_n C 1 rfl dX5_letCome_16 rfl ?_
    refine zw_dup C rfl dX5_letCome_17 ?_
    refine zw_get (v := .int (M.1 c 2)) C hc.lt (hc.c E) rfl zin_X5 2 (by decide) gw_1_106 rfl dX5_letCome_18 ?_
    refine zw_iconst (v := (1 : Int32)) C dX5_letCome_21 ct_i_1 ?_
    refine zw_iadd C dX5_letCome_22 ?_
    refine zw_put (ty := .int) C hc.lt (hc.c E) rfl zin_X5 tyX5 tyX5_ok nmX5 2 (by decide) gw_1_106 rfl rfl rfl rfl (fun _ _ => Nat.le_of_ble_eq_true rfl) (fun _ _ => rfl) dX5_letCome_23 ?_
    refine zw_aload_n C 1 rfl dX5_letCome_26 rfl ?_
    refine zw_get (v := .ref (E.2.1 (c + 1))) C hc.lt (hc.c E) rfl zin_X5 3 (by decide) gw_1_108 rfl dX5_letCome_27 ?_
    refine zw_iload_n C 0 rfl dX5_letCome_30 rfl ?_
    refine zw_iload_n C 2 rfl dX5_letCome_31 rfl ?_
    obtain ⟨hi2, h⟩ := zg_e h
    refine zw_iast C (hc.ia (j := 1) (by decide) (by decide)) (zin_e hi2) dX5_letCome_32 ?_
    refine zw_aload_n C 1 rfl dX5_letCome_33 rfl ?_
    refine zw_get (v := .ref (E.2.1 (c + 2))) C hc.lt (hc.c E) rfl zin_X5 4 (by decide) gw_1_110 rfl dX5_letCome_34 ?_
    refine zw_iload_n C 0 rfl dX5_letCome_37 rfl ?_
    refine zw_iload_n C 3 rfl dX5_letCome_38 rfl ?_
    obtain ⟨hi3, h⟩ := zg_e h
    refine zw_iast C (hc.ia (j := 2) (by decide) (by decide)) (zin_e hi3) dX5_letCome_39 ?_
    refine zw_sb [1, 2, 3, 0] rfl ?_
    exact p_X5_letCome_40 C hc h
  · have h := zf_ hb1 h
    refine zw_iconst (v := (-1 : Int32)) C dX5_letCome_9 ct_i_m1 ?_
    exact zw_ireturnE C h dX5_letCome_10
def f_X5_letCome (M : zM) (c : Nat) (x1 : Int32) (x2 : Int32) : Option (Int32 × zM) := f_X5_letCome_0 c x1 x2 M
theorem m_X5_letCome {l : Launch} {E : zE} (hI : zI E) {M M' : zM} {c : Nat} {x1 : Int32} {x2 : Int32} {r : Int32} (hc : zmp c) (h : f_X5_letCome M c x1 x2 = some (r, M')) : zMet l E yX5_letCome cX5_letCome 4 (some .int) 3 [.ref (E.2.1 c), .int x1, .int x2] M M' (some (.int r)) := zm_of hI (by decide) (Nat.le_of_ble_eq_true rfl) (fun X _ C => p_X5_letCome_0 C hc h)
theorem kv_X5_letCome : zKV yX5_letCome cX5_letCome 4 (some .int) 2 := ⟨⟨gw_3_6, gw_3_7, gw_1_4, gw_3_8⟩, ⟨by decide, by decide, by decide +kernel⟩, by decide⟩
-- WingDoor$Moment.giveUp(I)V, 17 instructions, depth 3
def f_X5_giveUp_0 (c : Nat) (x1 : Int32) (M : zM) : Option zM := zbi (f_X5_hasGoer M c x1) (fun r2 M3 => if r2 = 0 then (some M3) else (zg (zin x1 9) (if (M3.1 (c + 3) x1.toNatClampNeg) = 0 then (zg (zin x1 9) (zbv (f_X5_fill (zs M3 (c + 3) x1.toNatClampNeg (3 : Int32)) c) (fun M10 => some M10))) else (some M3))))
set_option maxRecDepth 20000 in
set_option maxHeartbeats 2000000 in
theorem p_X5_giveUp_0 {X : zX} {E : zE} {c : Nat} {x1 : Int32} {M' : zM} (C : zC X E cX5_giveUp 2 RX5 none 3) (hc : zmp c) {M : zM} (h : f_X5_giveUp_0 c x1 M = some M') : zW X E (zRQ X E none M') M 0 [(0, .ref (E.2.1 c)), (1, .int x1)] [] := by
  have h : (zbi (f_X5_hasGoer M c x1) (fun r2 M3 => if r2 = 0 then (some M3) else (zg (zin x1 9) (if (M3.1 (c + 3) x1.toNatClampNeg) = 0 then (zg (zin x1 9) (zbv (f_X5_fill (zs M3 (c + 3) x1.toNatClampNeg (3 : Int32)) c) (fun M10 => some M10))) else (some M3))))) = some M' := h
  refine zw_aload_n C 0 rfl dX5_giveUp_0 rfl ?_
  refine zw_iload_n C 1 rfl dX5_giveUp_1 rfl ?_
  obtain ⟨r2, M3, hq1, h⟩ := zbi_e h
  refine zw_callVi (As := [.int x1]) (st := []) C (m_X5_hasGoer C.2.2.2.2.2.2.2.1 hc hq1) kv_X5_hasGoer gw_2_135 (by decide) hc.lt (hc.c E) rfl rfl rfl rfl (Nat.le_of_ble_eq_true rfl) dX5_giveUp_2 ?_
  refine zw_if_eq (tgt := 28) C dX5_giveUp_5 (by decide) (fun hb4 => ?_) (fun hb4 => ?_)
  · have h := zt_ hb4 h
    exact zw_returnE C h dX5_giveUp_28
  · have h := zf_ hb4 h
    refine zw_aload_n C 0 rfl dX5_giveUp_8 rfl ?_
    refine zw_get (v := .ref (E.2.1 (c + 3))) C hc.lt (hc.c E) rfl zin_X5 5 (by decide) gw_1_112 rfl dX5_giveUp_9 ?_
    refine zw_iload_n C 1 rfl dX5_giveUp_12 rfl ?_
    obtain ⟨hi5, h⟩ := zg_e h
    refine zw_iald C (hc.ia (j := 3) (by decide) (by decide)) (zin_e hi5) dX5_giveUp_13 ?_
    refine zw_if_ne (tgt := 28) C dX5_giveUp_14 (by decide) (fun hb6 => ?_) (fun hb6 => ?_)
    · have h := zt_ hb6 h
      refine zw_aload_n C 0 rfl dX5_giveUp_17 rfl ?_
      refine zw_get (v := .ref (E.2.1 (c + 3))) C hc.lt (hc.c E) rfl zin_X5 5 (by decide) gw_1_112 rfl dX5_giveUp_18 ?_
      refine zw_iload_n C 1 rfl dX5_giveUp_21 rfl ?_
      refine zw_iconst (v := (3 : Int32)) C dX5_giveUp_22 ct_i_3 ?_
      obtain ⟨hi7, h⟩ := zg_e h
      refine zw_iast C (hc.ia (j := 3) (by decide) (by decide)) (zin_e hi7) dX5_giveUp_23 ?_
      refine zw_aload_n C 0 rfl dX5_giveUp_24 rfl ?_
      obtain ⟨M10, hq8, h⟩ := zbv_e h
      refine zw_callVv (As := []) (st := []) C (m_X5_fill C.2.2.2.2.2.2.2.1 hc hq8) kv_X5_fill gw_2_188 (by decide) hc.lt (hc.c E) rfl rfl rfl rfl (Nat.le_of_ble_eq_true rfl) dX5_giveUp_25 ?_
      exact zw_returnE C h dX5_giveUp_28
    · have h := zf_ hb6 h
      exact zw_returnE C h dX5_giveUp_28
def f_X5_giveUp (M : zM) (c : Nat) (x1 : Int32) : Option zM := f_X5_giveUp_0 c x1 M
theorem m_X5_giveUp {l : Launch} {E : zE} (hI : zI E) {M M' : zM} {c : Nat} {x1 : Int32} (hc : zmp c) (h : f_X5_giveUp M c x1 = some M') : zMet l E yX5_giveUp cX5_giveUp 2 none 3 [.ref (E.2.1 c), .int x1] M M' none := zm_of hI (by decide) (Nat.le_of_ble_eq_true rfl) (fun X _ C => p_X5_giveUp_0 C hc h)
theorem kv_X5_giveUp : zKV yX5_giveUp cX5_giveUp 2 none 1 := ⟨⟨gw_3_19, gw_3_20, gw_1_4, gw_3_21⟩, ⟨by decide, by decide, by decide +kernel⟩, by decide⟩
-- WingDoor$Moment.letAhead(I)V, 36 instructions, depth 3
def f_X5_letAhead_0 (c : Nat) (x1 : Int32) (M : zM) : Option zM := zbi (f_X5_hasGoer M c x1) (fun r2 M3 => if r2 = 0 then (some M3) else (zg (zin x1 9) (if (M3.1 (c + 3) x1.toNatClampNeg) = 0 then (zg (zin x1 9) (zbi (f_X5_firstOn M3 c (M3.1 (c + 2) x1.toNatClampNeg)) (fun r9 M10 => if r9 = (-1 : Int32) then (some M10) else (if r9 = x1 then (some M10) else (zg (zin r9 9) (zg (zin x1 9) (zbv (f_X5_fill (zs M10 (c + 5) x1.toNatClampNeg ((M10.1 (c + 5) r9.toNatClampNeg) - (1 : Int32))) c) (fun M17 => some M17)))))))) else (some M3))))
set_option maxRecDepth 20000 in
set_option maxHeartbeats 2000000 in
theorem p_X5_letAhead_0 {X : zX} {E : zE} {c : Nat} {x1 : Int32} {M' : zM} (C : zC X E cX5_letAhead 3 RX5 none 3) (hc : zmp c) {M : zM} (h : f_X5_letAhead_0 c x1 M = some M') : zW X E (zRQ X E none M') M 0 [(0, .ref (E.2.1 c)), (1, .int x1)] [] := by
  have h : (zbi (f_X5_hasGoer M c x1) (fun r2 M3 => if r2 = 0 then (some M3) else (zg (zin x1 9) (if (M3.1 (c + 3) x1.toNatClampNeg) = 0 then (zg (zin x1 9) (zbi (f_X5_firstOn M3 c (M3.1 (c + 2) x1.toNatClampNeg)) (fun r9 M10 => if r9 = (-1 : Int32) then (some M10) else (if r9 = x1 then (some M10) else (zg (zin r9 9) (zg (zin x1 9) (zbv (f_X5_fill (zs M10 (c + 5) x1.toNatClampNeg ((M10.1 (c + 5) r9.toNatClampNeg) - (1 : Int32))) c) (fun M17 => some M17)))))))) else (some M3))))) = some M' := h
  refine zw_aload_n C 0 rfl dX5_letAhead_0 rfl ?_
  refine zw_iload_n C 1 rfl dX5_letAhead_1 rfl ?_
  obtain ⟨r2, M3, hq1, h⟩ := zbi_e h
  refine zw_callVi (As := [.int x1]) (st := []) C (m_X5_hasGoer C.2.2.2.2.2.2.2.1 hc hq1) kv_X5_hasGoer gw_2_135 (by decide) hc.lt (hc.c E) rfl rfl rfl rfl (Nat.le_of_ble_eq_true rfl) dX5_letAhead_2 ?_
  refine zw_if_eq (tgt := 17) C dX5_letAhead_5 (by decide) (fun hb4 => ?_) (fun hb4 => ?_)
  · have h := zt_ hb4 h
    exact zw_returnE C h dX5_letAhead_17
  · have h := zf_ hb4 h
    refine zw_aload_n C 0 rfl dX5_letAhead_8 rfl ?_
    refine zw_get (v := .ref (E.2.1 (c + 3))) C hc.lt (hc.c E) rfl zin_X5 5 (by decide) gw_1_112 rfl dX5_letAhead_9 ?_
    refine zw_iload_n C 1 rfl dX5_letAhead_12 rfl ?_
    obtain ⟨hi5, h⟩ := zg_e h
    refine zw_iald C (hc.ia (j := 3) (by decide) (by decide)) (zin_e hi5) dX5_letAhead_13 ?_
    refine zw_if_eq (tgt := 18) C dX5_letAhead_14 (by decide) (fun hb6 => ?_) (fun hb6 => ?_)
    · have h := zt_ hb6 h
      refine zw_aload_n C 0 rfl dX5_letAhead_18 rfl ?_
      refine zw_aload_n C 0 rfl dX5_letAhead_19 rfl ?_
      refine zw_get (v := .ref (E.2.1 (c + 2))) C hc.lt (hc.c E) rfl zin_X5 4 (by decide) gw_1_110 rfl dX5_letAhead_20 ?_
      refine zw_iload_n C 1 rfl dX5_letAhead_23 rfl ?_
      obtain ⟨hi7, h⟩ := zg_e h
      refine zw_iald C (hc.ia (j := 2) (by decide) (by decide)) (zin_e hi7) dX5_letAhead_24 ?_
      obtain ⟨r9, M10, hq8, h⟩ := zbi_e h
      refine zw_callVi (As := [.int (M3.1 (c + 2) x1.toNatClampNeg)]) (st := []) C (m_X5_firstOn C.2.2.2.2.2.2.2.1 hc hq8) kv_X5_firstOn gw_2_197 (by decide) hc.lt (hc.c E) rfl rfl rfl rfl (Nat.le_of_ble_eq_true rfl) dX5_letAhead_25 ?_
      refine zw_istore_n (lv' := [(2, .int r9), (0, .ref (E.2.1 c)), (1, .int x1)]) C dX5_letAhead_28 rfl (by decide) rfl ?_
      refine zw_iload_n C 0 rfl dX5_letAhead_29 rfl ?_
      refine zw_iconst (v := (-1 : Int32)) C dX5_letAhead_30 ct_i_m1 ?_
      refine zw_icmp_eq (tgt := 57) C dX5_letAhead_31 (by decide) (fun hb11 => ?_) (fun hb11 => ?_)
      · have h := zt_ hb11 h
        exact zw_returnE C h dX5_letAhead_57
      · have h := zf_ hb11 h
        refine zw_iload_n C 0 rfl dX5_letAhead_34 rfl ?_
        refine zw_iload_n C 2 rfl dX5_letAhead_35 rfl ?_
        refine zw_icmp_eq (tgt := 57) C dX5_letAhead_36 (by decide) (fun hb12 => ?_) (fun hb12 => ?_)
        · have h := zt_ hb12 h
          exact zw_returnE C h dX5_letAhead_57
        · have h := zf_ hb12 h
          refine zw_aload_n C 1 rfl dX5_letAhead_39 rfl ?_
          refine zw_get (v := .ref (E.2.1 (c + 5))) C hc.lt (hc.c E) rfl zin_X5 7 (by decide) gw_1_116 rfl dX5_letAhead_40 ?_
          refine zw_iload_n C 2 rfl dX5_letAhead_43 rfl ?_
          refine zw_aload_n C 1 rfl dX5_letAhead_44 rfl ?_
          refine zw_get (v := .ref (E.2.1 (c + 5))) C hc.lt (hc.c E) rfl zin_X5 7 (by decide) gw_1_116 rfl dX5_letAhead_45 ?_
          refine zw_iload_n C 0 rfl dX5_letAhead_48 rfl ?_
          obtain ⟨hi13, h⟩ := zg_e h
          refine zw_iald C (hc.ia (j := 5) (by decide) (by decide)) (zin_e hi13) dX5_letAhead_49 ?_
          refine zw_iconst (v := (1 : Int32)) C dX5_letAhead_50 ct_i_1 ?_
          refine zw_isub C dX5_letAhead_51 ?_
          obtain ⟨hi14, h⟩ := zg_e h
          refine zw_iast C (hc.ia (j := 5) (by decide) (by decide)) (zin_e hi14) dX5_letAhead_52 ?_
          refine zw_aload_n C 1 rfl dX5_letAhead_53 rfl ?_
          obtain ⟨M17, hq15, h⟩ := zbv_e h
          refine zw_callVv (As := []) (st := []) C (m_X5_fill C.2.2.2.2.2.2.2.1 hc hq15) kv_X5_fill gw_2_188 (by decide) hc.lt (hc.c E) rfl rfl rfl rfl (Nat.le_of_ble_eq_true rfl) dX5_letAhead_54 ?_
          exact zw_returnE C h dX5_letAhead_57
    · have h := zf_ hb6 h
      exact zw_returnE C h dX5_letAhead_17
def f_X5_letAhead (M : zM) (c : Nat) (x1 : Int32) : Option zM := f_X5_letAhead_0 c x1 M
theorem m_X5_letAhead {l : Launch} {E : zE} (hI : zI E) {M M' : zM} {c : Nat} {x1 : Int32} (hc : zmp c) (h : f_X5_letAhead M c x1 = some M') : zMet l E yX5_letAhead cX5_letAhead 3 none 3 [.ref (E.2.1 c), .int x1] M M' none := zm_of hI (by decide) (Nat.le_of_ble_eq_true rfl) (fun X _ C => p_X5_letAhead_0 C hc h)
theorem kv_X5_letAhead : zKV yX5_letAhead cX5_letAhead 3 none 1 := ⟨⟨gw_3_31, gw_3_32, gw_1_4, gw_3_33⟩, ⟨by decide, by decide, by decide +kernel⟩, by decide⟩
-- WingDoor$Moment.turn()I, 38 instructions, depth 3
def f_X5_turn_25 (c : Nat) : Nat → zM → Int32 → Int32 → Option (Int32 × zM)
  | 0, _, _, _ => none
  | n + 1, M, x2, x3 => if (M.1 c 2) ≤ x3 then (zbv (f_X5_fill M c) (fun M4 => some (x2, M4))) else (zg (zin x3 9) (if (M.1 (c + 3) x3.toNatClampNeg) = (1 : Int32) then (zbi (f_X5_carry M c x3) (fun r8 M9 => if r8 = 0 then (f_X5_turn_25 c n M9 x2 (x3 + (1 : Int32))) else (f_X5_turn_25 c n M9 (x2 + (1 : Int32)) (x3 + (1 : Int32))))) else (f_X5_turn_25 c n M x2 (x3 + (1 : Int32)))))
set_option maxRecDepth 20000 in
set_option maxHeartbeats 2000000 in
theorem p_X5_turn_25 {X : zX} {E : zE} {c : Nat} {r : Int32} {M' : zM} (C : zC X E cX5_turn 4 RX5 (some .int) 3) (hc : zmp c) : ∀ (n : Nat) (M : zM) (x2 : Int32) (x3 : Int32), f_X5_turn_25 c n M x2 x3 = some (r, M') → zW X E (zRQ X E (some (.int r)) M') M 25 [(0, .ref (E.2.1 c)), (2, .int x2), (3, .int x3)] [] := by
  intro n
  induction n with
  | zero => intro M x2 x3 h; cases h
  | succ n ih =>
    intro M x2 x3 h
    have h : (if (M.1 c 2) ≤ x3 then (zbv (f_X5_fill M c) (fun M4 => some (x2, M4))) else (zg (zin x3 9) (if (M.1 (c + 3) x3.toNatClampNeg) = (1 : Int32) then (zbi (f_X5_carry M c x3) (fun r8 M9 => if r8 = 0 then (f_X5_turn_25 c n M9 x2 (x3 + (1 : Int32))) else (f_X5_turn_25 c n M9 (x2 + (1 : Int32)) (x3 + (1 : Int32))))) else (f_X5_turn_25 c n M x2 (x3 + (1 : Int32)))))) = some (r, M') := h
    refine zw_iload_n C 2 rfl dX5_turn_25 rfl ?_
    refine zw_aload_n C 0 rfl dX5_turn_26 rfl ?_
    refine zw_get (v := .int (M.1 c 2)) C hc.lt (hc.c E) rfl zin_X5 2 (by decide) gw_1_106 rfl dX5_turn_27 ?_
    refine zw_icmp_ge (tgt := 60) C dX5_turn_30 (by decide) (fun hb1 => ?_) (fun hb1 => ?_)
    · have h := zt_ hb1 h
      refine zw_aload_n C 0 rfl dX5_turn_60 rfl ?_
      obtain ⟨M4, hq2, h⟩ := zbv_e h
      refine zw_callVv (As := []) (st := []) C (m_X5_fill C.2.2.2.2.2.2.2.1 hc hq2) kv_X5_fill gw_2_188 (by decide) hc.lt (hc.c E) rfl rfl rfl rfl (Nat.le_of_ble_eq_true rfl) dX5_turn_61 ?_
      refine zw_iload_n C 1 rfl dX5_turn_64 rfl ?_
      exact zw_ireturnE C h dX5_turn_65
    · have h := zf_ hb1 h
      refine zw_aload_n C 0 rfl dX5_turn_33 rfl ?_
      refine zw_get (v := .ref (E.2.1 (c + 3))) C hc.lt (hc.c E) rfl zin_X5 5 (by decide) gw_1_112 rfl dX5_turn_34 ?_
      refine zw_iload_n C 2 rfl dX5_turn_37 rfl ?_
      obtain ⟨hi5, h⟩ := zg_e h
      refine zw_iald C (hc.ia (j := 3) (by decide) (by decide)) (zin_e hi5) dX5_turn_38 ?_
      refine zw_iconst (v := (1 : Int32)) C dX5_turn_39 ct_i_1 ?_
      refine zw_icmp_ne (tgt := 54) C dX5_turn_40 (by decide) (fun hb6 => ?_) (fun hb6 => ?_)
      · have h := zt_ hb6 h
        refine zw_aload_n C 0 rfl dX5_turn_43 rfl ?_
        refine zw_iload_n C 2 rfl dX5_turn_44 rfl ?_
        obtain ⟨r8, M9, hq7, h⟩ := zbi_e h
        refine zw_callVi (As := [.int x3]) (st := []) C (m_X5_carry C.2.2.2.2.2.2.2.1 hc hq7) kv_X5_carry gw_2_176 (by decide) hc.lt (hc.c E) rfl rfl rfl rfl (Nat.le_of_ble_eq_true rfl) dX5_turn_45 ?_
        refine zw_if_eq (tgt := 54) C dX5_turn_48 (by decide) (fun hb10 => ?_) (fun hb10 => ?_)
        · have h := zt_ hb10 h
          refine zw_iinc (lv' := [(3, .int (x3 + (1 : Int32))), (0, .ref (E.2.1 c)), (2, .int x2)]) C 2 rfl dX5_turn_54 (ct_n_1 _) (by decide) rfl ?_
          refine zw_goto (tgt := 25) C dX5_turn_57 (by decide) ?_
          refine zw_sb [1, 2, 0] rfl ?_
          exact ih _ _ _ h
        · have h := zf_ hb10 h
          refine zw_iinc (lv' := [(2, .int (x2 + (1 : Int32))), (0, .ref (E.2.1 c)), (3, .int x3)]) C 1 rfl dX5_turn_51 (ct_n_1 _) (by decide) rfl ?_
          refine zw_iinc (lv' := [(3, .int (x3 + (1 : Int32))), (2, .int (x2 + (1 : Int32))), (0, .ref (E.2.1 c))]) C 2 rfl dX5_turn_54 (ct_n_1 _) (by decide) rfl ?_
          refine zw_goto (tgt := 25) C dX5_turn_57 (by decide) ?_
          refine zw_sb [2, 1, 0] rfl ?_
          exact ih _ _ _ h
      · have h := zf_ hb6 h
        refine zw_iinc (lv' := [(3, .int (x3 + (1 : Int32))), (0, .ref (E.2.1 c)), (2, .int x2)]) C 2 rfl dX5_turn_54 (ct_n_1 _) (by decide) rfl ?_
        refine zw_goto (tgt := 25) C dX5_turn_57 (by decide) ?_
        refine zw_sb [1, 2, 0] rfl ?_
        exact ih _ _ _ h
def f_X5_turn_0 (c : Nat) (M : zM) : Option (Int32 × zM) := zbi (f_X5_sticks M c) (fun r2 M3 => if r2 = 0 then (f_X5_turn_25 c zFU (zs M3 c 1 ((M3.1 c 1) + (1 : Int32))) (0 : Int32) (0 : Int32)) else (some ((0 : Int32), zs M3 c 1 ((M3.1 c 1) + (1 : Int32)))))
set_option maxRecDepth 20000 in
set_option maxHeartbeats 2000000 in
theorem p_X5_turn_0 {X : zX} {E : zE} {c : Nat} {r : Int32} {M' : zM} (C : zC X E cX5_turn 4 RX5 (some .int) 3) (hc : zmp c) {M : zM} (h : f_X5_turn_0 c M = some (r, M')) : zW X E (zRQ X E (some (.int r)) M') M 0 [(0, .ref (E.2.1 c))] [] := by
  have h : (zbi (f_X5_sticks M c) (fun r2 M3 => if r2 = 0 then (f_X5_turn_25 c zFU (zs M3 c 1 ((M3.1 c 1) + (1 : Int32))) (0 : Int32) (0 : Int32)) else (some ((0 : Int32), zs M3 c 1 ((M3.1 c 1) + (1 : Int32)))))) = some (r, M') := h
  refine zw_aload_n C 0 rfl dX5_turn_0 rfl ?_
  obtain ⟨r2, M3, hq1, h⟩ := zbi_e h
  refine zw_callVi (As := []) (st := []) C (m_X5_sticks C.2.2.2.2.2.2.2.1 hc hq1) kv_X5_sticks gw_2_149 (by decide) hc.lt (hc.c E) rfl rfl rfl rfl (Nat.le_of_ble_eq_true rfl) dX5_turn_1 ?_
  refine zw_istore_n (lv' := [(1, .int r2), (0, .ref (E.2.1 c))]) C dX5_turn_4 rfl (by decide) rfl ?_
  refine zw_aload_n C 1 rfl dX5_turn_5 rfl ?_
  refine zw_dup C rfl dX5_turn_6 ?_
  refine zw_get (v := .int (M3.1 c 1)) C hc.lt (hc.c E) rfl zin_X5 1 (by decide) gw_1_103 rfl dX5_turn_7 ?_
  refine zw_iconst (v := (1 : Int32)) C dX5_turn_10 ct_i_1 ?_
  refine zw_iadd C dX5_turn_11 ?_
  refine zw_put (ty := .int) C hc.lt (hc.c E) rfl zin_X5 tyX5 tyX5_ok nmX5 1 (by decide) gw_1_103 rfl rfl rfl rfl (fun _ _ => Nat.le_of_ble_eq_true rfl) (fun _ _ => rfl) dX5_turn_12 ?_
  refine zw_iload_n C 0 rfl dX5_turn_15 rfl ?_
  refine zw_if_eq (tgt := 21) C dX5_turn_16 (by decide) (fun hb4 => ?_) (fun hb4 => ?_)
  · have h := zt_ hb4 h
    refine zw_iconst (v := (0 : Int32)) C dX5_turn_21 ct_i_0 ?_
    refine zw_istore_n (lv' := [(2, .int (0 : Int32)), (1, .int r2), (0, .ref (E.2.1 c))]) C dX5_turn_22 rfl (by decide) rfl ?_
    refine zw_iconst (v := (0 : Int32)) C dX5_turn_23 ct_i_0 ?_
    refine zw_istore_n (lv' := [(3, .int (0 : Int32)), (2, .int (0 : Int32)), (1, .int r2), (0, .ref (E.2.1 c))]) C dX5_turn_24 rfl (by decide) rfl ?_
    refine zw_sb [3, 1, 0] rfl ?_
    exact p_X5_turn_25 C hc zFU _ _ _ h
  · have h := zf_ hb4 h
    refine zw_iconst (v := (0 : Int32)) C dX5_turn_19 ct_i_0 ?_
    exact zw_ireturnE C h dX5_turn_20
def f_X5_turn (M : zM) (c : Nat) : Option (Int32 × zM) := f_X5_turn_0 c M
theorem m_X5_turn {l : Launch} {E : zE} (hI : zI E) {M M' : zM} {c : Nat} {r : Int32} (hc : zmp c) (h : f_X5_turn M c = some (r, M')) : zMet l E yX5_turn cX5_turn 4 (some .int) 3 [.ref (E.2.1 c)] M M' (some (.int r)) := zm_of hI (by decide) (Nat.le_of_ble_eq_true rfl) (fun X _ C => p_X5_turn_0 C hc h)
theorem kv_X5_turn : zKV yX5_turn cX5_turn 4 (some .int) 0 := ⟨⟨gw_2_173, gw_2_174, gw_1_4, gw_2_175⟩, ⟨by decide, by decide, by decide +kernel⟩, by decide⟩
-- WingDoor$Moment.runUntilThrough(I)I, 29 instructions, depth 4
def f_X5_runUntilThrough_2 (c : Nat) (x1 : Int32) : Nat → zM → Int32 → Option (Int32 × zM)
  | 0, _, _ => none
  | n + 1, M, x2 => if (60 : Int32) < x2 then (some ((61 : Int32), M)) else (zbi (f_X5_hasGoer M c x1) (fun r3 M4 => if r3 = 0 then (some ((61 : Int32), M4)) else (zg (zin x1 9) (if (M4.1 (c + 3) x1.toNatClampNeg) = (2 : Int32) then (some (x2, M4)) else (zbi (f_X5_sticks M4 c) (fun r9 M10 => if r9 = 0 then (zbi (f_X5_turn M10 c) (fun r13 M14 => f_X5_runUntilThrough_2 c x1 n M14 (x2 + (1 : Int32)))) else (some ((61 : Int32), M10))))))))
set_option maxRecDepth 20000 in
set_option maxHeartbeats 2000000 in
theorem p_X5_runUntilThrough_2 {X : zX} {E : zE} {c : Nat} {x1 : Int32} {r : Int32} {M' : zM} (C : zC X E cX5_runUntilThrough 3 RX5 (some .int) 4) (hc : zmp c) : ∀ (n : Nat) (M : zM) (x2 : Int32), f_X5_runUntilThrough_2 c x1 n M x2 = some (r, M') → zW X E (zRQ X E (some (.int r)) M') M 2 [(0, .ref (E.2.1 c)), (1, .int x1), (2, .int x2)] [] := by
  intro n
  induction n with
  | zero => intro M x2 h; cases h
  | succ n ih =>
    intro M x2 h
    have h : (if (60 : Int32) < x2 then (some ((61 : Int32), M)) else (zbi (f_X5_hasGoer M c x1) (fun r3 M4 => if r3 = 0 then (some ((61 : Int32), M4)) else (zg (zin x1 9) (if (M4.1 (c + 3) x1.toNatClampNeg) = (2 : Int32) then (some (x2, M4)) else (zbi (f_X5_sticks M4 c) (fun r9 M10 => if r9 = 0 then (zbi (f_X5_turn M10 c) (fun r13 M14 => f_X5_runUntilThrough_2 c x1 n M14 (x2 + (1 : Int32)))) else (some ((61 : Int32), M10))))))))) = some (r, M') := h
    refine zw_iload_n C 2 rfl dX5_runUntilThrough_2 rfl ?_
    refine zw_bipush (v := (60 : Int32)) C dX5_runUntilThrough_3 ct_b_60 ?_
    refine zw_icmp_gt (tgt := 49) C dX5_runUntilThrough_5 (by decide) (fun hb1 => ?_) (fun hb1 => ?_)
    · have h := zt_ hb1 h
      refine zw_bipush (v := (61 : Int32)) C dX5_runUntilThrough_49 ct_b_61 ?_
      exact zw_ireturnE C h dX5_runUntilThrough_51
    · have h := zf_ hb1 h
      refine zw_aload_n C 0 rfl dX5_runUntilThrough_8 rfl ?_
      refine zw_iload_n C 1 rfl dX5_runUntilThrough_9 rfl ?_
      obtain ⟨r3, M4, hq2, h⟩ := zbi_e h
      refine zw_callVi (As := [.int x1]) (st := []) C (m_X5_hasGoer C.2.2.2.2.2.2.2.1 hc hq2) kv_X5_hasGoer gw_2_135 (by decide) hc.lt (hc.c E) rfl rfl rfl rfl (Nat.le_of_ble_eq_true rfl) dX5_runUntilThrough_10 ?_
      refine zw_if_eq (tgt := 49) C dX5_runUntilThrough_13 (by decide) (fun hb5 => ?_) (fun hb5 => ?_)
      · have h := zt_ hb5 h
        refine zw_bipush (v := (61 : Int32)) C dX5_runUntilThrough_49 ct_b_61 ?_
        exact zw_ireturnE C h dX5_runUntilThrough_51
      · have h := zf_ hb5 h
        refine zw_aload_n C 0 rfl dX5_runUntilThrough_16 rfl ?_
        refine zw_get (v := .ref (E.2.1 (c + 3))) C hc.lt (hc.c E) rfl zin_X5 5 (by decide) gw_1_112 rfl dX5_runUntilThrough_17 ?_
        refine zw_iload_n C 1 rfl dX5_runUntilThrough_20 rfl ?_
        obtain ⟨hi6, h⟩ := zg_e h
        refine zw_iald C (hc.ia (j := 3) (by decide) (by decide)) (zin_e hi6) dX5_runUntilThrough_21 ?_
        refine zw_iconst (v := (2 : Int32)) C dX5_runUntilThrough_22 ct_i_2 ?_
        refine zw_icmp_ne (tgt := 28) C dX5_runUntilThrough_23 (by decide) (fun hb7 => ?_) (fun hb7 => ?_)
        · have h := zt_ hb7 h
          refine zw_iload_n C 2 rfl dX5_runUntilThrough_26 rfl ?_
          exact zw_ireturnE C h dX5_runUntilThrough_27
        · have h := zf_ hb7 h
          refine zw_aload_n C 0 rfl dX5_runUntilThrough_28 rfl ?_
          obtain ⟨r9, M10, hq8, h⟩ := zbi_e h
          refine zw_callVi (As := []) (st := []) C (m_X5_sticks C.2.2.2.2.2.2.2.1 hc hq8) kv_X5_sticks gw_2_149 (by decide) hc.lt (hc.c E) rfl rfl rfl rfl (Nat.le_of_ble_eq_true rfl) dX5_runUntilThrough_29 ?_
          refine zw_if_eq (tgt := 38) C dX5_runUntilThrough_32 (by decide) (fun hb11 => ?_) (fun hb11 => ?_)
          · have h := zt_ hb11 h
            refine zw_aload_n C 0 rfl dX5_runUntilThrough_38 rfl ?_
            obtain ⟨r13, M14, hq12, h⟩ := zbi_e h
            refine zw_callVi (As := []) (st := []) C (m_X5_turn C.2.2.2.2.2.2.2.1 hc hq12) kv_X5_turn gw_2_172 (by decide) hc.lt (hc.c E) rfl rfl rfl rfl (Nat.le_of_ble_eq_true rfl) dX5_runUntilThrough_39 ?_
            refine zw_pop C rfl dX5_runUntilThrough_42 ?_
            refine zw_iinc (lv' := [(2, .int (x2 + (1 : Int32))), (0, .ref (E.2.1 c)), (1, .int x1)]) C 2 rfl dX5_runUntilThrough_43 (ct_n_1 _) (by decide) rfl ?_
            refine zw_goto (tgt := 2) C dX5_runUntilThrough_46 (by decide) ?_
            refine zw_sb [1, 2, 0] rfl ?_
            exact ih _ _ h
          · have h := zf_ hb11 h
            refine zw_bipush (v := (61 : Int32)) C dX5_runUntilThrough_35 ct_b_61 ?_
            exact zw_ireturnE C h dX5_runUntilThrough_37
def f_X5_runUntilThrough_0 (c : Nat) (x1 : Int32) (M : zM) : Option (Int32 × zM) := f_X5_runUntilThrough_2 c x1 zFU M (0 : Int32)
set_option maxRecDepth 20000 in
set_option maxHeartbeats 2000000 in
theorem p_X5_runUntilThrough_0 {X : zX} {E : zE} {c : Nat} {x1 : Int32} {r : Int32} {M' : zM} (C : zC X E cX5_runUntilThrough 3 RX5 (some .int) 4) (hc : zmp c) {M : zM} (h : f_X5_runUntilThrough_0 c x1 M = some (r, M')) : zW X E (zRQ X E (some (.int r)) M') M 0 [(0, .ref (E.2.1 c)), (1, .int x1)] [] := by
  have h : (f_X5_runUntilThrough_2 c x1 zFU M (0 : Int32)) = some (r, M') := h
  refine zw_iconst (v := (0 : Int32)) C dX5_runUntilThrough_0 ct_i_0 ?_
  refine zw_istore_n (lv' := [(2, .int (0 : Int32)), (0, .ref (E.2.1 c)), (1, .int x1)]) C dX5_runUntilThrough_1 rfl (by decide) rfl ?_
  refine zw_sb [1, 2, 0] rfl ?_
  exact p_X5_runUntilThrough_2 C hc zFU _ _ h
def f_X5_runUntilThrough (M : zM) (c : Nat) (x1 : Int32) : Option (Int32 × zM) := f_X5_runUntilThrough_0 c x1 M
theorem m_X5_runUntilThrough {l : Launch} {E : zE} (hI : zI E) {M M' : zM} {c : Nat} {x1 : Int32} {r : Int32} (hc : zmp c) (h : f_X5_runUntilThrough M c x1 = some (r, M')) : zMet l E yX5_runUntilThrough cX5_runUntilThrough 3 (some .int) 4 [.ref (E.2.1 c), .int x1] M M' (some (.int r)) := zm_of hI (by decide) (Nat.le_of_ble_eq_true rfl) (fun X _ C => p_X5_runUntilThrough_0 C hc h)
theorem kv_X5_runUntilThrough : zKV yX5_runUntilThrough cX5_runUntilThrough 3 (some .int) 1 := ⟨⟨gw_2_146, gw_2_147, gw_1_4, gw_2_148⟩, ⟨by decide, by decide, by decide +kernel⟩, by decide⟩
-- WingDoor$Moment.runUntilItSticks()I, 17 instructions, depth 4
def f_X5_runUntilItSticks_2 (c : Nat) : Nat → zM → Int32 → Option (Int32 × zM)
  | 0, _, _ => none
  | n + 1, M, x1 => if (60 : Int32) < x1 then (some ((61 : Int32), M)) else (zbi (f_X5_sticks M c) (fun r3 M4 => if r3 = 0 then (zbi (f_X5_turn M4 c) (fun r7 M8 => f_X5_runUntilItSticks_2 c n M8 (x1 + (1 : Int32)))) else (some (x1, M4))))
set_option maxRecDepth 20000 in
set_option maxHeartbeats 2000000 in
theorem p_X5_runUntilItSticks_2 {X : zX} {E : zE} {c : Nat} {r : Int32} {M' : zM} (C : zC X E cX5_runUntilItSticks 2 RX5 (some .int) 4) (hc : zmp c) : ∀ (n : Nat) (M : zM) (x1 : Int32), f_X5_runUntilItSticks_2 c n M x1 = some (r, M') → zW X E (zRQ X E (some (.int r)) M') M 2 [(0, .ref (E.2.1 c)), (1, .int x1)] [] := by
  intro n
  induction n with
  | zero => intro M x1 h; cases h
  | succ n ih =>
    intro M x1 h
    have h : (if (60 : Int32) < x1 then (some ((61 : Int32), M)) else (zbi (f_X5_sticks M c) (fun r3 M4 => if r3 = 0 then (zbi (f_X5_turn M4 c) (fun r7 M8 => f_X5_runUntilItSticks_2 c n M8 (x1 + (1 : Int32)))) else (some (x1, M4))))) = some (r, M') := h
    refine zw_iload_n C 1 rfl dX5_runUntilItSticks_2 rfl ?_
    refine zw_bipush (v := (60 : Int32)) C dX5_runUntilItSticks_3 ct_b_60 ?_
    refine zw_icmp_gt (tgt := 28) C dX5_runUntilItSticks_5 (by decide) (fun hb1 => ?_) (fun hb1 => ?_)
    · have h := zt_ hb1 h
      refine zw_bipush (v := (61 : Int32)) C dX5_runUntilItSticks_28 ct_b_61 ?_
      exact zw_ireturnE C h dX5_runUntilItSticks_30
    · have h := zf_ hb1 h
      refine zw_aload_n C 0 rfl dX5_runUntilItSticks_8 rfl ?_
      obtain ⟨r3, M4, hq2, h⟩ := zbi_e h
      refine zw_callVi (As := []) (st := []) C (m_X5_sticks C.2.2.2.2.2.2.2.1 hc hq2) kv_X5_sticks gw_2_149 (by decide) hc.lt (hc.c E) rfl rfl rfl rfl (Nat.le_of_ble_eq_true rfl) dX5_runUntilItSticks_9 ?_
      refine zw_if_eq (tgt := 17) C dX5_runUntilItSticks_12 (by decide) (fun hb5 => ?_) (fun hb5 => ?_)
      · have h := zt_ hb5 h
        refine zw_aload_n C 0 rfl dX5_runUntilItSticks_17 rfl ?_
        obtain ⟨r7, M8, hq6, h⟩ := zbi_e h
        refine zw_callVi (As := []) (st := []) C (m_X5_turn C.2.2.2.2.2.2.2.1 hc hq6) kv_X5_turn gw_2_172 (by decide) hc.lt (hc.c E) rfl rfl rfl rfl (Nat.le_of_ble_eq_true rfl) dX5_runUntilItSticks_18 ?_
        refine zw_pop C rfl dX5_runUntilItSticks_21 ?_
        refine zw_iinc (lv' := [(1, .int (x1 + (1 : Int32))), (0, .ref (E.2.1 c))]) C 1 rfl dX5_runUntilItSticks_22 (ct_n_1 _) (by decide) rfl ?_
        refine zw_goto (tgt := 2) C dX5_runUntilItSticks_25 (by decide) ?_
        refine zw_sb [1, 0] rfl ?_
        exact ih _ _ h
      · have h := zf_ hb5 h
        refine zw_iload_n C 1 rfl dX5_runUntilItSticks_15 rfl ?_
        exact zw_ireturnE C h dX5_runUntilItSticks_16
def f_X5_runUntilItSticks_0 (c : Nat) (M : zM) : Option (Int32 × zM) := f_X5_runUntilItSticks_2 c zFU M (0 : Int32)
set_option maxRecDepth 20000 in
set_option maxHeartbeats 2000000 in
theorem p_X5_runUntilItSticks_0 {X : zX} {E : zE} {c : Nat} {r : Int32} {M' : zM} (C : zC X E cX5_runUntilItSticks 2 RX5 (some .int) 4) (hc : zmp c) {M : zM} (h : f_X5_runUntilItSticks_0 c M = some (r, M')) : zW X E (zRQ X E (some (.int r)) M') M 0 [(0, .ref (E.2.1 c))] [] := by
  have h : (f_X5_runUntilItSticks_2 c zFU M (0 : Int32)) = some (r, M') := h
  refine zw_iconst (v := (0 : Int32)) C dX5_runUntilItSticks_0 ct_i_0 ?_
  refine zw_istore_n (lv' := [(1, .int (0 : Int32)), (0, .ref (E.2.1 c))]) C dX5_runUntilItSticks_1 rfl (by decide) rfl ?_
  refine zw_sb [1, 0] rfl ?_
  exact p_X5_runUntilItSticks_2 C hc zFU _ _ h
def f_X5_runUntilItSticks (M : zM) (c : Nat) : Option (Int32 × zM) := f_X5_runUntilItSticks_0 c M
theorem m_X5_runUntilItSticks {l : Launch} {E : zE} (hI : zI E) {M M' : zM} {c : Nat} {r : Int32} (hc : zmp c) (h : f_X5_runUntilItSticks M c = some (r, M')) : zMet l E yX5_runUntilItSticks cX5_runUntilItSticks 2 (some .int) 4 [.ref (E.2.1 c)] M M' (some (.int r)) := zm_of hI (by decide) (Nat.le_of_ble_eq_true rfl) (fun X _ C => p_X5_runUntilItSticks_0 C hc h)
theorem kv_X5_runUntilItSticks : zKV yX5_runUntilItSticks cX5_runUntilItSticks 2 (some .int) 0 := ⟨⟨gw_2_225, gw_2_226, gw_1_4, gw_2_227⟩, ⟨by decide, by decide, by decide +kernel⟩, by decide⟩
-- WingDoor$Moment.runUntilEmpty()I, 27 instructions, depth 4
def f_X5_runUntilEmpty_26 (c : Nat) (k2 : zM → Int32 → Option (Int32 × zM)) (M : zM) (x1 : Int32) : Option (Int32 × zM) := zbi (f_X5_sticks M c) (fun r2 M3 => if r2 = 0 then (zbi (f_X5_turn M3 c) (fun r6 M7 => k2 M7 (x1 + (1 : Int32)))) else (some ((61 : Int32), M3)))
set_option maxRecDepth 20000 in
set_option maxHeartbeats 2000000 in
theorem p_X5_runUntilEmpty_26 {X : zX} {E : zE} {c : Nat} {r : Int32} {M' : zM} {k2 : zM → Int32 → Option (Int32 × zM)} (C : zC X E cX5_runUntilEmpty 2 RX5 (some .int) 4) (hc : zmp c) (hk2 : ∀ (M : zM) (y1 : Int32), k2 M y1 = some (r, M') → zW X E (zRQ X E (some (.int r)) M') M 2 [(0, .ref (E.2.1 c)), (1, .int y1)] []) {M : zM} {x1 : Int32} (h : f_X5_runUntilEmpty_26 c k2 M x1 = some (r, M')) : zW X E (zRQ X E (some (.int r)) M') M 26 [(0, .ref (E.2.1 c)), (1, .int x1)] [] := by
  have h : (zbi (f_X5_sticks M c) (fun r2 M3 => if r2 = 0 then (zbi (f_X5_turn M3 c) (fun r6 M7 => k2 M7 (x1 + (1 : Int32)))) else (some ((61 : Int32), M3)))) = some (r, M') := h
  refine zw_aload_n C 0 rfl dX5_runUntilEmpty_26 rfl ?_
  obtain ⟨r2, M3, hq1, h⟩ := zbi_e h
  refine zw_callVi (As := []) (st := []) C (m_X5_sticks C.2.2.2.2.2.2.2.1 hc hq1) kv_X5_sticks gw_2_149 (by decide) hc.lt (hc.c E) rfl rfl rfl rfl (Nat.le_of_ble_eq_true rfl) dX5_runUntilEmpty_27 ?_
  refine zw_if_eq (tgt := 36) C dX5_runUntilEmpty_30 (by decide) (fun hb4 => ?_) (fun hb4 => ?_)
  · have h := zt_ hb4 h
    refine zw_aload_n C 0 rfl dX5_runUntilEmpty_36 rfl ?_
    obtain ⟨r6, M7, hq5, h⟩ := zbi_e h
    refine zw_callVi (As := []) (st := []) C (m_X5_turn C.2.2.2.2.2.2.2.1 hc hq5) kv_X5_turn gw_2_172 (by decide) hc.lt (hc.c E) rfl rfl rfl rfl (Nat.le_of_ble_eq_true rfl) dX5_runUntilEmpty_37 ?_
    refine zw_pop C rfl dX5_runUntilEmpty_40 ?_
    refine zw_iinc (lv' := [(1, .int (x1 + (1 : Int32))), (0, .ref (E.2.1 c))]) C 1 rfl dX5_runUntilEmpty_41 (ct_n_1 _) (by decide) rfl ?_
    refine zw_goto (tgt := 2) C dX5_runUntilEmpty_44 (by decide) ?_
    refine zw_sb [1, 0] rfl ?_
    exact hk2 _ _ h
  · have h := zf_ hb4 h
    refine zw_bipush (v := (61 : Int32)) C dX5_runUntilEmpty_33 ct_b_61 ?_
    exact zw_ireturnE C h dX5_runUntilEmpty_35
def f_X5_runUntilEmpty_2 (c : Nat) : Nat → zM → Int32 → Option (Int32 × zM)
  | 0, _, _ => none
  | n + 1, M, x1 => if (60 : Int32) < x1 then (some ((61 : Int32), M)) else (zbi (f_X5_whoIs M c (0 : Int32)) (fun r3 M4 => if r3 = 0 then (zbi (f_X5_whoIs M4 c (1 : Int32)) (fun r7 M8 => if r7 = 0 then (some (x1, M8)) else (f_X5_runUntilEmpty_26 c (f_X5_runUntilEmpty_2 c n) M8 x1))) else (f_X5_runUntilEmpty_26 c (f_X5_runUntilEmpty_2 c n) M4 x1)))
set_option maxRecDepth 20000 in
set_option maxHeartbeats 2000000 in
theorem p_X5_runUntilEmpty_2 {X : zX} {E : zE} {c : Nat} {r : Int32} {M' : zM} (C : zC X E cX5_runUntilEmpty 2 RX5 (some .int) 4) (hc : zmp c) : ∀ (n : Nat) (M : zM) (x1 : Int32), f_X5_runUntilEmpty_2 c n M x1 = some (r, M') → zW X E (zRQ X E (some (.int r)) M') M 2 [(0, .ref (E.2.1 c)), (1, .int x1)] [] := by
  intro n
  induction n with
  | zero => intro M x1 h; cases h
  | succ n ih =>
    intro M x1 h
    have h : (if (60 : Int32) < x1 then (some ((61 : Int32), M)) else (zbi (f_X5_whoIs M c (0 : Int32)) (fun r3 M4 => if r3 = 0 then (zbi (f_X5_whoIs M4 c (1 : Int32)) (fun r7 M8 => if r7 = 0 then (some (x1, M8)) else (f_X5_runUntilEmpty_26 c (f_X5_runUntilEmpty_2 c n) M8 x1))) else (f_X5_runUntilEmpty_26 c (f_X5_runUntilEmpty_2 c n) M4 x1)))) = some (r, M') := h
    refine zw_iload_n C 1 rfl dX5_runUntilEmpty_2 rfl ?_
    refine zw_bipush (v := (60 : Int32)) C dX5_runUntilEmpty_3 ct_b_60 ?_
    refine zw_icmp_gt (tgt := 47) C dX5_runUntilEmpty_5 (by decide) (fun hb1 => ?_) (fun hb1 => ?_)
    · have h := zt_ hb1 h
      refine zw_bipush (v := (61 : Int32)) C dX5_runUntilEmpty_47 ct_b_61 ?_
      exact zw_ireturnE C h dX5_runUntilEmpty_49
    · have h := zf_ hb1 h
      refine zw_aload_n C 0 rfl dX5_runUntilEmpty_8 rfl ?_
      refine zw_iconst (v := (0 : Int32)) C dX5_runUntilEmpty_9 ct_i_0 ?_
      obtain ⟨r3, M4, hq2, h⟩ := zbi_e h
      refine zw_callVi (As := [.int (0 : Int32)]) (st := []) C (m_X5_whoIs C.2.2.2.2.2.2.2.1 hc hq2) kv_X5_whoIs gw_2_153 (by decide) hc.lt (hc.c E) rfl rfl rfl rfl (Nat.le_of_ble_eq_true rfl) dX5_runUntilEmpty_10 ?_
      refine zw_if_ne (tgt := 26) C dX5_runUntilEmpty_13 (by decide) (fun hb5 => ?_) (fun hb5 => ?_)
      · have h := zt_ hb5 h
        refine zw_aload_n C 0 rfl dX5_runUntilEmpty_16 rfl ?_
        refine zw_iconst (v := (1 : Int32)) C dX5_runUntilEmpty_17 ct_i_1 ?_
        obtain ⟨r7, M8, hq6, h⟩ := zbi_e h
        refine zw_callVi (As := [.int (1 : Int32)]) (st := []) C (m_X5_whoIs C.2.2.2.2.2.2.2.1 hc hq6) kv_X5_whoIs gw_2_153 (by decide) hc.lt (hc.c E) rfl rfl rfl rfl (Nat.le_of_ble_eq_true rfl) dX5_runUntilEmpty_18 ?_
        refine zw_if_ne (tgt := 26) C dX5_runUntilEmpty_21 (by decide) (fun hb9 => ?_) (fun hb9 => ?_)
        · have h := zt_ hb9 h
          refine zw_iload_n C 1 rfl dX5_runUntilEmpty_24 rfl ?_
          exact zw_ireturnE C h dX5_runUntilEmpty_25
        · have h := zf_ hb9 h
          exact p_X5_runUntilEmpty_26 C hc (fun _ _ h => ih _ _ h) h
      · have h := zf_ hb5 h
        exact p_X5_runUntilEmpty_26 C hc (fun _ _ h => ih _ _ h) h
def f_X5_runUntilEmpty_0 (c : Nat) (M : zM) : Option (Int32 × zM) := f_X5_runUntilEmpty_2 c zFU M (0 : Int32)
set_option maxRecDepth 20000 in
set_option maxHeartbeats 2000000 in
theorem p_X5_runUntilEmpty_0 {X : zX} {E : zE} {c : Nat} {r : Int32} {M' : zM} (C : zC X E cX5_runUntilEmpty 2 RX5 (some .int) 4) (hc : zmp c) {M : zM} (h : f_X5_runUntilEmpty_0 c M = some (r, M')) : zW X E (zRQ X E (some (.int r)) M') M 0 [(0, .ref (E.2.1 c))] [] := by
  have h : (f_X5_runUntilEmpty_2 c zFU M (0 : Int32)) = some (r, M') := h
  refine zw_iconst (v := (0 : Int32)) C dX5_runUntilEmpty_0 ct_i_0 ?_
  refine zw_istore_n (lv' := [(1, .int (0 : Int32)), (0, .ref (E.2.1 c))]) C dX5_runUntilEmpty_1 rfl (by decide) rfl ?_
  refine zw_sb [1, 0] rfl ?_
  exact p_X5_runUntilEmpty_2 C hc zFU _ _ h
def f_X5_runUntilEmpty (M : zM) (c : Nat) : Option (Int32 × zM) := f_X5_runUntilEmpty_0 c M
theorem m_X5_runUntilEmpty {l : Launch} {E : zE} (hI : zI E) {M M' : zM} {c : Nat} {r : Int32} (hc : zmp c) (h : f_X5_runUntilEmpty M c = some (r, M')) : zMet l E yX5_runUntilEmpty cX5_runUntilEmpty 2 (some .int) 4 [.ref (E.2.1 c)] M M' (some (.int r)) := zm_of hI (by decide) (Nat.le_of_ble_eq_true rfl) (fun X _ C => p_X5_runUntilEmpty_0 C hc h)
theorem kv_X5_runUntilEmpty : zKV yX5_runUntilEmpty cX5_runUntilEmpty 2 (some .int) 0 := ⟨⟨gw_2_233, gw_2_234, gw_1_4, gw_2_235⟩, ⟨by decide, by decide, by decide +kernel⟩, by decide⟩
