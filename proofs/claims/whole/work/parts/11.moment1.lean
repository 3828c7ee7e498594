-- java/lang/Integer.bitCount(I)I, 42 instructions, depth 0
def f_J6_bitCount_0f7a4_48 (M : zM) (x0 : Int32) : Option (Int32 × zM) := some (x0 &&& (63 : Int32), M)
set_option maxRecDepth 20000 in
set_option maxHeartbeats 2000000 in
theorem p_J6_bitCount_0f7a4_48 {X : zX} {E : zE} {r : Int32} {M' : zM} (C : zC X E cJ6_bitCount_0f7a4 1 RJ6 (some .int) 0) {M : zM} {x0 : Int32} (h : f_J6_bitCount_0f7a4_48  M x0 = some (r, M')) : zW X E (zRQ X E (some (.int r)) M') M 48 [(0, .int x0)] [] := by
  have h : (some (x0 &&& (63 : Int32), M)) = some (r, M') := h
  refine zw_iload_n C 0 rfl dJ6_bitCount_0f7a4_48 rfl ?_
  refine zw_bipush (v := (63 : Int32)) C dJ6_bitCount_0f7a4_49 ct_b_63 ?_
  refine zw_iand C dJ6_bitCount_0f7a4_51 ?_
  exact zw_ireturnE C h dJ6_bitCount_0f7a4_52
def f_J6_bitCount_0f7a4_41 (M : zM) (x0 : Int32) : Option (Int32 × zM) := f_J6_bitCount_0f7a4_48 M (x0 + ((x0.toUInt32 >>> ((16 : Int32).toUInt32 &&& Int32.toUInt32 31)).toInt32))
set_option maxRecDepth 20000 in
set_option maxHeartbeats 2000000 in
theorem p_J6_bitCount_0f7a4_41 {X : zX} {E : zE} {r : Int32} {M' : zM} (C : zC X E cJ6_bitCount_0f7a4 1 RJ6 (some .int) 0) {M : zM} {x0 : Int32} (h : f_J6_bitCount_0f7a4_41  M x0 = some (r, M')) : zW X E (zRQ X E (some (.int r)) M') M 41 [(0, .int x0)] [] := by
  have h : (f_J6_bitCount_0f7a4_48 M (x0 + ((x0.toUInt32 >>> ((16 : Int32).toUInt32 &&& Int32.toUInt32 31)).toInt32))) = some (r, M') := h
  refine zw_iload_n C 0 rfl dJ6_bitCount_0f7a4_41 rfl ?_
  refine zw_iload_n C 0 rfl dJ6_bitCount_0f7a4_42 rfl ?_
  refine zw_bipush (v := (16 : Int32)) C dJ6_bitCount_0f7a4_43 ct_b_16 ?_
  refine zw_iushr C dJ6_bitCount_0f7a4_45 ?_
  refine zw_iadd C dJ6_bitCount_0f7a4_46 ?_
  refine zw_istore_n (lv' := [(0, .int (x0 + ((x0.toUInt32 >>> ((16 : Int32).toUInt32 &&& Int32.toUInt32 31)).toInt32)))]) C dJ6_bitCount_0f7a4_47 rfl (by decide) rfl ?_
  exact p_J6_bitCount_0f7a4_48 C h
def f_J6_bitCount_0f7a4_34 (M : zM) (x0 : Int32) : Option (Int32 × zM) := f_J6_bitCount_0f7a4_41 M (x0 + ((x0.toUInt32 >>> ((8 : Int32).toUInt32 &&& Int32.toUInt32 31)).toInt32))
set_option maxRecDepth 20000 in
set_option maxHeartbeats 2000000 in
theorem p_J6_bitCount_0f7a4_34 {X : zX} {E : zE} {r : Int32} {M' : zM} (C : zC X E cJ6_bitCount_0f7a4 1 RJ6 (some .int) 0) {M : zM} {x0 : Int32} (h : f_J6_bitCount_0f7a4_34  M x0 = some (r, M')) : zW X E (zRQ X E (some (.int r)) M') M 34 [(0, .int x0)] [] := by
  have h : (f_J6_bitCount_0f7a4_41 M (x0 + ((x0.toUInt32 >>> ((8 : Int32).toUInt32 &&& Int32.toUInt32 31)).toInt32))) = some (r, M') := h
  refine zw_iload_n C 0 rfl dJ6_bitCount_0f7a4_34 rfl ?_
  refine zw_iload_n C 0 rfl dJ6_bitCount_0f7a4_35 rfl ?_
  refine zw_bipush (v := (8 : Int32)) C dJ6_bitCount_0f7a4_36 ct_b_8 ?_
  refine zw_iushr C dJ6_bitCount_0f7a4_38 ?_
  refine zw_iadd C dJ6_bitCount_0f7a4_39 ?_
  refine zw_istore_n (lv' := [(0, .int (x0 + ((x0.toUInt32 >>> ((8 : Int32).toUInt32 &&& Int32.toUInt32 31)).toInt32)))]) C dJ6_bitCount_0f7a4_40 rfl (by decide) rfl ?_
  exact p_J6_bitCount_0f7a4_41 C h
def f_J6_bitCount_0f7a4_24 (M : zM) (x0 : Int32) : Option (Int32 × zM) := f_J6_bitCount_0f7a4_34 M ((x0 + ((x0.toUInt32 >>> ((4 : Int32).toUInt32 &&& Int32.toUInt32 31)).toInt32)) &&& (252645135 : Int32))
set_option maxRecDepth 20000 in
set_option maxHeartbeats 2000000 in
theorem p_J6_bitCount_0f7a4_24 {X : zX} {E : zE} {r : Int32} {M' : zM} (C : zC X E cJ6_bitCount_0f7a4 1 RJ6 (some .int) 0) {M : zM} {x0 : Int32} (h : f_J6_bitCount_0f7a4_24  M x0 = some (r, M')) : zW X E (zRQ X E (some (.int r)) M') M 24 [(0, .int x0)] [] := by
  have h : (f_J6_bitCount_0f7a4_34 M ((x0 + ((x0.toUInt32 >>> ((4 : Int32).toUInt32 &&& Int32.toUInt32 31)).toInt32)) &&& (252645135 : Int32))) = some (r, M') := h
  refine zw_iload_n C 0 rfl dJ6_bitCount_0f7a4_24 rfl ?_
  refine zw_iload_n C 0 rfl dJ6_bitCount_0f7a4_25 rfl ?_
  refine zw_iconst (v := (4 : Int32)) C dJ6_bitCount_0f7a4_26 ct_i_4 ?_
  refine zw_iushr C dJ6_bitCount_0f7a4_27 ?_
  refine zw_iadd C dJ6_bitCount_0f7a4_28 ?_
  refine zw_ldcw (v := (252645135 : Int32)) C gw_2_171 dJ6_bitCount_0f7a4_29 ?_
  refine zw_iand C dJ6_bitCount_0f7a4_32 ?_
  refine zw_istore_n (lv' := [(0, .int ((x0 + ((x0.toUInt32 >>> ((4 : Int32).toUInt32 &&& Int32.toUInt32 31)).toInt32)) &&& (252645135 : Int32)))]) C dJ6_bitCount_0f7a4_33 rfl (by decide) rfl ?_
  exact p_J6_bitCount_0f7a4_34 C h
def f_J6_bitCount_0f7a4_10 (M : zM) (x0 : Int32) : Option (Int32 × zM) := f_J6_bitCount_0f7a4_24 M ((x0 &&& (858993459 : Int32)) + (((x0.toUInt32 >>> ((2 : Int32).toUInt32 &&& Int32.toUInt32 31)).toInt32) &&& (858993459 : Int32)))
set_option maxRecDepth 20000 in
set_option maxHeartbeats 2000000 in
theorem p_J6_bitCount_0f7a4_10 {X : zX} {E : zE} {r : Int32} {M' : zM} (C : zC X E cJ6_bitCount_0f7a4 1 RJ6 (some .int) 0) {M : zM} {x0 : Int32} (h : f_J6_bitCount_0f7a4_10  M x0 = some (r, M')) : zW X E (zRQ X E (some (.int r)) M') M 10 [(0, .int x0)] [] := by
  have h : (f_J6_bitCount_0f7a4_24 M ((x0 &&& (858993459 : Int32)) + (((x0.toUInt32 >>> ((2 : Int32).toUInt32 &&& Int32.toUInt32 31)).toInt32) &&& (858993459 : Int32)))) = some (r, M') := h
  refine zw_iload_n C 0 rfl dJ6_bitCount_0f7a4_10 rfl ?_
  refine zw_ldcw (v := (858993459 : Int32)) C gw_2_170 dJ6_bitCount_0f7a4_11 ?_
  refine zw_iand C dJ6_bitCount_0f7a4_14 ?_
  refine zw_iload_n C 0 rfl dJ6_bitCount_0f7a4_15 rfl ?_
  refine zw_iconst (v := (2 : Int32)) C dJ6_bitCount_0f7a4_16 ct_i_2 ?_
  refine zw_iushr C dJ6_bitCount_0f7a4_17 ?_
  refine zw_ldcw (v := (858993459 : Int32)) C gw_2_170 dJ6_bitCount_0f7a4_18 ?_
  refine zw_iand C dJ6_bitCount_0f7a4_21 ?_
  refine zw_iadd C dJ6_bitCount_0f7a4_22 ?_
  refine zw_istore_n (lv' := [(0, .int ((x0 &&& (858993459 : Int32)) + (((x0.toUInt32 >>> ((2 : Int32).toUInt32 &&& Int32.toUInt32 31)).toInt32) &&& (858993459 : Int32))))]) C dJ6_bitCount_0f7a4_23 rfl (by decide) rfl ?_
  exact p_J6_bitCount_0f7a4_24 C h
def f_J6_bitCount_0f7a4_0 (M : zM) (x0 : Int32) : Option (Int32 × zM) := f_J6_bitCount_0f7a4_10 M (x0 - (((x0.toUInt32 >>> ((1 : Int32).toUInt32 &&& Int32.toUInt32 31)).toInt32) &&& (1431655765 : Int32)))
set_option maxRecDepth 20000 in
set_option maxHeartbeats 2000000 in
theorem p_J6_bitCount_0f7a4_0 {X : zX} {E : zE} {r : Int32} {M' : zM} (C : zC X E cJ6_bitCount_0f7a4 1 RJ6 (some .int) 0) {M : zM} {x0 : Int32} (h : f_J6_bitCount_0f7a4_0  M x0 = some (r, M')) : zW X E (zRQ X E (some (.int r)) M') M 0 [(0, .int x0)] [] := by
  have h : (f_J6_bitCount_0f7a4_10 M (x0 - (((x0.toUInt32 >>> ((1 : Int32).toUInt32 &&& Int32.toUInt32 31)).toInt32) &&& (1431655765 : Int32)))) = some (r, M') := h
  refine zw_iload_n C 0 rfl dJ6_bitCount_0f7a4_0 rfl ?_
  refine zw_iload_n C 0 rfl dJ6_bitCount_0f7a4_1 rfl ?_
  refine zw_iconst (v := (1 : Int32)) C dJ6_bitCount_0f7a4_2 ct_i_1 ?_
  refine zw_iushr C dJ6_bitCount_0f7a4_3 ?_
  refine zw_ldcw (v := (1431655765 : Int32)) C gw_2_169 dJ6_bitCount_0f7a4_4 ?_
  refine zw_iand C dJ6_bitCount_0f7a4_7 ?_
  refine zw_isub C dJ6_bitCount_0f7a4_8 ?_
  refine zw_istore_n (lv' := [(0, .int (x0 - (((x0.toUInt32 >>> ((1 : Int32).toUInt32 &&& Int32.toUInt32 31)).toInt32) &&& (1431655765 : Int32))))]) C dJ6_bitCount_0f7a4_9 rfl (by decide) rfl ?_
  exact p_J6_bitCount_0f7a4_10 C h
def f_J6_bitCount_0f7a4 (M : zM) (x0 : Int32) : Option (Int32 × zM) := f_J6_bitCount_0f7a4_0 M x0
theorem m_J6_bitCount_0f7a4 {l : Launch} {E : zE} (hI : zI E) {M M' : zM} {x0 : Int32} {r : Int32} (h : f_J6_bitCount_0f7a4 M x0 = some (r, M')) : zMet l E yJ6_bitCount_0f7a4 cJ6_bitCount_0f7a4 1 (some .int) 0 [.int x0] M M' (some (.int r)) := zm_of hI (by decide) (Nat.le_of_ble_eq_true rfl) (fun X _ C => p_J6_bitCount_0f7a4_0 C h)
theorem ks_J6_bitCount_0f7a4 : zKS yJ6_bitCount_0f7a4 cJ6_bitCount_0f7a4 1 (some .int) 1 := ⟨⟨gw_2_167, gw_1_15, gw_2_168⟩, ⟨by decide, by decide, by decide +kernel⟩, by decide⟩
-- WingDoor$Moment.empty()V, 7 instructions, depth 0
def f_X5_empty_0 (c : Nat) (M : zM) : Option zM := some (zs (zs M c 1 (0 : Int32)) c 2 (0 : Int32))
set_option maxRecDepth 20000 in
set_option maxHeartbeats 2000000 in
theorem p_X5_empty_0 {X : zX} {E : zE} {c : Nat} {M' : zM} (C : zC X E cX5_empty 1 RX5 none 0) (hc : zmp c) {M : zM} (h : f_X5_empty_0 c M = some M') : zW X E (zRQ X E none M') M 0 [(0, .ref (E.2.1 c))] [] := by
  have h : (some (zs (zs M c 1 (0 : Int32)) c 2 (0 : Int32))) = some M' := h
  refine zw_aload_n C 0 rfl dX5_empty_0 rfl ?_
  refine zw_iconst (v := (0 : Int32)) C dX5_empty_1 ct_i_0 ?_
  refine zw_put (ty := .int) C hc.lt (hc.c E) rfl zin_X5 tyX5 tyX5_ok nmX5 1 (by decide) gw_1_103 rfl rfl rfl rfl (fun _ _ => Nat.le_of_ble_eq_true rfl) (fun _ _ => rfl) dX5_empty_2 ?_
  refine zw_aload_n C 0 rfl dX5_empty_5 rfl ?_
  refine zw_iconst (v := (0 : Int32)) C dX5_empty_6 ct_i_0 ?_
  refine zw_put (ty := .int) C hc.lt (hc.c E) rfl zin_X5 tyX5 tyX5_ok nmX5 2 (by decide) gw_1_106 rfl rfl rfl rfl (fun _ _ => Nat.le_of_ble_eq_true rfl) (fun _ _ => rfl) dX5_empty_7 ?_
  exact zw_returnE C h dX5_empty_10
def f_X5_empty (M : zM) (c : Nat) : Option zM := f_X5_empty_0 c M
theorem m_X5_empty {l : Launch} {E : zE} (hI : zI E) {M M' : zM} {c : Nat} (hc : zmp c) (h : f_X5_empty M c = some M') : zMet l E yX5_empty cX5_empty 1 none 0 [.ref (E.2.1 c)] M M' none := zm_of hI (by decide) (Nat.le_of_ble_eq_true rfl) (fun X _ C => p_X5_empty_0 C hc h)
theorem kv_X5_empty : zKV yX5_empty cX5_empty 1 none 0 := ⟨⟨gw_2_100, gw_2_101, gw_1_4, gw_2_102⟩, ⟨by decide, by decide, by decide +kernel⟩, by decide⟩
-- WingDoor$Moment.copy(LWingDoor$Moment;)V, 49 instructions, depth 1
def f_X5_copy_61 (c : Nat) (p1 : Nat) (M : zM) : Option zM := some (zcp (zcp M (p1 + 4) (c + 4) (0 : Int32) (0 : Int32) (9 : Int32)) (p1 + 5) (c + 5) (0 : Int32) (0 : Int32) (9 : Int32))
set_option maxRecDepth 20000 in
set_option maxHeartbeats 2000000 in
theorem p_X5_copy_61 {X : zX} {E : zE} {c : Nat} {p1 : Nat} {M' : zM} (C : zC X E cX5_copy 2 RX5 none 1) (hc : zmp c) (hp1 : zmp p1) {M : zM} (h : f_X5_copy_61 c p1 M = some M') : zW X E (zRQ X E none M') M 61 [(0, .ref (E.2.1 c)), (1, .ref (E.2.1 p1))] [] := by
  have h : (some (zcp (zcp M (p1 + 4) (c + 4) (0 : Int32) (0 : Int32) (9 : Int32)) (p1 + 5) (c + 5) (0 : Int32) (0 : Int32) (9 : Int32))) = some M' := h
  refine zw_aload_n C 1 rfl dX5_copy_61 rfl ?_
  refine zw_get (v := .ref (E.2.1 (p1 + 4))) C hp1.lt (hp1.c E) rfl zin_X5 6 (by decide) gw_1_114 rfl dX5_copy_62 ?_
  refine zw_iconst (v := (0 : Int32)) C dX5_copy_65 ct_i_0 ?_
  refine zw_aload_n C 0 rfl dX5_copy_66 rfl ?_
  refine zw_get (v := .ref (E.2.1 (c + 4))) C hc.lt (hc.c E) rfl zin_X5 6 (by decide) gw_1_114 rfl dX5_copy_67 ?_
  refine zw_iconst (v := (0 : Int32)) C dX5_copy_70 ct_i_0 ?_
  refine zw_bipush (v := (9 : Int32)) C dX5_copy_71 ct_b_9 ?_
  refine zw_copyi C (hp1.ia (j := 4) (by decide) (by decide)) (hc.ia (j := 4) (by decide) (by decide)) gw_2_144 (by decide) (by decide) (by decide) (by decide) (by decide) (by decide) (Nat.le_of_ble_eq_true rfl) dX5_copy_73 ?_
  refine zw_aload_n C 1 rfl dX5_copy_76 rfl ?_
  refine zw_get (v := .ref (E.2.1 (p1 + 5))) C hp1.lt (hp1.c E) rfl zin_X5 7 (by decide) gw_1_116 rfl dX5_copy_77 ?_
  refine zw_iconst (v := (0 : Int32)) C dX5_copy_80 ct_i_0 ?_
  refine zw_aload_n C 0 rfl dX5_copy_81 rfl ?_
  refine zw_get (v := .ref (E.2.1 (c + 5))) C hc.lt (hc.c E) rfl zin_X5 7 (by decide) gw_1_116 rfl dX5_copy_82 ?_
  refine zw_iconst (v := (0 : Int32)) C dX5_copy_85 ct_i_0 ?_
  refine zw_bipush (v := (9 : Int32)) C dX5_copy_86 ct_b_9 ?_
  refine zw_copyi C (hp1.ia (j := 5) (by decide) (by decide)) (hc.ia (j := 5) (by decide) (by decide)) gw_2_144 (by decide) (by decide) (by decide) (by decide) (by decide) (by decide) (Nat.le_of_ble_eq_true rfl) dX5_copy_88 ?_
  exact zw_returnE C h dX5_copy_91
def f_X5_copy_31 (c : Nat) (p1 : Nat) (M : zM) : Option zM := f_X5_copy_61 c p1 (zcp (zcp M (p1 + 2) (c + 2) (0 : Int32) (0 : Int32) (9 : Int32)) (p1 + 3) (c + 3) (0 : Int32) (0 : Int32) (9 : Int32))
set_option maxRecDepth 20000 in
set_option maxHeartbeats 2000000 in
theorem p_X5_copy_31 {X : zX} {E : zE} {c : Nat} {p1 : Nat} {M' : zM} (C : zC X E cX5_copy 2 RX5 none 1) (hc : zmp c) (hp1 : zmp p1) {M : zM} (h : f_X5_copy_31 c p1 M = some M') : zW X E (zRQ X E none M') M 31 [(0, .ref (E.2.1 c)), (1, .ref (E.2.1 p1))] [] := by
  have h : (f_X5_copy_61 c p1 (zcp (zcp M (p1 + 2) (c + 2) (0 : Int32) (0 : Int32) (9 : Int32)) (p1 + 3) (c + 3) (0 : Int32) (0 : Int32) (9 : Int32))) = some M' := h
  refine zw_aload_n C 1 rfl dX5_copy_31 rfl ?_
  refine zw_get (v := .ref (E.2.1 (p1 + 2))) C hp1.lt (hp1.c E) rfl zin_X5 4 (by decide) gw_1_110 rfl dX5_copy_32 ?_
  refine zw_iconst (v := (0 : Int32)) C dX5_copy_35 ct_i_0 ?_
  refine zw_aload_n C 0 rfl dX5_copy_36 rfl ?_
  refine zw_get (v := .ref (E.2.1 (c + 2))) C hc.lt (hc.c E) rfl zin_X5 4 (by decide) gw_1_110 rfl dX5_copy_37 ?_
  refine zw_iconst (v := (0 : Int32)) C dX5_copy_40 ct_i_0 ?_
  refine zw_bipush (v := (9 : Int32)) C dX5_copy_41 ct_b_9 ?_
  refine zw_copyi C (hp1.ia (j := 2) (by decide) (by decide)) (hc.ia (j := 2) (by decide) (by decide)) gw_2_144 (by decide) (by decide) (by decide) (by decide) (by decide) (by decide) (Nat.le_of_ble_eq_true rfl) dX5_copy_43 ?_
  refine zw_aload_n C 1 rfl dX5_copy_46 rfl ?_
  refine zw_get (v := .ref (E.2.1 (p1 + 3))) C hp1.lt (hp1.c E) rfl zin_X5 5 (by decide) gw_1_112 rfl dX5_copy_47 ?_
  refine zw_iconst (v := (0 : Int32)) C dX5_copy_50 ct_i_0 ?_
  refine zw_aload_n C 0 rfl dX5_copy_51 rfl ?_
  refine zw_get (v := .ref (E.2.1 (c + 3))) C hc.lt (hc.c E) rfl zin_X5 5 (by decide) gw_1_112 rfl dX5_copy_52 ?_
  refine zw_iconst (v := (0 : Int32)) C dX5_copy_55 ct_i_0 ?_
  refine zw_bipush (v := (9 : Int32)) C dX5_copy_56 ct_b_9 ?_
  refine zw_copyi C (hp1.ia (j := 3) (by decide) (by decide)) (hc.ia (j := 3) (by decide) (by decide)) gw_2_144 (by decide) (by decide) (by decide) (by decide) (by decide) (by decide) (Nat.le_of_ble_eq_true rfl) dX5_copy_58 ?_
  exact p_X5_copy_61 C hc hp1 h
def f_X5_copy_0 (c : Nat) (p1 : Nat) (M : zM) : Option zM := f_X5_copy_31 c p1 (zcp (zs (zs M c 1 (M.1 p1 1)) c 2 ((zs M c 1 (M.1 p1 1)).1 p1 2)) (p1 + 1) (c + 1) (0 : Int32) (0 : Int32) (9 : Int32))
set_option maxRecDepth 20000 in
set_option maxHeartbeats 2000000 in
theorem p_X5_copy_0 {X : zX} {E : zE} {c : Nat} {p1 : Nat} {M' : zM} (C : zC X E cX5_copy 2 RX5 none 1) (hc : zmp c) (hp1 : zmp p1) {M : zM} (h : f_X5_copy_0 c p1 M = some M') : zW X E (zRQ X E none M') M 0 [(0, .ref (E.2.1 c)), (1, .ref (E.2.1 p1))] [] := by
  have h : (f_X5_copy_31 c p1 (zcp (zs (zs M c 1 (M.1 p1 1)) c 2 ((zs M c 1 (M.1 p1 1)).1 p1 2)) (p1 + 1) (c + 1) (0 : Int32) (0 : Int32) (9 : Int32))) = some M' := h
  refine zw_aload_n C 0 rfl dX5_copy_0 rfl ?_
  refine zw_aload_n C 1 rfl dX5_copy_1 rfl ?_
  refine zw_get (v := .int (M.1 p1 1)) C hp1.lt (hp1.c E) rfl zin_X5 1 (by decide) gw_1_103 rfl dX5_copy_2 ?_
  refine zw_put (ty := .int) C hc.lt (hc.c E) rfl zin_X5 tyX5 tyX5_ok nmX5 1 (by decide) gw_1_103 rfl rfl rfl rfl (fun _ _ => Nat.le_of_ble_eq_true rfl) (fun _ _ => rfl) dX5_copy_5 ?_
  refine zw_aload_n C 0 rfl dX5_copy_8 rfl ?_
  refine zw_aload_n C 1 rfl dX5_copy_9 rfl ?_
  refine zw_get (v := .int ((zs M c 1 (M.1 p1 1)).1 p1 2)) C hp1.lt (hp1.c E) rfl zin_X5 2 (by decide) gw_1_106 rfl dX5_copy_10 ?_
  refine zw_put (ty := .int) C hc.lt (hc.c E) rfl zin_X5 tyX5 tyX5_ok nmX5 2 (by decide) gw_1_106 rfl rfl rfl rfl (fun _ _ => Nat.le_of_ble_eq_true rfl) (fun _ _ => rfl) dX5_copy_13 ?_
  refine zw_aload_n C 1 rfl dX5_copy_16 rfl ?_
  refine zw_get (v := .ref (E.2.1 (p1 + 1))) C hp1.lt (hp1.c E) rfl zin_X5 3 (by decide) gw_1_108 rfl dX5_copy_17 ?_
  refine zw_iconst (v := (0 : Int32)) C dX5_copy_20 ct_i_0 ?_
  refine zw_aload_n C 0 rfl dX5_copy_21 rfl ?_
  refine zw_get (v := .ref (E.2.1 (c + 1))) C hc.lt (hc.c E) rfl zin_X5 3 (by decide) gw_1_108 rfl dX5_copy_22 ?_
  refine zw_iconst (v := (0 : Int32)) C dX5_copy_25 ct_i_0 ?_
  refine zw_bipush (v := (9 : Int32)) C dX5_copy_26 ct_b_9 ?_
  refine zw_copyi C (hp1.ia (j := 1) (by decide) (by decide)) (hc.ia (j := 1) (by decide) (by decide)) gw_2_144 (by decide) (by decide) (by decide) (by decide) (by decide) (by decide) (Nat.le_of_ble_eq_true rfl) dX5_copy_28 ?_
  exact p_X5_copy_31 C hc hp1 h
def f_X5_copy (M : zM) (c : Nat) (p1 : Nat) : Option zM := f_X5_copy_0 c p1 M
theorem m_X5_copy {l : Launch} {E : zE} (hI : zI E) {M M' : zM} {c : Nat} {p1 : Nat} (hc : zmp c) (hp1 : zmp p1) (h : f_X5_copy M c p1 = some M') : zMet l E yX5_copy cX5_copy 2 none 1 [.ref (E.2.1 c), .ref (E.2.1 p1)] M M' none := zm_of hI (by decide) (Nat.le_of_ble_eq_true rfl) (fun X _ C => p_X5_copy_0 C hc hp1 h)
theorem kv_X5_copy : zKV yX5_copy cX5_copy 2 none 1 := ⟨⟨gw_2_141, gw_2_142, gw_1_4, gw_2_143⟩, ⟨by decide, by decide, by decide +kernel⟩, by decide⟩
-- WingDoor$Moment.hasGoer(I)Z, 10 instructions, depth 0
def f_X5_hasGoer_0 (c : Nat) (x1 : Int32) (M : zM) : Option (Int32 × zM) := if x1 < 0 then (some ((0 : Int32), M)) else (if (M.1 c 2) ≤ x1 then (some ((0 : Int32), M)) else (some ((1 : Int32), M)))
set_option maxRecDepth 20000 in
set_option maxHeartbeats 2000000 in
theorem p_X5_hasGoer_0 {X : zX} {E : zE} {c : Nat} {x1 : Int32} {r : Int32} {M' : zM} (C : zC X E cX5_hasGoer 2 RX5 (some .boolean) 0) (hc : zmp c) {M : zM} (h : f_X5_hasGoer_0 c x1 M = some (r, M')) : zW X E (zRQ X E (some (.int r)) M') M 0 [(0, .ref (E.2.1 c)), (1, .int x1)] [] := by
  have h : (if x1 < 0 then (some ((0 : Int32), M)) else (if (M.1 c 2) ≤ x1 then (some ((0 : Int32), M)) else (some ((1 : Int32), M)))) = some (r, M') := h
  refine zw_iload_n C 1 rfl dX5_hasGoer_0 rfl ?_
  refine zw_if_lt (tgt := 16) C dX5_hasGoer_1 (by decide) (fun hb1 => ?_) (fun hb1 => ?_)
  · have h := zt_ hb1 h
    refine zw_iconst (v := (0 : Int32)) C dX5_hasGoer_16 ct_i_0 ?_
    exact zw_zreturnE C rfl h dX5_hasGoer_17
  · have h := zf_ hb1 h
    refine zw_iload_n C 1 rfl dX5_hasGoer_4 rfl ?_
    refine zw_aload_n C 0 rfl dX5_hasGoer_5 rfl ?_
    refine zw_get (v := .int (M.1 c 2)) C hc.lt (hc.c E) rfl zin_X5 2 (by decide) gw_1_106 rfl dX5_hasGoer_6 ?_
    refine zw_icmp_ge (tgt := 16) C dX5_hasGoer_9 (by decide) (fun hb2 => ?_) (fun hb2 => ?_)
    · have h := zt_ hb2 h
      refine zw_iconst (v := (0 : Int32)) C dX5_hasGoer_16 ct_i_0 ?_
      exact zw_zreturnE C rfl h dX5_hasGoer_17
    · have h := zf_ hb2 h
      refine zw_iconst (v := (1 : Int32)) C dX5_hasGoer_12 ct_i_1 ?_
      refine zw_goto (tgt := 17) C dX5_hasGoer_13 (by decide) ?_
      exact zw_zreturnE C rfl h dX5_hasGoer_17
def f_X5_hasGoer (M : zM) (c : Nat) (x1 : Int32) : Option (Int32 × zM) := f_X5_hasGoer_0 c x1 M
theorem m_X5_hasGoer {l : Launch} {E : zE} (hI : zI E) {M M' : zM} {c : Nat} {x1 : Int32} {r : Int32} (hc : zmp c) (h : f_X5_hasGoer M c x1 = some (r, M')) : zMet l E yX5_hasGoer cX5_hasGoer 2 (some .boolean) 0 [.ref (E.2.1 c), .int x1] M M' (some (.int r)) := zm_of hI (by decide) (Nat.le_of_ble_eq_true rfl) (fun X _ C => p_X5_hasGoer_0 C hc h)
theorem kv_X5_hasGoer : zKV yX5_hasGoer cX5_hasGoer 2 (some .boolean) 1 := ⟨⟨gw_2_128, gw_2_129, gw_1_4, gw_2_130⟩, ⟨by decide, by decide, by decide +kernel⟩, by decide⟩
-- WingDoor$Moment.bulkOf(I)I, 14 instructions, depth 1
def f_X5_bulkOf_0 (c : Nat) (x1 : Int32) (M : zM) : Option (Int32 × zM) := zbi (f_X5_hasGoer M c x1) (fun r2 M3 => if r2 = 0 then (some ((0 : Int32), M3)) else (zg (zin x1 9) (zbi (f_X7_bulkOf M3 3 (M3.1 (c + 1) x1.toNatClampNeg)) (fun r7 M8 => some (r7, M8)))))
set_option maxRecDepth 20000 in
set_option maxHeartbeats 2000000 in
theorem p_X5_bulkOf_0 {X : zX} {E : zE} {c : Nat} {x1 : Int32} {r : Int32} {M' : zM} (C : zC X E cX5_bulkOf 2 RX5 (some .int) 1) (hc : zmp c) {M : zM} (h : f_X5_bulkOf_0 c x1 M = some (r, M')) : zW X E (zRQ X E (some (.int r)) M') M 0 [(0, .ref (E.2.1 c)), (1, .int x1)] [] := by
  have h : (zbi (f_X5_hasGoer M c x1) (fun r2 M3 => if r2 = 0 then (some ((0 : Int32), M3)) else (zg (zin x1 9) (zbi (f_X7_bulkOf M3 3 (M3.1 (c + 1) x1.toNatClampNeg)) (fun r7 M8 => some (r7, M8)))))) = some (r, M') := h
  refine zw_aload_n C 0 rfl dX5_bulkOf_0 rfl ?_
  refine zw_iload_n C 1 rfl dX5_bulkOf_1 rfl ?_
  obtain ⟨r2, M3, hq1, h⟩ := zbi_e h
  refine zw_callVi (As := [.int x1]) (st := []) C (m_X5_hasGoer C.2.2.2.2.2.2.2.1 hc hq1) kv_X5_hasGoer gw_2_135 (by decide) hc.lt (hc.c E) rfl rfl rfl rfl (Nat.le_of_ble_eq_true rfl) dX5_bulkOf_2 ?_
  refine zw_if_eq (tgt := 24) C dX5_bulkOf_5 (by decide) (fun hb4 => ?_) (fun hb4 => ?_)
  · have h := zt_ hb4 h
    refine zw_iconst (v := (0 : Int32)) C dX5_bulkOf_24 ct_i_0 ?_
    exact zw_ireturnE C h dX5_bulkOf_25
  · have h := zf_ hb4 h
    refine zw_aload_n C 0 rfl dX5_bulkOf_8 rfl ?_
    refine zw_get (v := .ref (E.2.1 3)) C hc.lt (hc.c E) rfl zin_X5 0 (by decide) gw_1_102 rfl dX5_bulkOf_9 ?_
    refine zw_aload_n C 0 rfl dX5_bulkOf_12 rfl ?_
    refine zw_get (v := .ref (E.2.1 (c + 1))) C hc.lt (hc.c E) rfl zin_X5 3 (by decide) gw_1_108 rfl dX5_bulkOf_13 ?_
    refine zw_iload_n C 1 rfl dX5_bulkOf_16 rfl ?_
    obtain ⟨hi5, h⟩ := zg_e h
    refine zw_iald C (hc.ia (j := 1) (by decide) (by decide)) (zin_e hi5) dX5_bulkOf_17 ?_
    obtain ⟨r7, M8, hq6, h⟩ := zbi_e h
    refine zw_callVi (As := [.int (M3.1 (c + 1) x1.toNatClampNeg)]) (st := []) C (m_X7_bulkOf C.2.2.2.2.2.2.2.1 zpp_3 hq6) kv_X7_bulkOf gw_2_196 (by decide) zpp_3.lt (zpp_3.c E) rfl rfl rfl rfl (Nat.le_of_ble_eq_true rfl) dX5_bulkOf_18 ?_
    refine zw_goto (tgt := 25) C dX5_bulkOf_21 (by decide) ?_
    exact zw_ireturnE C h dX5_bulkOf_25
def f_X5_bulkOf (M : zM) (c : Nat) (x1 : Int32) : Option (Int32 × zM) := f_X5_bulkOf_0 c x1 M
theorem m_X5_bulkOf {l : Launch} {E : zE} (hI : zI E) {M M' : zM} {c : Nat} {x1 : Int32} {r : Int32} (hc : zmp c) (h : f_X5_bulkOf M c x1 = some (r, M')) : zMet l E yX5_bulkOf cX5_bulkOf 2 (some .int) 1 [.ref (E.2.1 c), .int x1] M M' (some (.int r)) := zm_of hI (by decide) (Nat.le_of_ble_eq_true rfl) (fun X _ C => p_X5_bulkOf_0 C hc h)
theorem kv_X5_bulkOf : zKV yX5_bulkOf cX5_bulkOf 2 (some .int) 1 := ⟨⟨gw_3_170, gw_3_171, gw_1_4, gw_3_172⟩, ⟨by decide, by decide, by decide +kernel⟩, by decide⟩
-- WingDoor$Moment.pushOf(I)I, 14 instructions, depth 1
def f_X5_pushOf_0 (c : Nat) (x1 : Int32) (M : zM) : Option (Int32 × zM) := zbi (f_X5_hasGoer M c x1) (fun r2 M3 => if r2 = 0 then (some ((0 : Int32), M3)) else (zg (zin x1 9) (zbi (f_X7_pushOf M3 3 (M3.1 (c + 1) x1.toNatClampNeg)) (fun r7 M8 => some (r7, M8)))))
set_option maxRecDepth 20000 in
set_option maxHeartbeats 2000000 in
theorem p_X5_pushOf_0 {X : zX} {E : zE} {c : Nat} {x1 : Int32} {r : Int32} {M' : zM} (C : zC X E cX5_pushOf 2 RX5 (some .int) 1) (hc : zmp c) {M : zM} (h : f_X5_pushOf_0 c x1 M = some (r, M')) : zW X E (zRQ X E (some (.int r)) M') M 0 [(0, .ref (E.2.1 c)), (1, .int x1)] [] := by
  have h : (zbi (f_X5_hasGoer M c x1) (fun r2 M3 => if r2 = 0 then (some ((0 : Int32), M3)) else (zg (zin x1 9) (zbi (f_X7_pushOf M3 3 (M3.1 (c + 1) x1.toNatClampNeg)) (fun r7 M8 => some (r7, M8)))))) = some (r, M') := h
  refine zw_aload_n C 0 rfl dX5_pushOf_0 rfl ?_
  refine zw_iload_n C 1 rfl dX5_pushOf_1 rfl ?_
  obtain ⟨r2, M3, hq1, h⟩ := zbi_e h
  refine zw_callVi (As := [.int x1]) (st := []) C (m_X5_hasGoer C.2.2.2.2.2.2.2.1 hc hq1) kv_X5_hasGoer gw_2_135 (by decide) hc.lt (hc.c E) rfl rfl rfl rfl (Nat.le_of_ble_eq_true rfl) dX5_pushOf_2 ?_
  refine zw_if_eq (tgt := 24) C dX5_pushOf_5 (by decide) (fun hb4 => ?_) (fun hb4 => ?_)
  · have h := zt_ hb4 h
    refine zw_iconst (v := (0 : Int32)) C dX5_pushOf_24 ct_i_0 ?_
    exact zw_ireturnE C h dX5_pushOf_25
  · have h := zf_ hb4 h
    refine zw_aload_n C 0 rfl dX5_pushOf_8 rfl ?_
    refine zw_get (v := .ref (E.2.1 3)) C hc.lt (hc.c E) rfl zin_X5 0 (by decide) gw_1_102 rfl dX5_pushOf_9 ?_
    refine zw_aload_n C 0 rfl dX5_pushOf_12 rfl ?_
    refine zw_get (v := .ref (E.2.1 (c + 1))) C hc.lt (hc.c E) rfl zin_X5 3 (by decide) gw_1_108 rfl dX5_pushOf_13 ?_
    refine zw_iload_n C 1 rfl dX5_pushOf_16 rfl ?_
    obtain ⟨hi5, h⟩ := zg_e h
    refine zw_iald C (hc.ia (j := 1) (by decide) (by decide)) (zin_e hi5) dX5_pushOf_17 ?_
    obtain ⟨r7, M8, hq6, h⟩ := zbi_e h
    refine zw_callVi (As := [.int (M3.1 (c + 1) x1.toNatClampNeg)]) (st := []) C (m_X7_pushOf C.2.2.2.2.2.2.2.1 zpp_3 hq6) kv_X7_pushOf gw_2_161 (by decide) zpp_3.lt (zpp_3.c E) rfl rfl rfl rfl (Nat.le_of_ble_eq_true rfl) dX5_pushOf_18 ?_
    refine zw_goto (tgt := 25) C dX5_pushOf_21 (by decide) ?_
    exact zw_ireturnE C h dX5_pushOf_25
def f_X5_pushOf (M : zM) (c : Nat) (x1 : Int32) : Option (Int32 × zM) := f_X5_pushOf_0 c x1 M
theorem m_X5_pushOf {l : Launch} {E : zE} (hI : zI E) {M M' : zM} {c : Nat} {x1 : Int32} {r : Int32} (hc : zmp c) (h : f_X5_pushOf M c x1 = some (r, M')) : zMet l E yX5_pushOf cX5_pushOf 2 (some .int) 1 [.ref (E.2.1 c), .int x1] M M' (some (.int r)) := zm_of hI (by decide) (Nat.le_of_ble_eq_true rfl) (fun X _ C => p_X5_pushOf_0 C hc h)
theorem kv_X5_pushOf : zKV yX5_pushOf cX5_pushOf 2 (some .int) 1 := ⟨⟨gw_3_67, gw_3_68, gw_1_4, gw_3_69⟩, ⟨by decide, by decide, by decide +kernel⟩, by decide⟩
-- WingDoor$Moment.howManyOfSort(I)I, 19 instructions, depth 0
def f_X5_howManyOfSort_4 (c : Nat) (x1 : Int32) : Nat → zM → Int32 → Int32 → Option (Int32 × zM)
  | 0, _, _, _ => none
  | n + 1, M, x2, x3 => if (M.1 c 2) ≤ x3 then (some (x2, M)) else (zg (zin x3 9) (if (M.1 (c + 1) x3.toNatClampNeg) = x1 then (f_X5_howManyOfSort_4 c x1 n M (x2 + (1 : Int32)) (x3 + (1 : Int32))) else (f_X5_howManyOfSort_4 c x1 n M x2 (x3 + (1 : Int32)))))
set_option maxRecDepth 20000 in
set_option maxHeartbeats 2000000 in
theorem p_X5_howManyOfSort_4 {X : zX} {E : zE} {c : Nat} {x1 : Int32} {r : Int32} {M' : zM} (C : zC X E cX5_howManyOfSort 4 RX5 (some .int) 0) (hc : zmp c) : ∀ (n : Nat) (M : zM) (x2 : Int32) (x3 : Int32), f_X5_howManyOfSort_4 c x1 n M x2 x3 = some (r, M') → zW X E (zRQ X E (some (.int r)) M') M 4 [(0, .ref (E.2.1 c)), (1, .int x1), (2, .int x2), (3, .int x3)] [] := by
  intro n
  induction n with
  | zero => intro M x2 x3 h; cases h
  | succ n ih =>
    intro M x2 x3 h
    have h : (if (M.1 c 2) ≤ x3 then (some (x2, M)) else (zg (zin x3 9) (if (M.1 (c + 1) x3.toNatClampNeg) = x1 then (f_X5_howManyOfSort_4 c x1 n M (x2 + (1 : Int32)) (x3 + (1 : Int32))) else (f_X5_howManyOfSort_4 c x1 n M x2 (x3 + (1 : Int32)))))) = some (r, M') := h
    refine zw_iload_n C 3 rfl dX5_howManyOfSort_4 rfl ?_
    refine zw_aload_n C 0 rfl dX5_howManyOfSort_5 rfl ?_
    refine zw_get (v := .int (M.1 c 2)) C hc.lt (hc.c E) rfl zin_X5 2 (by decide) gw_1_106 rfl dX5_howManyOfSort_6 ?_
    refine zw_icmp_ge (tgt := 31) C dX5_howManyOfSort_9 (by decide) (fun hb1 => ?_) (fun hb1 => ?_)
    · have h := zt_ hb1 h
      refine zw_iload_n C 2 rfl dX5_howManyOfSort_31 rfl ?_
      exact zw_ireturnE C h dX5_howManyOfSort_32
    · have h := zf_ hb1 h
      refine zw_aload_n C 0 rfl dX5_howManyOfSort_12 rfl ?_
      refine zw_get (v := .ref (E.2.1 (c + 1))) C hc.lt (hc.c E) rfl zin_X5 3 (by decide) gw_1_108 rfl dX5_howManyOfSort_13 ?_
      refine zw_iload_n C 3 rfl dX5_howManyOfSort_16 rfl ?_
      obtain ⟨hi2, h⟩ := zg_e h
      refine zw_iald C (hc.ia (j := 1) (by decide) (by decide)) (zin_e hi2) dX5_howManyOfSort_17 ?_
      refine zw_iload_n C 1 rfl dX5_howManyOfSort_18 rfl ?_
      refine zw_icmp_ne (tgt := 25) C dX5_howManyOfSort_19 (by decide) (fun hb3 => ?_) (fun hb3 => ?_)
      · have h := zt_ hb3 h
        refine zw_iinc (lv' := [(2, .int (x2 + (1 : Int32))), (0, .ref (E.2.1 c)), (1, .int x1), (3, .int x3)]) C 2 rfl dX5_howManyOfSort_22 (ct_n_1 _) (by decide) rfl ?_
        refine zw_iinc (lv' := [(3, .int (x3 + (1 : Int32))), (2, .int (x2 + (1 : Int32))), (0, .ref (E.2.1 c)), (1, .int x1)]) C 3 rfl dX5_howManyOfSort_25 (ct_n_1 _) (by decide) rfl ?_
        refine zw_goto (tgt := 4) C dX5_howManyOfSort_28 (by decide) ?_
        refine zw_sb [2, 3, 1, 0] rfl ?_
        exact ih _ _ _ h
      · have h := zf_ hb3 h
        refine zw_iinc (lv' := [(3, .int (x3 + (1 : Int32))), (0, .ref (E.2.1 c)), (1, .int x1), (2, .int x2)]) C 3 rfl dX5_howManyOfSort_25 (ct_n_1 _) (by decide) rfl ?_
        refine zw_goto (tgt := 4) C dX5_howManyOfSort_28 (by decide) ?_
        refine zw_sb [1, 2, 3, 0] rfl ?_
        exact ih _ _ _ h
def f_X5_howManyOfSort_0 (c : Nat) (x1 : Int32) (M : zM) : Option (Int32 × zM) := f_X5_howManyOfSort_4 c x1 zFU M (0 : Int32) (0 : Int32)
set_option maxRecDepth 20000 in
set_option maxHeartbeats 2000000 in
theorem p_X5_howManyOfSort_0 {X : zX} {E : zE} {c : Nat} {x1 : Int32} {r : Int32} {M' : zM} (C : zC X E cX5_howManyOfSort 4 RX5 (some .int) 0) (hc : zmp c) {M : zM} (h : f_X5_howManyOfSort_0 c x1 M = some (r, M')) : zW X E (zRQ X E (some (.int r)) M') M 0 [(0, .ref (E.2.1 c)), (1, .int x1)] [] := by
  have h : (f_X5_howManyOfSort_4 c x1 zFU M (0 : Int32) (0 : Int32)) = some (r, M') := h
  refine zw_iconst (v := (0 : Int32)) C dX5_howManyOfSort_0 ct_i_0 ?_
  refine zw_istore_n (lv' := [(2, .int (0 : Int32)), (0, .ref (E.2.1 c)), (1, .int x1)]) C dX5_howManyOfSort_1 rfl (by decide) rfl ?_
  refine zw_iconst (v := (0 : Int32)) C dX5_howManyOfSort_2 ct_i_0 ?_
  refine zw_istore_n (lv' := [(3, .int (0 : Int32)), (2, .int (0 : Int32)), (0, .ref (E.2.1 c)), (1, .int x1)]) C dX5_howManyOfSort_3 rfl (by decide) rfl ?_
  refine zw_sb [2, 3, 1, 0] rfl ?_
  exact p_X5_howManyOfSort_4 C hc zFU _ _ _ h
def f_X5_howManyOfSort (M : zM) (c : Nat) (x1 : Int32) : Option (Int32 × zM) := f_X5_howManyOfSort_0 c x1 M
theorem m_X5_howManyOfSort {l : Launch} {E : zE} (hI : zI E) {M M' : zM} {c : Nat} {x1 : Int32} {r : Int32} (hc : zmp c) (h : f_X5_howManyOfSort M c x1 = some (r, M')) : zMet l E yX5_howManyOfSort cX5_howManyOfSort 4 (some .int) 0 [.ref (E.2.1 c), .int x1] M M' (some (.int r)) := zm_of hI (by decide) (Nat.le_of_ble_eq_true rfl) (fun X _ C => p_X5_howManyOfSort_0 C hc h)
theorem kv_X5_howManyOfSort : zKV yX5_howManyOfSort cX5_howManyOfSort 4 (some .int) 1 := ⟨⟨gw_2_120, gw_2_121, gw_1_4, gw_2_122⟩, ⟨by decide, by decide, by decide +kernel⟩, by decide⟩
-- WingDoor$Moment.whoIs(I)I, 24 instructions, depth 0
def f_X5_whoIs_4 (c : Nat) (x1 : Int32) : Nat → zM → Int32 → Int32 → Option (Int32 × zM)
  | 0, _, _, _ => none
  | n + 1, M, x2, x3 => if (M.1 c 2) ≤ x3 then (some (x2, M)) else (zg (zin x3 9) (if (M.1 (c + 3) x3.toNatClampNeg) = x1 then (f_X5_whoIs_4 c x1 n M (x2 ||| ((1 : Int32) <<< (x3 &&& 31))) (x3 + (1 : Int32))) else (f_X5_whoIs_4 c x1 n M x2 (x3 + (1 : Int32)))))
set_option maxRecDepth 20000 in
set_option maxHeartbeats 2000000 in
theorem p_X5_whoIs_4 {X : zX} {E : zE} {c : Nat} {x1 : Int32} {r : Int32} {M' : zM} (C : zC X E cX5_whoIs 4 RX5 (some .int) 0) (hc : zmp c) : ∀ (n : Nat) (M : zM) (x2 : Int32) (x3 : Int32), f_X5_whoIs_4 c x1 n M x2 x3 = some (r, M') → zW X E (zRQ X E (some (.int r)) M') M 4 [(0, .ref (E.2.1 c)), (1, .int x1), (2, .int x2), (3, .int x3)] [] := by
  intro n
  induction n with
  | zero => intro M x2 x3 h; cases h
  | succ n ih =>
    intro M x2 x3 h
    have h : (if (M.1 c 2) ≤ x3 then (some (x2, M)) else (zg (zin x3 9) (if (M.1 (c + 3) x3.toNatClampNeg) = x1 then (f_X5_whoIs_4 c x1 n M (x2 ||| ((1 : Int32) <<< (x3 &&& 31))) (x3 + (1 : Int32))) else (f_X5_whoIs_4 c x1 n M x2 (x3 + (1 : Int32)))))) = some (r, M') := h
    refine zw_iload_n C 3 rfl dX5_whoIs_4 rfl ?_
    refine zw_aload_n C 0 rfl dX5_whoIs_5 rfl ?_
    refine zw_get (v := .int (M.1 c 2)) C hc.lt (hc.c E) rfl zin_X5 2 (by decide) gw_1_106 rfl dX5_whoIs_6 ?_
    refine zw_icmp_ge (tgt := 34) C dX5_whoIs_9 (by decide) (fun hb1 => ?_) (fun hb1 => ?_)
    · have h := zt_ hb1 h
      refine zw_iload_n C 2 rfl dX5_whoIs_34 rfl ?_
      exact zw_ireturnE C h dX5_whoIs_35
    · have h := zf_ hb1 h
      refine zw_aload_n C 0 rfl dX5_whoIs_12 rfl ?_
      refine zw_get (v := .ref (E.2.1 (c + 3))) C hc.lt (hc.c E) rfl zin_X5 5 (by decide) gw_1_112 rfl dX5_whoIs_13 ?_
      refine zw_iload_n C 3 rfl dX5_whoIs_16 rfl ?_
      obtain ⟨hi2, h⟩ := zg_e h
      refine zw_iald C (hc.ia (j := 3) (by decide) (by decide)) (zin_e hi2) dX5_whoIs_17 ?_
      refine zw_iload_n C 1 rfl dX5_whoIs_18 rfl ?_
      refine zw_icmp_ne (tgt := 28) C dX5_whoIs_19 (by decide) (fun hb3 => ?_) (fun hb3 => ?_)
      · have h := zt_ hb3 h
        refine zw_iload_n C 2 rfl dX5_whoIs_22 rfl ?_
        refine zw_iconst (v := (1 : Int32)) C dX5_whoIs_23 ct_i_1 ?_
        refine zw_iload_n C 3 rfl dX5_whoIs_24 rfl ?_
        refine zw_ishl C dX5_whoIs_25 ?_
        refine zw_ior C dX5_whoIs_26 ?_
        refine zw_istore_n (lv' := [(2, .int (x2 ||| ((1 : Int32) <<< (x3 &&& 31)))), (0, .ref (E.2.1 c)), (1, .int x1), (3, .int x3)]) C dX5_whoIs_27 rfl (by decide) rfl ?_
        refine zw_iinc (lv' := [(3, .int (x3 + (1 : Int32))), (2, .int (x2 ||| ((1 : Int32) <<< (x3 &&& 31)))), (0, .ref (E.2.1 c)), (1, .int x1)]) C 3 rfl dX5_whoIs_28 (ct_n_1 _) (by decide) rfl ?_
        refine zw_goto (tgt := 4) C dX5_whoIs_31 (by decide) ?_
        refine zw_sb [2, 3, 1, 0] rfl ?_
        exact ih _ _ _ h
      · have h := zf_ hb3 h
        refine zw_iinc (lv' := [(3, .int (x3 + (1 : Int32))), (0, .ref (E.2.1 c)), (1, .int x1), (2, .int x2)]) C 3 rfl dX5_whoIs_28 (ct_n_1 _) (by decide) rfl ?_
        refine zw_goto (tgt := 4) C dX5_whoIs_31 (by decide) ?_
        refine zw_sb [1, 2, 3, 0] rfl ?_
        exact ih _ _ _ h
def f_X5_whoIs_0 (c : Nat) (x1 : Int32) (M : zM) : Option (Int32 × zM) := f_X5_whoIs_4 c x1 zFU M (0 : Int32) (0 : Int32)
set_option maxRecDepth 20000 in
set_option maxHeartbeats 2000000 in
theorem p_X5_whoIs_0 {X : zX} {E : zE} {c : Nat} {x1 : Int32} {r : Int32} {M' : zM} (C : zC X E cX5_whoIs 4 RX5 (some .int) 0) (hc : zmp c) {M : zM} (h : f_X5_whoIs_0 c x1 M = some (r, M')) : zW X E (zRQ X E (some (.int r)) M') M 0 [(0, .ref (E.2.1 c)), (1, .int x1)] [] := by
  have h : (f_X5_whoIs_4 c x1 zFU M (0 : Int32) (0 : Int32)) = some (r, M') := h
  refine zw_iconst (v := (0 : Int32)) C dX5_whoIs_0 ct_i_0 ?_
  refine zw_istore_n (lv' := [(2, .int (0 : Int32)), (0, .ref (E.2.1 c)), (1, .int x1)]) C dX5_whoIs_1 rfl (by decide) rfl ?_
  refine zw_iconst (v := (0 : Int32)) C dX5_whoIs_2 ct_i_0 ?_
  refine zw_istore_n (lv' := [(3, .int (0 : Int32)), (2, .int (0 : Int32)), (0, .ref (E.2.1 c)), (1, .int x1)]) C dX5_whoIs_3 rfl (by decide) rfl ?_
  refine zw_sb [2, 3, 1, 0] rfl ?_
  exact p_X5_whoIs_4 C hc zFU _ _ _ h
def f_X5_whoIs (M : zM) (c : Nat) (x1 : Int32) : Option (Int32 × zM) := f_X5_whoIs_0 c x1 M
theorem m_X5_whoIs {l : Launch} {E : zE} (hI : zI E) {M M' : zM} {c : Nat} {x1 : Int32} {r : Int32} (hc : zmp c) (h : f_X5_whoIs M c x1 = some (r, M')) : zMet l E yX5_whoIs cX5_whoIs 4 (some .int) 0 [.ref (E.2.1 c), .int x1] M M' (some (.int r)) := zm_of hI (by decide) (Nat.le_of_ble_eq_true rfl) (fun X _ C => p_X5_whoIs_0 C hc h)
theorem kv_X5_whoIs : zKV yX5_whoIs cX5_whoIs 4 (some .int) 1 := ⟨⟨gw_2_154, gw_2_155, gw_1_4, gw_2_156⟩, ⟨by decide, by decide, by decide +kernel⟩, by decide⟩
-- WingDoor$Moment.howManyAre(I)I, 5 instructions, depth 1
def f_X5_howManyAre_0 (c : Nat) (x1 : Int32) (M : zM) : Option (Int32 × zM) := zbi (f_X5_whoIs M c x1) (fun r2 M3 => zbi (f_J6_bitCount_0f7a4 M3 r2) (fun r5 M6 => some (r5, M6)))
set_option maxRecDepth 20000 in
set_option maxHeartbeats 2000000 in
theorem p_X5_howManyAre_0 {X : zX} {E : zE} {c : Nat} {x1 : Int32} {r : Int32} {M' : zM} (C : zC X E cX5_howManyAre 2 RX5 (some .int) 1) (hc : zmp c) {M : zM} (h : f_X5_howManyAre_0 c x1 M = some (r, M')) : zW X E (zRQ X E (some (.int r)) M') M 0 [(0, .ref (E.2.1 c)), (1, .int x1)] [] := by
  have h : (zbi (f_X5_whoIs M c x1) (fun r2 M3 => zbi (f_J6_bitCount_0f7a4 M3 r2) (fun r5 M6 => some (r5, M6)))) = some (r, M') := h
  refine zw_aload_n C 0 rfl dX5_howManyAre_0 rfl ?_
  refine zw_iload_n C 1 rfl dX5_howManyAre_1 rfl ?_
  obtain ⟨r2, M3, hq1, h⟩ := zbi_e h
  refine zw_callVi (As := [.int x1]) (st := []) C (m_X5_whoIs C.2.2.2.2.2.2.2.1 hc hq1) kv_X5_whoIs gw_2_153 (by decide) hc.lt (hc.c E) rfl rfl rfl rfl (Nat.le_of_ble_eq_true rfl) dX5_howManyAre_2 ?_
  obtain ⟨r5, M6, hq4, h⟩ := zbi_e h
  refine zw_callSi (As := [.int r2]) (st := []) C (m_J6_bitCount_0f7a4 C.2.2.2.2.2.2.2.1 hq4) ks_J6_bitCount_0f7a4 gw_2_166 (by decide) rfl rfl (Nat.le_of_ble_eq_true rfl) dX5_howManyAre_5 ?_
  exact zw_ireturnE C h dX5_howManyAre_8
def f_X5_howManyAre (M : zM) (c : Nat) (x1 : Int32) : Option (Int32 × zM) := f_X5_howManyAre_0 c x1 M
theorem m_X5_howManyAre {l : Launch} {E : zE} (hI : zI E) {M M' : zM} {c : Nat} {x1 : Int32} {r : Int32} (hc : zmp c) (h : f_X5_howManyAre M c x1 = some (r, M')) : zMet l E yX5_howManyAre cX5_howManyAre 2 (some .int) 1 [.ref (E.2.1 c), .int x1] M M' (some (.int r)) := zm_of hI (by decide) (Nat.le_of_ble_eq_true rfl) (fun X _ C => p_X5_howManyAre_0 C hc h)
theorem kv_X5_howManyAre : zKV yX5_howManyAre cX5_howManyAre 2 (some .int) 1 := ⟨⟨gw_3_23, gw_3_24, gw_1_4, gw_3_25⟩, ⟨by decide, by decide, by decide +kernel⟩, by decide⟩
-- WingDoor$Moment.whoIsInRoomAt(I)I, 30 instructions, depth 0
def f_X5_whoIsInRoomAt_4 (c : Nat) (x1 : Int32) : Nat → zM → Int32 → Int32 → Option (Int32 × zM)
  | 0, _, _, _ => none
  | n + 1, M, x2, x3 => if (M.1 c 2) ≤ x3 then (some (x2, M)) else (zg (zin x3 9) (if (M.1 (c + 3) x3.toNatClampNeg) = (1 : Int32) then (zg (zin x3 9) (if (M.1 (c + 4) x3.toNatClampNeg) = x1 then (f_X5_whoIsInRoomAt_4 c x1 n M (x2 ||| ((1 : Int32) <<< (x3 &&& 31))) (x3 + (1 : Int32))) else (f_X5_whoIsInRoomAt_4 c x1 n M x2 (x3 + (1 : Int32))))) else (f_X5_whoIsInRoomAt_4 c x1 n M x2 (x3 + (1 : Int32)))))
set_option maxRecDepth 20000 in
set_option maxHeartbeats 2000000 in
theorem p_X5_whoIsInRoomAt_4 {X : zX} {E : zE} {c : Nat} {x1 : Int32} {r : Int32} {M' : zM} (C : zC X E cX5_whoIsInRoomAt 4 RX5 (some .int) 0) (hc : zmp c) : ∀ (n : Nat) (M : zM) (x2 : Int32) (x3 : Int32), f_X5_whoIsInRoomAt_4 c x1 n M x2 x3 = some (r, M') → zW X E (zRQ X E (some (.int r)) M') M 4 [(0, .ref (E.2.1 c)), (1, .int x1), (2, .int x2), (3, .int x3)] [] := by
  intro n
  induction n with
  | zero => intro M x2 x3 h; cases h
  | succ n ih =>
    intro M x2 x3 h
    have h : (if (M.1 c 2) ≤ x3 then (some (x2, M)) else (zg (zin x3 9) (if (M.1 (c + 3) x3.toNatClampNeg) = (1 : Int32) then (zg (zin x3 9) (if (M.1 (c + 4) x3.toNatClampNeg) = x1 then (f_X5_whoIsInRoomAt_4 c x1 n M (x2 ||| ((1 : Int32) <<< (x3 &&& 31))) (x3 + (1 : Int32))) else (f_X5_whoIsInRoomAt_4 c x1 n M x2 (x3 + (1 : Int32))))) else (f_X5_whoIsInRoomAt_4 c x1 n M x2 (x3 + (1 : Int32)))))) = some (r, M') := h
    refine zw_iload_n C 3 rfl dX5_whoIsInRoomAt_4 rfl ?_
    refine zw_aload_n C 0 rfl dX5_whoIsInRoomAt_5 rfl ?_
    refine zw_get (v := .int (M.1 c 2)) C hc.lt (hc.c E) rfl zin_X5 2 (by decide) gw_1_106 rfl dX5_whoIsInRoomAt_6 ?_
    refine zw_icmp_ge (tgt := 44) C dX5_whoIsInRoomAt_9 (by decide) (fun hb1 => ?_) (fun hb1 => ?_)
    · have h := zt_ hb1 h
      refine zw_iload_n C 2 rfl dX5_whoIsInRoomAt_44 rfl ?_
      exact zw_ireturnE C h dX5_whoIsInRoomAt_45
    · have h := zf_ hb1 h
      refine zw_aload_n C 0 rfl dX5_whoIsInRoomAt_12 rfl ?_
      refine zw_get (v := .ref (E.2.1 (c + 3))) C hc.lt (hc.c E) rfl zin_X5 5 (by decide) gw_1_112 rfl dX5_whoIsInRoomAt_13 ?_
      refine zw_iload_n C 3 rfl dX5_whoIsInRoomAt_16 rfl ?_
      obtain ⟨hi2, h⟩ := zg_e h
      refine zw_iald C (hc.ia (j := 3) (by decide) (by decide)) (zin_e hi2) dX5_whoIsInRoomAt_17 ?_
      refine zw_iconst (v := (1 : Int32)) C dX5_whoIsInRoomAt_18 ct_i_1 ?_
      refine zw_icmp_ne (tgt := 38) C dX5_whoIsInRoomAt_19 (by decide) (fun hb3 => ?_) (fun hb3 => ?_)
      · have h := zt_ hb3 h
        refine zw_aload_n C 0 rfl dX5_whoIsInRoomAt_22 rfl ?_
        refine zw_get (v := .ref (E.2.1 (c + 4))) C hc.lt (hc.c E) rfl zin_X5 6 (by decide) gw_1_114 rfl dX5_whoIsInRoomAt_23 ?_
        refine zw_iload_n C 3 rfl dX5_whoIsInRoomAt_26 rfl ?_
        obtain ⟨hi4, h⟩ := zg_e h
        refine zw_iald C (hc.ia (j := 4) (by decide) (by decide)) (zin_e hi4) dX5_whoIsInRoomAt_27 ?_
        refine zw_iload_n C 1 rfl dX5_whoIsInRoomAt_28 rfl ?_
        refine zw_icmp_ne (tgt := 38) C dX5_whoIsInRoomAt_29 (by decide) (fun hb5 => ?_) (fun hb5 => ?_)
        · have h := zt_ hb5 h
          refine zw_iload_n C 2 rfl dX5_whoIsInRoomAt_32 rfl ?_
          refine zw_iconst (v := (1 : Int32)) C dX5_whoIsInRoomAt_33 ct_i_1 ?_
          refine zw_iload_n C 3 rfl dX5_whoIsInRoomAt_34 rfl ?_
          refine zw_ishl C dX5_whoIsInRoomAt_35 ?_
          refine zw_ior C dX5_whoIsInRoomAt_36 ?_
          refine zw_istore_n (lv' := [(2, .int (x2 ||| ((1 : Int32) <<< (x3 &&& 31)))), (0, .ref (E.2.1 c)), (1, .int x1), (3, .int x3)]) C dX5_whoIsInRoomAt_37 rfl (by decide) rfl ?_
          refine zw_iinc (lv' := [(3, .int (x3 + (1 : Int32))), (2, .int (x2 ||| ((1 : Int32) <<< (x3 &&& 31)))), (0, .ref (E.2.1 c)), (1, .int x1)]) C 3 rfl dX5_whoIsInRoomAt_38 (ct_n_1 _) (by decide) rfl ?_
          refine zw_goto (tgt := 4) C dX5_whoIsInRoomAt_41 (by decide) ?_
          refine zw_sb [2, 3, 1, 0] rfl ?_
          exact ih _ _ _ h
        · have h := zf_ hb5 h
          refine zw_iinc (lv' := [(3, .int (x3 + (1 : Int32))), (0, .ref (E.2.1 c)), (1, .int x1), (2, .int x2)]) C 3 rfl dX5_whoIsInRoomAt_38 (ct_n_1 _) (by decide) rfl ?_
          refine zw_goto (tgt := 4) C dX5_whoIsInRoomAt_41 (by decide) ?_
          refine zw_sb [1, 2, 3, 0] rfl ?_
          exact ih _ _ _ h
      · have h := zf_ hb3 h
        refine zw_iinc (lv' := [(3, .int (x3 + (1 : Int32))), (0, .ref (E.2.1 c)), (1, .int x1), (2, .int x2)]) C 3 rfl dX5_whoIsInRoomAt_38 (ct_n_1 _) (by decide) rfl ?_
        refine zw_goto (tgt := 4) C dX5_whoIsInRoomAt_41 (by decide) ?_
        refine zw_sb [1, 2, 3, 0] rfl ?_
        exact ih _ _ _ h
def f_X5_whoIsInRoomAt_0 (c : Nat) (x1 : Int32) (M : zM) : Option (Int32 × zM) := f_X5_whoIsInRoomAt_4 c x1 zFU M (0 : Int32) (0 : Int32)
set_option maxRecDepth 20000 in
set_option maxHeartbeats 2000000 in
theorem p_X5_whoIsInRoomAt_0 {X : zX} {E : zE} {c : Nat} {x1 : Int32} {r : Int32} {M' : zM} (C : zC X E cX5_whoIsInRoomAt 4 RX5 (some .int) 0) (hc : zmp c) {M : zM} (h : f_X5_whoIsInRoomAt_0 c x1 M = some (r, M')) : zW X E (zRQ X E (some (.int r)) M') M 0 [(0, .ref (E.2.1 c)), (1, .int x1)] [] := by
  have h : (f_X5_whoIsInRoomAt_4 c x1 zFU M (0 : Int32) (0 : Int32)) = some (r, M') := h
  refine zw_iconst (v := (0 : Int32)) C dX5_whoIsInRoomAt_0 ct_i_0 ?_
  refine zw_istore_n (lv' := [(2, .int (0 : Int32)), (0, .ref (E.2.1 c)), (1, .int x1)]) C dX5_whoIsInRoomAt_1 rfl (by decide) rfl ?_
  refine zw_iconst (v := (0 : Int32)) C dX5_whoIsInRoomAt_2 ct_i_0 ?_
  refine zw_istore_n (lv' := [(3, .int (0 : Int32)), (2, .int (0 : Int32)), (0, .ref (E.2.1 c)), (1, .int x1)]) C dX5_whoIsInRoomAt_3 rfl (by decide) rfl ?_
  refine zw_sb [2, 3, 1, 0] rfl ?_
  exact p_X5_whoIsInRoomAt_4 C hc zFU _ _ _ h
def f_X5_whoIsInRoomAt (M : zM) (c : Nat) (x1 : Int32) : Option (Int32 × zM) := f_X5_whoIsInRoomAt_0 c x1 M
theorem m_X5_whoIsInRoomAt {l : Launch} {E : zE} (hI : zI E) {M M' : zM} {c : Nat} {x1 : Int32} {r : Int32} (hc : zmp c) (h : f_X5_whoIsInRoomAt M c x1 = some (r, M')) : zMet l E yX5_whoIsInRoomAt cX5_whoIsInRoomAt 4 (some .int) 0 [.ref (E.2.1 c), .int x1] M M' (some (.int r)) := zm_of hI (by decide) (Nat.le_of_ble_eq_true rfl) (fun X _ C => p_X5_whoIsInRoomAt_0 C hc h)
theorem kv_X5_whoIsInRoomAt : zKV yX5_whoIsInRoomAt cX5_whoIsInRoomAt 4 (some .int) 1 := ⟨⟨gw_2_209, gw_2_210, gw_1_4, gw_2_211⟩, ⟨by decide, by decide, by decide +kernel⟩, by decide⟩
-- WingDoor$Moment.bulkInRoomAt(I)I, 34 instructions, depth 1
def f_X5_bulkInRoomAt_4 (c : Nat) (x1 : Int32) : Nat → zM → Int32 → Int32 → Option (Int32 × zM)
  | 0, _, _, _ => none
  | n + 1, M, x2, x3 => if (M.1 c 2) ≤ x3 then (some (x2, M)) else (zg (zin x3 9) (if (M.1 (c + 3) x3.toNatClampNeg) = (1 : Int32) then (zg (zin x3 9) (if (M.1 (c + 4) x3.toNatClampNeg) = x1 then (zg (zin x3 9) (zbi (f_X7_bulkOf M 3 (M.1 (c + 1) x3.toNatClampNeg)) (fun r8 M9 => f_X5_bulkInRoomAt_4 c x1 n M9 (x2 + r8) (x3 + (1 : Int32))))) else (f_X5_bulkInRoomAt_4 c x1 n M x2 (x3 + (1 : Int32))))) else (f_X5_bulkInRoomAt_4 c x1 n M x2 (x3 + (1 : Int32)))))
set_option maxRecDepth 20000 in
set_option maxHeartbeats 2000000 in
theorem p_X5_bulkInRoomAt_4 {X : zX} {E : zE} {c : Nat} {x1 : Int32} {r : Int32} {M' : zM} (C : zC X E cX5_bulkInRoomAt 4 RX5 (some .int) 1) (hc : zmp c) : ∀ (n : Nat) (M : zM) (x2 : Int32) (x3 : Int32), f_X5_bulkInRoomAt_4 c x1 n M x2 x3 = some (r, M') → zW X E (zRQ X E (some (.int r)) M') M 4 [(0, .ref (E.2.1 c)), (1, .int x1), (2, .int x2), (3, .int x3)] [] := by
  intro n
  induction n with
  | zero => intro M x2 x3 h; cases h
  | succ n ih =>
    intro M x2 x3 h
    have h : (if (M.1 c 2) ≤ x3 then (some (x2, M)) else (zg (zin x3 9) (if (M.1 (c + 3) x3.toNatClampNeg) = (1 : Int32) then (zg (zin x3 9) (if (M.1 (c + 4) x3.toNatClampNeg) = x1 then (zg (zin x3 9) (zbi (f_X7_bulkOf M 3 (M.1 (c + 1) x3.toNatClampNeg)) (fun r8 M9 => f_X5_bulkInRoomAt_4 c x1 n M9 (x2 + r8) (x3 + (1 : Int32))))) else (f_X5_bulkInRoomAt_4 c x1 n M x2 (x3 + (1 : Int32))))) else (f_X5_bulkInRoomAt_4 c x1 n M x2 (x3 + (1 : Int32)))))) = some (r, M') := h
    refine zw_iload_n C 3 rfl dX5_bulkInRoomAt_4 rfl ?_
    refine zw_aload_n C 0 rfl dX5_bulkInRoomAt_5 rfl ?_
    refine zw_get (v := .int (M.1 c 2)) C hc.lt (hc.c E) rfl zin_X5 2 (by decide) gw_1_106 rfl dX5_bulkInRoomAt_6 ?_
    refine zw_icmp_ge (tgt := 54) C dX5_bulkInRoomAt_9 (by decide) (fun hb1 => ?_) (fun hb1 => ?_)
    · have h := zt_ hb1 h
      refine zw_iload_n C 2 rfl dX5_bulkInRoomAt_54 rfl ?_
      exact zw_ireturnE C h dX5_bulkInRoomAt_55
    · have h := zf_ hb1 h
      refine zw_aload_n C 0 rfl dX5_bulkInRoomAt_12 rfl ?_
      refine zw_get (v := .ref (E.2.1 (c + 3))) C hc.lt (hc.c E) rfl zin_X5 5 (by decide) gw_1_112 rfl dX5_bulkInRoomAt_13 ?_
      refine zw_iload_n C 3 rfl dX5_bulkInRoomAt_16 rfl ?_
      obtain ⟨hi2, h⟩ := zg_e h
      refine zw_iald C (hc.ia (j := 3) (by decide) (by decide)) (zin_e hi2) dX5_bulkInRoomAt_17 ?_
      refine zw_iconst (v := (1 : Int32)) C dX5_bulkInRoomAt_18 ct_i_1 ?_
      refine zw_icmp_ne (tgt := 48) C dX5_bulkInRoomAt_19 (by decide) (fun hb3 => ?_) (fun hb3 => ?_)
      · have h := zt_ hb3 h
        refine zw_aload_n C 0 rfl dX5_bulkInRoomAt_22 rfl ?_
        refine zw_get (v := .ref (E.2.1 (c + 4))) C hc.lt (hc.c E) rfl zin_X5 6 (by decide) gw_1_114 rfl dX5_bulkInRoomAt_23 ?_
        refine zw_iload_n C 3 rfl dX5_bulkInRoomAt_26 rfl ?_
        obtain ⟨hi4, h⟩ := zg_e h
        refine zw_iald C (hc.ia (j := 4) (by decide) (by decide)) (zin_e hi4) dX5_bulkInRoomAt_27 ?_
        refine zw_iload_n C 1 rfl dX5_bulkInRoomAt_28 rfl ?_
        refine zw_icmp_ne (tgt := 48) C dX5_bulkInRoomAt_29 (by decide) (fun hb5 => ?_) (fun hb5 => ?_)
        · have h := zt_ hb5 h
          refine zw_iload_n C 2 rfl dX5_bulkInRoomAt_32 rfl ?_
          refine zw_aload_n C 0 rfl dX5_bulkInRoomAt_33 rfl ?_
          refine zw_get (v := .ref (E.2.1 3)) C hc.lt (hc.c E) rfl zin_X5 0 (by decide) gw_1_102 rfl dX5_bulkInRoomAt_34 ?_
          refine zw_aload_n C 0 rfl dX5_bulkInRoomAt_37 rfl ?_
          refine zw_get (v := .ref (E.2.1 (c + 1))) C hc.lt (hc.c E) rfl zin_X5 3 (by decide) gw_1_108 rfl dX5_bulkInRoomAt_38 ?_
          refine zw_iload_n C 3 rfl dX5_bulkInRoomAt_41 rfl ?_
          obtain ⟨hi6, h⟩ := zg_e h
          refine zw_iald C (hc.ia (j := 1) (by decide) (by decide)) (zin_e hi6) dX5_bulkInRoomAt_42 ?_
          obtain ⟨r8, M9, hq7, h⟩ := zbi_e h
          refine zw_callVi (As := [.int (M.1 (c + 1) x3.toNatClampNeg)]) (st := [.int x2]) C (m_X7_bulkOf C.2.2.2.2.2.2.2.1 zpp_3 hq7) kv_X7_bulkOf gw_2_196 (by decide) zpp_3.lt (zpp_3.c E) rfl rfl rfl rfl (Nat.le_of_ble_eq_true rfl) dX5_bulkInRoomAt_43 ?_
          refine zw_iadd C dX5_bulkInRoomAt_46 ?_
          refine zw_istore_n (lv' := [(2, .int (x2 + r8)), (0, .ref (E.2.1 c)), (1, .int x1), (3, .int x3)]) C dX5_bulkInRoomAt_47 rfl (by decide) rfl ?_
          refine zw_iinc (lv' := [(3, .int (x3 + (1 : Int32))), (2, .int (x2 + r8)), (0, .ref (E.2.1 c)), (1, .int x1)]) C 3 rfl dX5_bulkInRoomAt_48 (ct_n_1 _) (by decide) rfl ?_
          refine zw_goto (tgt := 4) C dX5_bulkInRoomAt_51 (by decide) ?_
          refine zw_sb [2, 3, 1, 0] rfl ?_
          exact ih _ _ _ h
        · have h := zf_ hb5 h
          refine zw_iinc (lv' := [(3, .int (x3 + (1 : Int32))), (0, .ref (E.2.1 c)), (1, .int x1), (2, .int x2)]) C 3 rfl dX5_bulkInRoomAt_48 (ct_n_1 _) (by decide) rfl ?_
          refine zw_goto (tgt := 4) C dX5_bulkInRoomAt_51 (by decide) ?_
          refine zw_sb [1, 2, 3, 0] rfl ?_
          exact ih _ _ _ h
      · have h := zf_ hb3 h
        refine zw_iinc (lv' := [(3, .int (x3 + (1 : Int32))), (0, .ref (E.2.1 c)), (1, .int x1), (2, .int x2)]) C 3 rfl dX5_bulkInRoomAt_48 (ct_n_1 _) (by decide) rfl ?_
        refine zw_goto (tgt := 4) C dX5_bulkInRoomAt_51 (by decide) ?_
        refine zw_sb [1, 2, 3, 0] rfl ?_
        exact ih _ _ _ h
def f_X5_bulkInRoomAt_0 (c : Nat) (x1 : Int32) (M : zM) : Option (Int32 × zM) := f_X5_bulkInRoomAt_4 c x1 zFU M (0 : Int32) (0 : Int32)
set_option maxRecDepth 20000 in
set_option maxHeartbeats 2000000 in
theorem p_X5_bulkInRoomAt_0 {X : zX} {E : zE} {c : Nat} {x1 : Int32} {r : Int32} {M' : zM} (C : zC X E cX5_bulkInRoomAt 4 RX5 (some .int) 1) (hc : zmp c) {M : zM} (h : f_X5_bulkInRoomAt_0 c x1 M = some (r, M')) : zW X E (zRQ X E (some (.int r)) M') M 0 [(0, .ref (E.2.1 c)), (1, .int x1)] [] := by
  have h : (f_X5_bulkInRoomAt_4 c x1 zFU M (0 : Int32) (0 : Int32)) = some (r, M') := h
  refine zw_iconst (v := (0 : Int32)) C dX5_bulkInRoomAt_0 ct_i_0 ?_
  refine zw_istore_n (lv' := [(2, .int (0 : Int32)), (0, .ref (E.2.1 c)), (1, .int x1)]) C dX5_bulkInRoomAt_1 rfl (by decide) rfl ?_
  refine zw_iconst (v := (0 : Int32)) C dX5_bulkInRoomAt_2 ct_i_0 ?_
  refine zw_istore_n (lv' := [(3, .int (0 : Int32)), (2, .int (0 : Int32)), (0, .ref (E.2.1 c)), (1, .int x1)]) C dX5_bulkInRoomAt_3 rfl (by decide) rfl ?_
  refine zw_sb [2, 3, 1, 0] rfl ?_
  exact p_X5_bulkInRoomAt_4 C hc zFU _ _ _ h
def f_X5_bulkInRoomAt (M : zM) (c : Nat) (x1 : Int32) : Option (Int32 × zM) := f_X5_bulkInRoomAt_0 c x1 M
theorem m_X5_bulkInRoomAt {l : Launch} {E : zE} (hI : zI E) {M M' : zM} {c : Nat} {x1 : Int32} {r : Int32} (hc : zmp c) (h : f_X5_bulkInRoomAt M c x1 = some (r, M')) : zMet l E yX5_bulkInRoomAt cX5_bulkInRoomAt 4 (some .int) 1 [.ref (E.2.1 c), .int x1] M M' (some (.int r)) := zm_of hI (by decide) (Nat.le_of_ble_eq_true rfl) (fun X _ C => p_X5_bulkInRoomAt_0 C hc h)
theorem kv_X5_bulkInRoomAt : zKV yX5_bulkInRoomAt cX5_bulkInRoomAt 4 (some .int) 1 := ⟨⟨gw_2_193, gw_2_194, gw_1_4, gw_2_195⟩, ⟨by decide, by decide, by decide +kernel⟩, by decide⟩
-- WingDoor$Moment.load()I, 28 instructions, depth 1
def f_X5_load_4 (c : Nat) : Nat → zM → Int32 → Int32 → Option (Int32 × zM)
  | 0, _, _, _ => none
  | n + 1, M, x1, x2 => if (M.1 c 2) ≤ x2 then (some (x1, M)) else (zg (zin x2 9) (if (M.1 (c + 3) x2.toNatClampNeg) = (1 : Int32) then (zg (zin x2 9) (zbi (f_X7_pushOf M 3 (M.1 (c + 1) x2.toNatClampNeg)) (fun r6 M7 => f_X5_load_4 c n M7 (x1 + r6) (x2 + (1 : Int32))))) else (f_X5_load_4 c n M x1 (x2 + (1 : Int32)))))
set_option maxRecDepth 20000 in
set_option maxHeartbeats 2000000 in
theorem p_X5_load_4 {X : zX} {E : zE} {c : Nat} {r : Int32} {M' : zM} (C : zC X E cX5_load 3 RX5 (some .int) 1) (hc : zmp c) : ∀ (n : Nat) (M : zM) (x1 : Int32) (x2 : Int32), f_X5_load_4 c n M x1 x2 = some (r, M') → zW X E (zRQ X E (some (.int r)) M') M 4 [(0, .ref (E.2.1 c)), (1, .int x1), (2, .int x2)] [] := by
  intro n
  induction n with
  | zero => intro M x1 x2 h; cases h
  | succ n ih =>
    intro M x1 x2 h
    have h : (if (M.1 c 2) ≤ x2 then (some (x1, M)) else (zg (zin x2 9) (if (M.1 (c + 3) x2.toNatClampNeg) = (1 : Int32) then (zg (zin x2 9) (zbi (f_X7_pushOf M 3 (M.1 (c + 1) x2.toNatClampNeg)) (fun r6 M7 => f_X5_load_4 c n M7 (x1 + r6) (x2 + (1 : Int32))))) else (f_X5_load_4 c n M x1 (x2 + (1 : Int32)))))) = some (r, M') := h
    refine zw_iload_n C 2 rfl dX5_load_4 rfl ?_
    refine zw_aload_n C 0 rfl dX5_load_5 rfl ?_
    refine zw_get (v := .int (M.1 c 2)) C hc.lt (hc.c E) rfl zin_X5 2 (by decide) gw_1_106 rfl dX5_load_6 ?_
    refine zw_icmp_ge (tgt := 44) C dX5_load_9 (by decide) (fun hb1 => ?_) (fun hb1 => ?_)
    · have h := zt_ hb1 h
      refine zw_iload_n C 1 rfl dX5_load_44 rfl ?_
      exact zw_ireturnE C h dX5_load_45
    · have h := zf_ hb1 h
      refine zw_aload_n C 0 rfl dX5_load_12 rfl ?_
      refine zw_get (v := .ref (E.2.1 (c + 3))) C hc.lt (hc.c E) rfl zin_X5 5 (by decide) gw_1_112 rfl dX5_load_13 ?_
      refine zw_iload_n C 2 rfl dX5_load_16 rfl ?_
      obtain ⟨hi2, h⟩ := zg_e h
      refine zw_iald C (hc.ia (j := 3) (by decide) (by decide)) (zin_e hi2) dX5_load_17 ?_
      refine zw_iconst (v := (1 : Int32)) C dX5_load_18 ct_i_1 ?_
      refine zw_icmp_ne (tgt := 38) C dX5_load_19 (by decide) (fun hb3 => ?_) (fun hb3 => ?_)
      · have h := zt_ hb3 h
        refine zw_iload_n C 1 rfl dX5_load_22 rfl ?_
        refine zw_aload_n C 0 rfl dX5_load_23 rfl ?_
        refine zw_get (v := .ref (E.2.1 3)) C hc.lt (hc.c E) rfl zin_X5 0 (by decide) gw_1_102 rfl dX5_load_24 ?_
        refine zw_aload_n C 0 rfl dX5_load_27 rfl ?_
        refine zw_get (v := .ref (E.2.1 (c + 1))) C hc.lt (hc.c E) rfl zin_X5 3 (by decide) gw_1_108 rfl dX5_load_28 ?_
        refine zw_iload_n C 2 rfl dX5_load_31 rfl ?_
        obtain ⟨hi4, h⟩ := zg_e h
        refine zw_iald C (hc.ia (j := 1) (by decide) (by decide)) (zin_e hi4) dX5_load_32 ?_
        obtain ⟨r6, M7, hq5, h⟩ := zbi_e h
        refine zw_callVi (As := [.int (M.1 (c + 1) x2.toNatClampNeg)]) (st := [.int x1]) C (m_X7_pushOf C.2.2.2.2.2.2.2.1 zpp_3 hq5) kv_X7_pushOf gw_2_161 (by decide) zpp_3.lt (zpp_3.c E) rfl rfl rfl rfl (Nat.le_of_ble_eq_true rfl) dX5_load_33 ?_
        refine zw_iadd C dX5_load_36 ?_
        refine zw_istore_n (lv' := [(1, .int (x1 + r6)), (0, .ref (E.2.1 c)), (2, .int x2)]) C dX5_load_37 rfl (by decide) rfl ?_
        refine zw_iinc (lv' := [(2, .int (x2 + (1 : Int32))), (1, .int (x1 + r6)), (0, .ref (E.2.1 c))]) C 2 rfl dX5_load_38 (ct_n_1 _) (by decide) rfl ?_
        refine zw_goto (tgt := 4) C dX5_load_41 (by decide) ?_
        refine zw_sb [2, 1, 0] rfl ?_
        exact ih _ _ _ h
      · have h := zf_ hb3 h
        refine zw_iinc (lv' := [(2, .int (x2 + (1 : Int32))), (0, .ref (E.2.1 c)), (1, .int x1)]) C 2 rfl dX5_load_38 (ct_n_1 _) (by decide) rfl ?_
        refine zw_goto (tgt := 4) C dX5_load_41 (by decide) ?_
        refine zw_sb [1, 2, 0] rfl ?_
        exact ih _ _ _ h
def f_X5_load_0 (c : Nat) (M : zM) : Option (Int32 × zM) := f_X5_load_4 c zFU M (0 : Int32) (0 : Int32)
set_option maxRecDepth 20000 in
set_option maxHeartbeats 2000000 in
theorem p_X5_load_0 {X : zX} {E : zE} {c : Nat} {r : Int32} {M' : zM} (C : zC X E cX5_load 3 RX5 (some .int) 1) (hc : zmp c) {M : zM} (h : f_X5_load_0 c M = some (r, M')) : zW X E (zRQ X E (some (.int r)) M') M 0 [(0, .ref (E.2.1 c))] [] := by
  have h : (f_X5_load_4 c zFU M (0 : Int32) (0 : Int32)) = some (r, M') := h
  refine zw_iconst (v := (0 : Int32)) C dX5_load_0 ct_i_0 ?_
  refine zw_istore_n (lv' := [(1, .int (0 : Int32)), (0, .ref (E.2.1 c))]) C dX5_load_1 rfl (by decide) rfl ?_
  refine zw_iconst (v := (0 : Int32)) C dX5_load_2 ct_i_0 ?_
  refine zw_istore_n (lv' := [(2, .int (0 : Int32)), (1, .int (0 : Int32)), (0, .ref (E.2.1 c))]) C dX5_load_3 rfl (by decide) rfl ?_
  refine zw_sb [2, 1, 0] rfl ?_
  exact p_X5_load_4 C hc zFU _ _ _ h
def f_X5_load (M : zM) (c : Nat) : Option (Int32 × zM) := f_X5_load_0 c M
theorem m_X5_load {l : Launch} {E : zE} (hI : zI E) {M M' : zM} {c : Nat} {r : Int32} (hc : zmp c) (h : f_X5_load M c = some (r, M')) : zMet l E yX5_load cX5_load 3 (some .int) 1 [.ref (E.2.1 c)] M M' (some (.int r)) := zm_of hI (by decide) (Nat.le_of_ble_eq_true rfl) (fun X _ C => p_X5_load_0 C hc h)
theorem kv_X5_load : zKV yX5_load cX5_load 3 (some .int) 0 := ⟨⟨gw_2_158, gw_2_159, gw_1_4, gw_2_160⟩, ⟨by decide, by decide, by decide +kernel⟩, by decide⟩
-- WingDoor$Moment.drag()I, 9 instructions, depth 1
def f_X5_drag_0 (c : Nat) (M : zM) : Option (Int32 × zM) := zbi (f_X5_whoIs M c (1 : Int32)) (fun r2 M3 => zbi (f_J6_bitCount_0f7a4 M3 r2) (fun r5 M6 => some ((M.1 3 2) + r5, M6)))
set_option maxRecDepth 20000 in
set_option maxHeartbeats 2000000 in
theorem p_X5_drag_0 {X : zX} {E : zE} {c : Nat} {r : Int32} {M' : zM} (C : zC X E cX5_drag 1 RX5 (some .int) 1) (hc : zmp c) {M : zM} (h : f_X5_drag_0 c M = some (r, M')) : zW X E (zRQ X E (some (.int r)) M') M 0 [(0, .ref (E.2.1 c))] [] := by
  have h : (zbi (f_X5_whoIs M c (1 : Int32)) (fun r2 M3 => zbi (f_J6_bitCount_0f7a4 M3 r2) (fun r5 M6 => some ((M.1 3 2) + r5, M6)))) = some (r, M') := h
  refine zw_aload_n C 0 rfl dX5_drag_0 rfl ?_
  refine zw_get (v := .ref (E.2.1 3)) C hc.lt (hc.c E) rfl zin_X5 0 (by decide) gw_1_102 rfl dX5_drag_1 ?_
  refine zw_getN (v := .int (M.1 3 2)) C zpp_3.lt (zpp_3.c E) rfl zin_X7 2 (by decide) (List.mem_of_getElem? (i := 7) rfl) rfl dX5_drag_4 ?_
  refine zw_aload_n C 0 rfl dX5_drag_7 rfl ?_
  refine zw_iconst (v := (1 : Int32)) C dX5_drag_8 ct_i_1 ?_
  obtain ⟨r2, M3, hq1, h⟩ := zbi_e h
  refine zw_callVi (As := [.int (1 : Int32)]) (st := [.int (M.1 3 2)]) C (m_X5_whoIs C.2.2.2.2.2.2.2.1 hc hq1) kv_X5_whoIs gw_2_153 (by decide) hc.lt (hc.c E) rfl rfl rfl rfl (Nat.le_of_ble_eq_true rfl) dX5_drag_9 ?_
  obtain ⟨r5, M6, hq4, h⟩ := zbi_e h
  refine zw_callSi (As := [.int r2]) (st := [.int (M.1 3 2)]) C (m_J6_bitCount_0f7a4 C.2.2.2.2.2.2.2.1 hq4) ks_J6_bitCount_0f7a4 gw_2_166 (by decide) rfl rfl (Nat.le_of_ble_eq_true rfl) dX5_drag_12 ?_
  refine zw_iadd C dX5_drag_15 ?_
  exact zw_ireturnE C h dX5_drag_16
def f_X5_drag (M : zM) (c : Nat) : Option (Int32 × zM) := f_X5_drag_0 c M
theorem m_X5_drag {l : Launch} {E : zE} (hI : zI E) {M M' : zM} {c : Nat} {r : Int32} (hc : zmp c) (h : f_X5_drag M c = some (r, M')) : zMet l E yX5_drag cX5_drag 1 (some .int) 1 [.ref (E.2.1 c)] M M' (some (.int r)) := zm_of hI (by decide) (Nat.le_of_ble_eq_true rfl) (fun X _ C => p_X5_drag_0 C hc h)
theorem kv_X5_drag : zKV yX5_drag cX5_drag 1 (some .int) 0 := ⟨⟨gw_2_163, gw_2_164, gw_1_4, gw_2_165⟩, ⟨by decide, by decide, by decide +kernel⟩, by decide⟩
-- WingDoor$Moment.sticks()Z, 13 instructions, depth 2
def f_X5_sticks_0 (c : Nat) (M : zM) : Option (Int32 × zM) := zbi (f_X5_whoIs M c (1 : Int32)) (fun r2 M3 => if r2 = 0 then (some ((1 : Int32), M3)) else (zbi (f_X5_load M3 c) (fun r6 M7 => zbi (f_X5_drag M7 c) (fun r9 M10 => if r9 ≤ r6 then (some ((0 : Int32), M10)) else (some ((1 : Int32), M10))))))
set_option maxRecDepth 20000 in
set_option maxHeartbeats 2000000 in
theorem p_X5_sticks_0 {X : zX} {E : zE} {c : Nat} {r : Int32} {M' : zM} (C : zC X E cX5_sticks 1 RX5 (some .boolean) 2) (hc : zmp c) {M : zM} (h : f_X5_sticks_0 c M = some (r, M')) : zW X E (zRQ X E (some (.int r)) M') M 0 [(0, .ref (E.2.1 c))] [] := by
  have h : (zbi (f_X5_whoIs M c (1 : Int32)) (fun r2 M3 => if r2 = 0 then (some ((1 : Int32), M3)) else (zbi (f_X5_load M3 c) (fun r6 M7 => zbi (f_X5_drag M7 c) (fun r9 M10 => if r9 ≤ r6 then (some ((0 : Int32), M10)) else (some ((1 : Int32), M10))))))) = some (r, M') := h
  refine zw_aload_n C 0 rfl dX5_sticks_0 rfl ?_
  refine zw_iconst (v := (1 : Int32)) C dX5_sticks_1 ct_i_1 ?_
  obtain ⟨r2, M3, hq1, h⟩ := zbi_e h
  refine zw_callVi (As := [.int (1 : Int32)]) (st := []) C (m_X5_whoIs C.2.2.2.2.2.2.2.1 hc hq1) kv_X5_whoIs gw_2_153 (by decide) hc.lt (hc.c E) rfl rfl rfl rfl (Nat.le_of_ble_eq_true rfl) dX5_sticks_2 ?_
  refine zw_if_eq (tgt := 19) C dX5_sticks_5 (by decide) (fun hb4 => ?_) (fun hb4 => ?_)
  · have h := zt_ hb4 h
    refine zw_iconst (v := (1 : Int32)) C dX5_sticks_19 ct_i_1 ?_
    refine zw_goto (tgt := 24) C dX5_sticks_20 (by decide) ?_
    exact zw_zreturnE C rfl h dX5_sticks_24
  · have h := zf_ hb4 h
    refine zw_aload_n C 0 rfl dX5_sticks_8 rfl ?_
    obtain ⟨r6, M7, hq5, h⟩ := zbi_e h
    refine zw_callVi (As := []) (st := []) C (m_X5_load C.2.2.2.2.2.2.2.1 hc hq5) kv_X5_load gw_2_157 (by decide) hc.lt (hc.c E) rfl rfl rfl rfl (Nat.le_of_ble_eq_true rfl) dX5_sticks_9 ?_
    refine zw_aload_n C 0 rfl dX5_sticks_12 rfl ?_
    obtain ⟨r9, M10, hq8, h⟩ := zbi_e h
    refine zw_callVi (As := []) (st := [.int r6]) C (m_X5_drag C.2.2.2.2.2.2.2.1 hc hq8) kv_X5_drag gw_2_162 (by decide) hc.lt (hc.c E) rfl rfl rfl rfl (Nat.le_of_ble_eq_true rfl) dX5_sticks_13 ?_
    refine zw_icmp_ge (tgt := 23) C dX5_sticks_16 (by decide) (fun hb11 => ?_) (fun hb11 => ?_)
    · have h := zt_ hb11 h
      refine zw_iconst (v := (0 : Int32)) C dX5_sticks_23 ct_i_0 ?_
      exact zw_zreturnE C rfl h dX5_sticks_24
    · have h := zf_ hb11 h
      refine zw_iconst (v := (1 : Int32)) C dX5_sticks_19 ct_i_1 ?_
      refine zw_goto (tgt := 24) C dX5_sticks_20 (by decide) ?_
      exact zw_zreturnE C rfl h dX5_sticks_24
def f_X5_sticks (M : zM) (c : Nat) : Option (Int32 × zM) := f_X5_sticks_0 c M
theorem m_X5_sticks {l : Launch} {E : zE} (hI : zI E) {M M' : zM} {c : Nat} {r : Int32} (hc : zmp c) (h : f_X5_sticks M c = some (r, M')) : zMet l E yX5_sticks cX5_sticks 1 (some .boolean) 2 [.ref (E.2.1 c)] M M' (some (.int r)) := zm_of hI (by decide) (Nat.le_of_ble_eq_true rfl) (fun X _ C => p_X5_sticks_0 C hc h)
theorem kv_X5_sticks : zKV yX5_sticks cX5_sticks 1 (some .boolean) 0 := ⟨⟨gw_2_150, gw_2_151, gw_1_4, gw_2_152⟩, ⟨by decide, by decide, by decide +kernel⟩, by decide⟩
-- WingDoor$Moment.firstOn(I)I, 43 instructions, depth 0
def f_X5_firstOn_63 (c : Nat) (x1 : Int32) (k4 : zM → Int32 → Int32 → Option (Int32 × zM)) (M : zM) (x3 : Int32) : Option (Int32 × zM) := k4 M x3 (x3 + (1 : Int32))
set_option maxRecDepth 20000 in
set_option maxHeartbeats 2000000 in
theorem p_X5_firstOn_63 {X : zX} {E : zE} {c : Nat} {x1 : Int32} {r : Int32} {M' : zM} {k4 : zM → Int32 → Int32 → Option (Int32 × zM)} (C : zC X E cX5_firstOn 5 RX5 (some .int) 0) (hc : zmp c) (hk4 : ∀ (M : zM) (y2 : Int32) (y3 : Int32), k4 M y2 y3 = some (r, M') → zW X E (zRQ X E (some (.int r)) M') M 4 [(0, .ref (E.2.1 c)), (1, .int x1), (2, .int y2), (3, .int y3)] []) {M : zM} {x3 : Int32} (h : f_X5_firstOn_63 c x1 k4 M x3 = some (r, M')) : zW X E (zRQ X E (some (.int r)) M') M 63 [(0, .ref (E.2.1 c)), (1, .int x1), (3, .int x3)] [] := by
  have h : (k4 M x3 (x3 + (1 : Int32))) = some (r, M') := h
  refine zw_iload_n C 2 rfl dX5_firstOn_63 rfl ?_
  refine zw_istore_n (lv' := [(2, .int x3), (0, .ref (E.2.1 c)), (1, .int x1), (3, .int x3)]) C dX5_firstOn_64 rfl (by decide) rfl ?_
  refine zw_iinc (lv' := [(3, .int (x3 + (1 : Int32))), (2, .int x3), (0, .ref (E.2.1 c)), (1, .int x1)]) C 3 rfl dX5_firstOn_65 (ct_n_1 _) (by decide) rfl ?_
  refine zw_goto (tgt := 4) C dX5_firstOn_68 (by decide) ?_
  refine zw_sb [2, 3, 1, 0] rfl ?_
  exact hk4 _ _ _ h
def f_X5_firstOn_36 (c : Nat) (x1 : Int32) (k4 : zM → Int32 → Int32 → Option (Int32 × zM)) (M : zM) (x2 : Int32) (x3 : Int32) (s0 : Int32) : Option (Int32 × zM) := if s0 = 0 then (k4 M x2 (x3 + (1 : Int32))) else (if x2 = (-1 : Int32) then (f_X5_firstOn_63 c x1 k4 M x3) else (zg (zin x3 9) (zg (zin x2 9) (if (M.1 (c + 5) x2.toNatClampNeg) ≤ (M.1 (c + 5) x3.toNatClampNeg) then (k4 M x2 (x3 + (1 : Int32))) else (f_X5_firstOn_63 c x1 k4 M x3)))))
set_option maxRecDepth 20000 in
set_option maxHeartbeats 2000000 in
theorem p_X5_firstOn_36 {X : zX} {E : zE} {c : Nat} {x1 : Int32} {r : Int32} {M' : zM} {k4 : zM → Int32 → Int32 → Option (Int32 × zM)} (C : zC X E cX5_firstOn 5 RX5 (some .int) 0) (hc : zmp c) (hk4 : ∀ (M : zM) (y2 : Int32) (y3 : Int32), k4 M y2 y3 = some (r, M') → zW X E (zRQ X E (some (.int r)) M') M 4 [(0, .ref (E.2.1 c)), (1, .int x1), (2, .int y2), (3, .int y3)] []) {M : zM} {x2 : Int32} {x3 : Int32} {s0 : Int32} (h : f_X5_firstOn_36 c x1 k4 M x2 x3 s0 = some (r, M')) : zW X E (zRQ X E (some (.int r)) M') M 36 [(0, .ref (E.2.1 c)), (1, .int x1), (2, .int x2), (3, .int x3)] [.int s0] := by
  have h : (if s0 = 0 then (k4 M x2 (x3 + (1 : Int32))) else (if x2 = (-1 : Int32) then (f_X5_firstOn_63 c x1 k4 M x3) else (zg (zin x3 9) (zg (zin x2 9) (if (M.1 (c + 5) x2.toNatClampNeg) ≤ (M.1 (c + 5) x3.toNatClampNeg) then (k4 M x2 (x3 + (1 : Int32))) else (f_X5_firstOn_63 c x1 k4 M x3)))))) = some (r, M') := h
  refine zw_istore (lv' := [(4, .int s0), (0, .ref (E.2.1 c)), (1, .int x1), (2, .int x2), (3, .int x3)]) C dX5_firstOn_36 (by decide) rfl ?_
  refine zw_iload C 0 rfl dX5_firstOn_38 ?_
  refine zw_if_eq (tgt := 65) C dX5_firstOn_40 (by decide) (fun hb1 => ?_) (fun hb1 => ?_)
  · have h := zt_ hb1 h
    refine zw_iinc (lv' := [(3, .int (x3 + (1 : Int32))), (4, .int s0), (0, .ref (E.2.1 c)), (1, .int x1), (2, .int x2)]) C 4 rfl dX5_firstOn_65 (ct_n_1 _) (by decide) rfl ?_
    refine zw_goto (tgt := 4) C dX5_firstOn_68 (by decide) ?_
    refine zw_sb [2, 3, 4, 0] rfl ?_
    exact hk4 _ _ _ h
  · have h := zf_ hb1 h
    refine zw_iload_n C 3 rfl dX5_firstOn_43 rfl ?_
    refine zw_iconst (v := (-1 : Int32)) C dX5_firstOn_44 ct_i_m1 ?_
    refine zw_icmp_eq (tgt := 63) C dX5_firstOn_45 (by decide) (fun hb2 => ?_) (fun hb2 => ?_)
    · have h := zt_ hb2 h
      refine zw_sb [1, 2, 4] rfl ?_
      exact p_X5_firstOn_63 C hc hk4 h
    · have h := zf_ hb2 h
      refine zw_aload_n C 1 rfl dX5_firstOn_48 rfl ?_
      refine zw_get (v := .ref (E.2.1 (c + 5))) C hc.lt (hc.c E) rfl zin_X5 7 (by decide) gw_1_116 rfl dX5_firstOn_49 ?_
      refine zw_iload_n C 4 rfl dX5_firstOn_52 rfl ?_
      obtain ⟨hi3, h⟩ := zg_e h
      refine zw_iald C (hc.ia (j := 5) (by decide) (by decide)) (zin_e hi3) dX5_firstOn_53 ?_
      refine zw_aload_n C 1 rfl dX5_firstOn_54 rfl ?_
      refine zw_get (v := .ref (E.2.1 (c + 5))) C hc.lt (hc.c E) rfl zin_X5 7 (by decide) gw_1_116 rfl dX5_firstOn_55 ?_
      refine zw_iload_n C 3 rfl dX5_firstOn_58 rfl ?_
      obtain ⟨hi4, h⟩ := zg_e h
      refine zw_iald C (hc.ia (j := 5) (by decide) (by decide)) (zin_e hi4) dX5_firstOn_59 ?_
      refine zw_icmp_ge (tgt := 65) C dX5_firstOn_60 (by decide) (fun hb5 => ?_) (fun hb5 => ?_)
      · have h := zt_ hb5 h
        refine zw_iinc (lv' := [(3, .int (x3 + (1 : Int32))), (4, .int s0), (0, .ref (E.2.1 c)), (1, .int x1), (2, .int x2)]) C 4 rfl dX5_firstOn_65 (ct_n_1 _) (by decide) rfl ?_
        refine zw_goto (tgt := 4) C dX5_firstOn_68 (by decide) ?_
        refine zw_sb [2, 3, 4, 0] rfl ?_
        exact hk4 _ _ _ h
      · have h := zf_ hb5 h
        refine zw_sb [1, 2, 4] rfl ?_
        exact p_X5_firstOn_63 C hc hk4 h
def f_X5_firstOn_4 (c : Nat) (x1 : Int32) : Nat → zM → Int32 → Int32 → Option (Int32 × zM)
  | 0, _, _, _ => none
  | n + 1, M, x2, x3 => if (M.1 c 2) ≤ x3 then (some (x2, M)) else (zg (zin x3 9) (if (M.1 (c + 3) x3.toNatClampNeg) = 0 then (zg (zin x3 9) (if (M.1 (c + 2) x3.toNatClampNeg) = x1 then (f_X5_firstOn_36 c x1 (f_X5_firstOn_4 c x1 n) M x2 x3 (1 : Int32)) else (f_X5_firstOn_36 c x1 (f_X5_firstOn_4 c x1 n) M x2 x3 (0 : Int32)))) else (f_X5_firstOn_36 c x1 (f_X5_firstOn_4 c x1 n) M x2 x3 (0 : Int32))))
set_option maxRecDepth 20000 in
set_option maxHeartbeats 2000000 in
theorem p_X5_firstOn_4 {X : zX} {E : zE} {c : Nat} {x1 : Int32} {r : Int32} {M' : zM} (C : zC X E cX5_firstOn 5 RX5 (some .int) 0) (hc : zmp c) : ∀ (n : Nat) (M : zM) (x2 : Int32) (x3 : Int32), f_X5_firstOn_4 c x1 n M x2 x3 = some (r, M') → zW X E (zRQ X E (some (.int r)) M') M 4 [(0, .ref (E.2.1 c)), (1, .int x1), (2, .int x2), (3, .int x3)] [] := by
  intro n
  induction n with
  | zero => intro M x2 x3 h; cases h
  | succ n ih =>
    intro M x2 x3 h
    have h : (if (M.1 c 2) ≤ x3 then (some (x2, M)) else (zg (zin x3 9) (if (M.1 (c + 3) x3.toNatClampNeg) = 0 then (zg (zin x3 9) (if (M.1 (c + 2) x3.toNatClampNeg) = x1 then (f_X5_firstOn_36 c x1 (f_X5_firstOn_4 c x1 n) M x2 x3 (1 : Int32)) else (f_X5_firstOn_36 c x1 (f_X5_firstOn_4 c x1 n) M x2 x3 (0 : Int32)))) else (f_X5_firstOn_36 c x1 (f_X5_firstOn_4 c x1 n) M x2 x3 (0 : Int32))))) = some (r, M') := h
    refine zw_iload_n C 3 rfl dX5_firstOn_4 rfl ?_
    refine zw_aload_n C 0 rfl dX5_firstOn_5 rfl ?_
    refine zw_get (v := .int (M.1 c 2)) C hc.lt (hc.c E) rfl zin_X5 2 (by decide) gw_1_106 rfl dX5_firstOn_6 ?_
    refine zw_icmp_ge (tgt := 71) C dX5_firstOn_9 (by decide) (fun hb1 => ?_) (fun hb1 => ?_)
    · have h := zt_ hb1 h
      refine zw_iload_n C 2 rfl dX5_firstOn_71 rfl ?_
      exact zw_ireturnE C h dX5_firstOn_72
    · have h := zf_ hb1 h
      refine zw_aload_n C 0 rfl dX5_firstOn_12 rfl ?_
      refine zw_get (v := .ref (E.2.1 (c + 3))) C hc.lt (hc.c E) rfl zin_X5 5 (by decide) gw_1_112 rfl dX5_firstOn_13 ?_
      refine zw_iload_n C 3 rfl dX5_firstOn_16 rfl ?_
      obtain ⟨hi2, h⟩ := zg_e h
      refine zw_iald C (hc.ia (j := 3) (by decide) (by decide)) (zin_e hi2) dX5_firstOn_17 ?_
      refine zw_if_ne (tgt := 35) C dX5_firstOn_18 (by decide) (fun hb3 => ?_) (fun hb3 => ?_)
      · have h := zt_ hb3 h
        refine zw_aload_n C 0 rfl dX5_firstOn_21 rfl ?_
        refine zw_get (v := .ref (E.2.1 (c + 2))) C hc.lt (hc.c E) rfl zin_X5 4 (by decide) gw_1_110 rfl dX5_firstOn_22 ?_
        refine zw_iload_n C 3 rfl dX5_firstOn_25 rfl ?_
        obtain ⟨hi4, h⟩ := zg_e h
        refine zw_iald C (hc.ia (j := 2) (by decide) (by decide)) (zin_e hi4) dX5_firstOn_26 ?_
        refine zw_iload_n C 1 rfl dX5_firstOn_27 rfl ?_
        refine zw_icmp_ne (tgt := 35) C dX5_firstOn_28 (by decide) (fun hb5 => ?_) (fun hb5 => ?_)
        · have h := zt_ hb5 h
          refine zw_iconst (v := (1 : Int32)) C dX5_firstOn_31 ct_i_1 ?_
          refine zw_goto (tgt := 36) C dX5_firstOn_32 (by decide) ?_
          exact p_X5_firstOn_36 C hc (fun _ _ _ h => ih _ _ _ h) h
        · have h := zf_ hb5 h
          refine zw_iconst (v := (0 : Int32)) C dX5_firstOn_35 ct_i_0 ?_
          exact p_X5_firstOn_36 C hc (fun _ _ _ h => ih _ _ _ h) h
      · have h := zf_ hb3 h
        refine zw_iconst (v := (0 : Int32)) C dX5_firstOn_35 ct_i_0 ?_
        exact p_X5_firstOn_36 C hc (fun _ _ _ h => ih _ _ _ h) h
def f_X5_firstOn_0 (c : Nat) (x1 : Int32) (M : zM) : Option (Int32 × zM) := f_X5_firstOn_4 c x1 zFU M (-1 : Int32) (0 : Int32)
set_option maxRecDepth 20000 in
set_option maxHeartbeats 2000000 in
theorem p_X5_firstOn_0 {X : zX} {E : zE} {c : Nat} {x1 : Int32} {r : Int32} {M' : zM} (C : zC X E cX5_firstOn 5 RX5 (some .int) 0) (hc : zmp c) {M : zM} (h : f_X5_firstOn_0 c x1 M = some (r, M')) : zW X E (zRQ X E (some (.int r)) M') M 0 [(0, .ref (E.2.1 c)), (1, .int x1)] [] := by
  have h : (f_X5_firstOn_4 c x1 zFU M (-1 : Int32) (0 : Int32)) = some (r, M') := h
  refine zw_iconst (v := (-1 : Int32)) C dX5_firstOn_0 ct_i_m1 ?_
  refine zw_istore_n (lv' := [(2, .int (-1 : Int32)), (0, .ref (E.2.1 c)), (1, .int x1)]) C dX5_firstOn_1 rfl (by decide) rfl ?_
  refine zw_iconst (v := (0 : Int32)) C dX5_firstOn_2 ct_i_0 ?_
  refine zw_istore_n (lv' := [(3, .int (0 : Int32)), (2, .int (-1 : Int32)), (0, .ref (E.2.1 c)), (1, .int x1)]) C dX5_firstOn_3 rfl (by decide) rfl ?_
  refine zw_sb [2, 3, 1, 0] rfl ?_
  exact p_X5_firstOn_4 C hc zFU _ _ _ h
def f_X5_firstOn (M : zM) (c : Nat) (x1 : Int32) : Option (Int32 × zM) := f_X5_firstOn_0 c x1 M
theorem m_X5_firstOn {l : Launch} {E : zE} (hI : zI E) {M M' : zM} {c : Nat} {x1 : Int32} {r : Int32} (hc : zmp c) (h : f_X5_firstOn M c x1 = some (r, M')) : zMet l E yX5_firstOn cX5_firstOn 5 (some .int) 0 [.ref (E.2.1 c), .int x1] M M' (some (.int r)) := zm_of hI (by decide) (Nat.le_of_ble_eq_true rfl) (fun X _ C => p_X5_firstOn_0 C hc h)
theorem kv_X5_firstOn : zKV yX5_firstOn cX5_firstOn 5 (some .int) 1 := ⟨⟨gw_2_198, gw_2_199, gw_1_4, gw_2_200⟩, ⟨by decide, by decide, by decide +kernel⟩, by decide⟩
-- WingDoor$Moment.howManyAheadOf(I)I, 48 instructions, depth 1
def f_X5_howManyAheadOf_51 (c : Nat) (x1 : Int32) (k14 : zM → Int32 → Int32 → Option (Int32 × zM)) (M : zM) (x2 : Int32) (x3 : Int32) (s0 : Int32) : Option (Int32 × zM) := if s0 = 0 then (k14 M x2 (x3 + (1 : Int32))) else (zg (zin x3 9) (zg (zin x1 9) (if (M.1 (c + 5) x1.toNatClampNeg) ≤ (M.1 (c + 5) x3.toNatClampNeg) then (k14 M x2 (x3 + (1 : Int32))) else (k14 M (x2 + (1 : Int32)) (x3 + (1 : Int32))))))
set_option maxRecDepth 20000 in
set_option maxHeartbeats 2000000 in
theorem p_X5_howManyAheadOf_51 {X : zX} {E : zE} {c : Nat} {x1 : Int32} {r : Int32} {M' : zM} {k14 : zM → Int32 → Int32 → Option (Int32 × zM)} (C : zC X E cX5_howManyAheadOf 5 RX5 (some .int) 1) (hc : zmp c) (hk14 : ∀ (M : zM) (y2 : Int32) (y3 : Int32), k14 M y2 y3 = some (r, M') → zW X E (zRQ X E (some (.int r)) M') M 14 [(0, .ref (E.2.1 c)), (1, .int x1), (2, .int y2), (3, .int y3)] []) {M : zM} {x2 : Int32} {x3 : Int32} {s0 : Int32} (h : f_X5_howManyAheadOf_51 c x1 k14 M x2 x3 s0 = some (r, M')) : zW X E (zRQ X E (some (.int r)) M') M 51 [(0, .ref (E.2.1 c)), (1, .int x1), (2, .int x2), (3, .int x3)] [.int s0] := by
  have h : (if s0 = 0 then (k14 M x2 (x3 + (1 : Int32))) else (zg (zin x3 9) (zg (zin x1 9) (if (M.1 (c + 5) x1.toNatClampNeg) ≤ (M.1 (c + 5) x3.toNatClampNeg) then (k14 M x2 (x3 + (1 : Int32))) else (k14 M (x2 + (1 : Int32)) (x3 + (1 : Int32))))))) = some (r, M') := h
  refine zw_istore (lv' := [(4, .int s0), (0, .ref (E.2.1 c)), (1, .int x1), (2, .int x2), (3, .int x3)]) C dX5_howManyAheadOf_51 (by decide) rfl ?_
  refine zw_iload C 0 rfl dX5_howManyAheadOf_53 ?_
  refine zw_if_eq (tgt := 76) C dX5_howManyAheadOf_55 (by decide) (fun hb1 => ?_) (fun hb1 => ?_)
  · have h := zt_ hb1 h
    refine zw_iinc (lv' := [(3, .int (x3 + (1 : Int32))), (4, .int s0), (0, .ref (E.2.1 c)), (1, .int x1), (2, .int x2)]) C 4 rfl dX5_howManyAheadOf_76 (ct_n_1 _) (by decide) rfl ?_
    refine zw_goto (tgt := 14) C dX5_howManyAheadOf_79 (by decide) ?_
    refine zw_sb [2, 3, 4, 0] rfl ?_
    exact hk14 _ _ _ h
  · have h := zf_ hb1 h
    refine zw_aload_n C 1 rfl dX5_howManyAheadOf_58 rfl ?_
    refine zw_get (v := .ref (E.2.1 (c + 5))) C hc.lt (hc.c E) rfl zin_X5 7 (by decide) gw_1_116 rfl dX5_howManyAheadOf_59 ?_
    refine zw_iload_n C 4 rfl dX5_howManyAheadOf_62 rfl ?_
    obtain ⟨hi2, h⟩ := zg_e h
    refine zw_iald C (hc.ia (j := 5) (by decide) (by decide)) (zin_e hi2) dX5_howManyAheadOf_63 ?_
    refine zw_aload_n C 1 rfl dX5_howManyAheadOf_64 rfl ?_
    refine zw_get (v := .ref (E.2.1 (c + 5))) C hc.lt (hc.c E) rfl zin_X5 7 (by decide) gw_1_116 rfl dX5_howManyAheadOf_65 ?_
    refine zw_iload_n C 2 rfl dX5_howManyAheadOf_68 rfl ?_
    obtain ⟨hi3, h⟩ := zg_e h
    refine zw_iald C (hc.ia (j := 5) (by decide) (by decide)) (zin_e hi3) dX5_howManyAheadOf_69 ?_
    refine zw_icmp_ge (tgt := 76) C dX5_howManyAheadOf_70 (by decide) (fun hb4 => ?_) (fun hb4 => ?_)
    · have h := zt_ hb4 h
      refine zw_iinc (lv' := [(3, .int (x3 + (1 : Int32))), (4, .int s0), (0, .ref (E.2.1 c)), (1, .int x1), (2, .int x2)]) C 4 rfl dX5_howManyAheadOf_76 (ct_n_1 _) (by decide) rfl ?_
      refine zw_goto (tgt := 14) C dX5_howManyAheadOf_79 (by decide) ?_
      refine zw_sb [2, 3, 4, 0] rfl ?_
      exact hk14 _ _ _ h
    · have h := zf_ hb4 h
      refine zw_iinc (lv' := [(2, .int (x2 + (1 : Int32))), (4, .int s0), (0, .ref (E.2.1 c)), (1, .int x1), (3, .int x3)]) C 3 rfl dX5_howManyAheadOf_73 (ct_n_1 _) (by decide) rfl ?_
      refine zw_iinc (lv' := [(3, .int (x3 + (1 : Int32))), (2, .int (x2 + (1 : Int32))), (4, .int s0), (0, .ref (E.2.1 c)), (1, .int x1)]) C 4 rfl dX5_howManyAheadOf_76 (ct_n_1 _) (by decide) rfl ?_
      refine zw_goto (tgt := 14) C dX5_howManyAheadOf_79 (by decide) ?_
      refine zw_sb [3, 4, 1, 0] rfl ?_
      exact hk14 _ _ _ h
def f_X5_howManyAheadOf_14 (c : Nat) (x1 : Int32) : Nat → zM → Int32 → Int32 → Option (Int32 × zM)
  | 0, _, _, _ => none
  | n + 1, M, x2, x3 => if (M.1 c 2) ≤ x3 then (some (x2, M)) else (zg (zin x3 9) (if (M.1 (c + 3) x3.toNatClampNeg) = 0 then (zg (zin x3 9) (zg (zin x1 9) (if (M.1 (c + 2) x3.toNatClampNeg) = (M.1 (c + 2) x1.toNatClampNeg) then (f_X5_howManyAheadOf_51 c x1 (f_X5_howManyAheadOf_14 c x1 n) M x2 x3 (1 : Int32)) else (f_X5_howManyAheadOf_51 c x1 (f_X5_howManyAheadOf_14 c x1 n) M x2 x3 (0 : Int32))))) else (f_X5_howManyAheadOf_51 c x1 (f_X5_howManyAheadOf_14 c x1 n) M x2 x3 (0 : Int32))))
set_option maxRecDepth 20000 in
set_option maxHeartbeats 2000000 in
theorem p_X5_howManyAheadOf_14 {X : zX} {E : zE} {c : Nat} {x1 : Int32} {r : Int32} {M' : zM} (C : zC X E cX5_howManyAheadOf 5 RX5 (some .int) 1) (hc : zmp c) : ∀ (n : Nat) (M : zM) (x2 : Int32) (x3 : Int32), f_X5_howManyAheadOf_14 c x1 n M x2 x3 = some (r, M') → zW X E (zRQ X E (some (.int r)) M') M 14 [(0, .ref (E.2.1 c)), (1, .int x1), (2, .int x2), (3, .int x3)] [] := by
  intro n
  induction n with
  | zero => intro M x2 x3 h; cases h
  | succ n ih =>
    intro M x2 x3 h
    have h : (if (M.1 c 2) ≤ x3 then (some (x2, M)) else (zg (zin x3 9) (if (M.1 (c + 3) x3.toNatClampNeg) = 0 then (zg (zin x3 9) (zg (zin x1 9) (if (M.1 (c + 2) x3.toNatClampNeg) = (M.1 (c + 2) x1.toNatClampNeg) then (f_X5_howManyAheadOf_51 c x1 (f_X5_howManyAheadOf_14 c x1 n) M x2 x3 (1 : Int32)) else (f_X5_howManyAheadOf_51 c x1 (f_X5_howManyAheadOf_14 c x1 n) M x2 x3 (0 : Int32))))) else (f_X5_howManyAheadOf_51 c x1 (f_X5_howManyAheadOf_14 c x1 n) M x2 x3 (0 : Int32))))) = some (r, M') := h
    refine zw_iload_n C 3 rfl dX5_howManyAheadOf_14 rfl ?_
    refine zw_aload_n C 0 rfl dX5_howManyAheadOf_15 rfl ?_
    refine zw_get (v := .int (M.1 c 2)) C hc.lt (hc.c E) rfl zin_X5 2 (by decide) gw_1_106 rfl dX5_howManyAheadOf_16 ?_
    refine zw_icmp_ge (tgt := 82) C dX5_howManyAheadOf_19 (by decide) (fun hb1 => ?_) (fun hb1 => ?_)
    · have h := zt_ hb1 h
      refine zw_iload_n C 2 rfl dX5_howManyAheadOf_82 rfl ?_
      exact zw_ireturnE C h dX5_howManyAheadOf_83
    · have h := zf_ hb1 h
      refine zw_aload_n C 0 rfl dX5_howManyAheadOf_22 rfl ?_
      refine zw_get (v := .ref (E.2.1 (c + 3))) C hc.lt (hc.c E) rfl zin_X5 5 (by decide) gw_1_112 rfl dX5_howManyAheadOf_23 ?_
      refine zw_iload_n C 3 rfl dX5_howManyAheadOf_26 rfl ?_
      obtain ⟨hi2, h⟩ := zg_e h
      refine zw_iald C (hc.ia (j := 3) (by decide) (by decide)) (zin_e hi2) dX5_howManyAheadOf_27 ?_
      refine zw_if_ne (tgt := 50) C dX5_howManyAheadOf_28 (by decide) (fun hb3 => ?_) (fun hb3 => ?_)
      · have h := zt_ hb3 h
        refine zw_aload_n C 0 rfl dX5_howManyAheadOf_31 rfl ?_
        refine zw_get (v := .ref (E.2.1 (c + 2))) C hc.lt (hc.c E) rfl zin_X5 4 (by decide) gw_1_110 rfl dX5_howManyAheadOf_32 ?_
        refine zw_iload_n C 3 rfl dX5_howManyAheadOf_35 rfl ?_
        obtain ⟨hi4, h⟩ := zg_e h
        refine zw_iald C (hc.ia (j := 2) (by decide) (by decide)) (zin_e hi4) dX5_howManyAheadOf_36 ?_
        refine zw_aload_n C 0 rfl dX5_howManyAheadOf_37 rfl ?_
        refine zw_get (v := .ref (E.2.1 (c + 2))) C hc.lt (hc.c E) rfl zin_X5 4 (by decide) gw_1_110 rfl dX5_howManyAheadOf_38 ?_
        refine zw_iload_n C 1 rfl dX5_howManyAheadOf_41 rfl ?_
        obtain ⟨hi5, h⟩ := zg_e h
        refine zw_iald C (hc.ia (j := 2) (by decide) (by decide)) (zin_e hi5) dX5_howManyAheadOf_42 ?_
        refine zw_icmp_ne (tgt := 50) C dX5_howManyAheadOf_43 (by decide) (fun hb6 => ?_) (fun hb6 => ?_)
        · have h := zt_ hb6 h
          refine zw_iconst (v := (1 : Int32)) C dX5_howManyAheadOf_46 ct_i_1 ?_
          refine zw_goto (tgt := 51) C dX5_howManyAheadOf_47 (by decide) ?_
          exact p_X5_howManyAheadOf_51 C hc (fun _ _ _ h => ih _ _ _ h) h
        · have h := zf_ hb6 h
          refine zw_iconst (v := (0 : Int32)) C dX5_howManyAheadOf_50 ct_i_0 ?_
          exact p_X5_howManyAheadOf_51 C hc (fun _ _ _ h => ih _ _ _ h) h
      · have h := zf_ hb3 h
        refine zw_iconst (v := (0 : Int32)) C dX5_howManyAheadOf_50 ct_i_0 ?_
        exact p_X5_howManyAheadOf_51 C hc (fun _ _ _ h => ih _ _ _ h) h
def f_X5_howManyAheadOf_0 (c : Nat) (x1 : Int32) (M : zM) : Option (Int32 × zM) := zbi (f_X5_hasGoer M c x1) (fun r2 M3 => if r2 = 0 then (some ((0 : Int32), M3)) else (f_X5_howManyAheadOf_14 c x1 zFU M3 (0 : Int32) (0 : Int32)))
set_option maxRecDepth 20000 in
set_option maxHeartbeats 2000000 in
theorem p_X5_howManyAheadOf_0 {X : zX} {E : zE} {c : Nat} {x1 : Int32} {r : Int32} {M' : zM} (C : zC X E cX5_howManyAheadOf 5 RX5 (some .int) 1) (hc : zmp c) {M : zM} (h : f_X5_howManyAheadOf_0 c x1 M = some (r, M')) : zW X E (zRQ X E (some (.int r)) M') M 0 [(0, .ref (E.2.1 c)), (1, .int x1)] [] := by
  have h : (zbi (f_X5_hasGoer M c x1) (fun r2 M3 => if r2 = 0 then (some ((0 : Int32), M3)) else (f_X5_howManyAheadOf_14 c x1 zFU M3 (0 : Int32) (0 : Int32)))) = some (r, M') := h
  refine zw_aload_n C 0 rfl dX5_howManyAheadOf_0 rfl ?_
  refine zw_iload_n C 1 rfl dX5_howManyAheadOf_1 rfl ?_
  obtain ⟨r2, M3, hq1, h⟩ := zbi_e h
  refine zw_callVi (As := [.int x1]) (st := []) C (m_X5_hasGoer C.2.2.2.2.2.2.2.1 hc hq1) kv_X5_hasGoer gw_2_135 (by decide) hc.lt (hc.c E) rfl rfl rfl rfl (Nat.le_of_ble_eq_true rfl) dX5_howManyAheadOf_2 ?_
  refine zw_if_ne (tgt := 10) C dX5_howManyAheadOf_5 (by decide) (fun hb4 => ?_) (fun hb4 => ?_)
  · have h := zt_ hb4 h
    refine zw_iconst (v := (0 : Int32)) C dX5_howManyAheadOf_8 ct_i_0 ?_
    exact zw_ireturnE C h dX5_howManyAheadOf_9
  · have h := zf_ hb4 h
    refine zw_iconst (v := (0 : Int32)) C dX5_howManyAheadOf_10 ct_i_0 ?_
    refine zw_istore_n (lv' := [(2, .int (0 : Int32)), (0, .ref (E.2.1 c)), (1, .int x1)]) C dX5_howManyAheadOf_11 rfl (by decide) rfl ?_
    refine zw_iconst (v := (0 : Int32)) C dX5_howManyAheadOf_12 ct_i_0 ?_
    refine zw_istore_n (lv' := [(3, .int (0 : Int32)), (2, .int (0 : Int32)), (0, .ref (E.2.1 c)), (1, .int x1)]) C dX5_howManyAheadOf_13 rfl (by decide) rfl ?_
    refine zw_sb [2, 3, 1, 0] rfl ?_
    exact p_X5_howManyAheadOf_14 C hc zFU _ _ _ h
def f_X5_howManyAheadOf (M : zM) (c : Nat) (x1 : Int32) : Option (Int32 × zM) := f_X5_howManyAheadOf_0 c x1 M
theorem m_X5_howManyAheadOf {l : Launch} {E : zE} (hI : zI E) {M M' : zM} {c : Nat} {x1 : Int32} {r : Int32} (hc : zmp c) (h : f_X5_howManyAheadOf M c x1 = some (r, M')) : zMet l E yX5_howManyAheadOf cX5_howManyAheadOf 5 (some .int) 1 [.ref (E.2.1 c), .int x1] M M' (some (.int r)) := zm_of hI (by decide) (Nat.le_of_ble_eq_true rfl) (fun X _ C => p_X5_howManyAheadOf_0 C hc h)
theorem kv_X5_howManyAheadOf : zKV yX5_howManyAheadOf cX5_howManyAheadOf 5 (some .int) 1 := ⟨⟨gw_2_132, gw_2_133, gw_1_4, gw_2_134⟩, ⟨by decide, by decide, by decide +kernel⟩, by decide⟩
