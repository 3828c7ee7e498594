-- WingDoor$Plan.setFirst()V, 13 instructions, depth 0
def f_X7_setFirst_0 (c : Nat) (M : zM) : Option zM := some (zs (zs (zs (zs M c 0 (4 : Int32)) c 1 (2 : Int32)) c 2 (3 : Int32)) c 3 (0 : Int32))
set_option maxRecDepth 20000 in
set_option maxHeartbeats 2000000 in
theorem p_X7_setFirst_0 {X : zX} {E : zE} {c : Nat} {M' : zM} (C : zC X E cX7_setFirst 1 RX7 none 0) (hc : zpp c) {M : zM} (h : f_X7_setFirst_0 c M = some M') : zW X E (zRQ X E none M') M 0 [(0, .ref (E.2.1 c))] [] := by
  have h : (some (zs (zs (zs (zs M c 0 (4 : Int32)) c 1 (2 : Int32)) c 2 (3 : Int32)) c 3 (0 : Int32))) = some M' := h
  refine zw_aload_n C 0 rfl dX7_setFirst_0 rfl ?_
  refine zw_iconst (v := (4 : Int32)) C dX7_setFirst_1 ct_i_4 ?_
  refine zw_put (ty := .int) C hc.lt (hc.c E) rfl zin_X7 tyX7 tyX7_ok nmX7 0 (by decide) gw_1_66 rfl rfl rfl rfl (fun _ _ => Nat.le_of_ble_eq_true rfl) (fun _ _ => rfl) dX7_setFirst_2 ?_
  refine zw_aload_n C 0 rfl dX7_setFirst_5 rfl ?_
  refine zw_iconst (v := (2 : Int32)) C dX7_setFirst_6 ct_i_2 ?_
  refine zw_put (ty := .int) C hc.lt (hc.c E) rfl zin_X7 tyX7 tyX7_ok nmX7 1 (by decide) gw_1_69 rfl rfl rfl rfl (fun _ _ => Nat.le_of_ble_eq_true rfl) (fun _ _ => rfl) dX7_setFirst_7 ?_
  refine zw_aload_n C 0 rfl dX7_setFirst_10 rfl ?_
  refine zw_iconst (v := (3 : Int32)) C dX7_setFirst_11 ct_i_3 ?_
  refine zw_put (ty := .int) C hc.lt (hc.c E) rfl zin_X7 tyX7 tyX7_ok nmX7 2 (by decide) gw_1_73 rfl rfl rfl rfl (fun _ _ => Nat.le_of_ble_eq_true rfl) (fun _ _ => rfl) dX7_setFirst_12 ?_
  refine zw_aload_n C 0 rfl dX7_setFirst_15 rfl ?_
  refine zw_iconst (v := (0 : Int32)) C dX7_setFirst_16 ct_i_0 ?_
  refine zw_put (ty := .int) C hc.lt (hc.c E) rfl zin_X7 tyX7 tyX7_ok nmX7 3 (by decide) gw_1_77 rfl rfl rfl rfl (fun _ _ => Nat.le_of_ble_eq_true rfl) (fun _ _ => rfl) dX7_setFirst_17 ?_
  exact zw_returnE C h dX7_setFirst_20
def f_X7_setFirst (M : zM) (c : Nat) : Option zM := f_X7_setFirst_0 c M
theorem m_X7_setFirst {l : Launch} {E : zE} (hI : zI E) {M M' : zM} {c : Nat} (hc : zpp c) (h : f_X7_setFirst M c = some M') : zMet l E yX7_setFirst cX7_setFirst 1 none 0 [.ref (E.2.1 c)] M M' none := zm_of hI (by decide) (Nat.le_of_ble_eq_true rfl) (fun X _ C => p_X7_setFirst_0 C hc h)
theorem kv_X7_setFirst : zKV yX7_setFirst cX7_setFirst 1 none 0 := ⟨⟨gw_1_63, gw_1_64, gw_1_3, gw_1_65⟩, ⟨by decide, by decide, by decide +kernel⟩, by decide⟩
-- WingDoor$Plan.copy(LWingDoor$Plan;)V, 33 instructions, depth 1
def f_X7_copy_24 (c : Nat) (p1 : Nat) (M : zM) : Option zM := some (zcp (zcp (zs M c 3 (M.1 p1 3)) (p1 + 1) (c + 1) (0 : Int32) (0 : Int32) (6 : Int32)) (p1 + 2) (c + 2) (0 : Int32) (0 : Int32) (6 : Int32))
set_option maxRecDepth 20000 in
set_option maxHeartbeats 2000000 in
theorem p_X7_copy_24 {X : zX} {E : zE} {c : Nat} {p1 : Nat} {M' : zM} (C : zC X E cX7_copy 2 RX7 none 1) (hc : zpp c) (hp1 : zpp p1) {M : zM} (h : f_X7_copy_24 c p1 M = some M') : zW X E (zRQ X E none M') M 24 [(0, .ref (E.2.1 c)), (1, .ref (E.2.1 p1))] [] := by
  have h : (some (zcp (zcp (zs M c 3 (M.1 p1 3)) (p1 + 1) (c + 1) (0 : Int32) (0 : Int32) (6 : Int32)) (p1 + 2) (c + 2) (0 : Int32) (0 : Int32) (6 : Int32))) = some M' := h
  refine zw_aload_n C 0 rfl dX7_copy_24 rfl ?_
  refine zw_aload_n C 1 rfl dX7_copy_25 rfl ?_
  refine zw_get (v := .int (M.1 p1 3)) C hp1.lt (hp1.c E) rfl zin_X7 3 (by decide) gw_1_77 rfl dX7_copy_26 ?_
  refine zw_put (ty := .int) C hc.lt (hc.c E) rfl zin_X7 tyX7 tyX7_ok nmX7 3 (by decide) gw_1_77 rfl rfl rfl rfl (fun _ _ => Nat.le_of_ble_eq_true rfl) (fun _ _ => rfl) dX7_copy_29 ?_
  refine zw_aload_n C 1 rfl dX7_copy_32 rfl ?_
  refine zw_get (v := .ref (E.2.1 (p1 + 1))) C hp1.lt (hp1.c E) rfl zin_X7 4 (by decide) gw_1_81 rfl dX7_copy_33 ?_
  refine zw_iconst (v := (0 : Int32)) C dX7_copy_36 ct_i_0 ?_
  refine zw_aload_n C 0 rfl dX7_copy_37 rfl ?_
  refine zw_get (v := .ref (E.2.1 (c + 1))) C hc.lt (hc.c E) rfl zin_X7 4 (by decide) gw_1_81 rfl dX7_copy_38 ?_
  refine zw_iconst (v := (0 : Int32)) C dX7_copy_41 ct_i_0 ?_
  refine zw_bipush (v := (6 : Int32)) C dX7_copy_42 ct_b_6 ?_
  refine zw_copyi C (hp1.ia (j := 1) (by decide) (by decide)) (hc.ia (j := 1) (by decide) (by decide)) gw_2_96 (by decide) (by decide) (by decide) (by decide) (by decide) (by decide) (Nat.le_of_ble_eq_true rfl) dX7_copy_44 ?_
  refine zw_aload_n C 1 rfl dX7_copy_47 rfl ?_
  refine zw_get (v := .ref (E.2.1 (p1 + 2))) C hp1.lt (hp1.c E) rfl zin_X7 5 (by decide) gw_1_82 rfl dX7_copy_48 ?_
  refine zw_iconst (v := (0 : Int32)) C dX7_copy_51 ct_i_0 ?_
  refine zw_aload_n C 0 rfl dX7_copy_52 rfl ?_
  refine zw_get (v := .ref (E.2.1 (c + 2))) C hc.lt (hc.c E) rfl zin_X7 5 (by decide) gw_1_82 rfl dX7_copy_53 ?_
  refine zw_iconst (v := (0 : Int32)) C dX7_copy_56 ct_i_0 ?_
  refine zw_bipush (v := (6 : Int32)) C dX7_copy_57 ct_b_6 ?_
  refine zw_copyi C (hp1.ia (j := 2) (by decide) (by decide)) (hc.ia (j := 2) (by decide) (by decide)) gw_2_96 (by decide) (by decide) (by decide) (by decide) (by decide) (by decide) (Nat.le_of_ble_eq_true rfl) dX7_copy_59 ?_
  exact zw_returnE C h dX7_copy_62
def f_X7_copy_0 (c : Nat) (p1 : Nat) (M : zM) : Option zM := f_X7_copy_24 c p1 (zs (zs (zs M c 0 (M.1 p1 0)) c 1 ((zs M c 0 (M.1 p1 0)).1 p1 1)) c 2 ((zs (zs M c 0 (M.1 p1 0)) c 1 ((zs M c 0 (M.1 p1 0)).1 p1 1)).1 p1 2))
set_option maxRecDepth 20000 in
set_option maxHeartbeats 2000000 in
theorem p_X7_copy_0 {X : zX} {E : zE} {c : Nat} {p1 : Nat} {M' : zM} (C : zC X E cX7_copy 2 RX7 none 1) (hc : zpp c) (hp1 : zpp p1) {M : zM} (h : f_X7_copy_0 c p1 M = some M') : zW X E (zRQ X E none M') M 0 [(0, .ref (E.2.1 c)), (1, .ref (E.2.1 p1))] [] := by
  have h : (f_X7_copy_24 c p1 (zs (zs (zs M c 0 (M.1 p1 0)) c 1 ((zs M c 0 (M.1 p1 0)).1 p1 1)) c 2 ((zs (zs M c 0 (M.1 p1 0)) c 1 ((zs M c 0 (M.1 p1 0)).1 p1 1)).1 p1 2))) = some M' := h
  refine zw_aload_n C 0 rfl dX7_copy_0 rfl ?_
  refine zw_aload_n C 1 rfl dX7_copy_1 rfl ?_
  refine zw_get (v := .int (M.1 p1 0)) C hp1.lt (hp1.c E) rfl zin_X7 0 (by decide) gw_1_66 rfl dX7_copy_2 ?_
  refine zw_put (ty := .int) C hc.lt (hc.c E) rfl zin_X7 tyX7 tyX7_ok nmX7 0 (by decide) gw_1_66 rfl rfl rfl rfl (fun _ _ => Nat.le_of_ble_eq_true rfl) (fun _ _ => rfl) dX7_copy_5 ?_
  refine zw_aload_n C 0 rfl dX7_copy_8 rfl ?_
  refine zw_aload_n C 1 rfl dX7_copy_9 rfl ?_
  refine zw_get (v := .int ((zs M c 0 (M.1 p1 0)).1 p1 1)) C hp1.lt (hp1.c E) rfl zin_X7 1 (by decide) gw_1_69 rfl dX7_copy_10 ?_
  refine zw_put (ty := .int) C hc.lt (hc.c E) rfl zin_X7 tyX7 tyX7_ok nmX7 1 (by decide) gw_1_69 rfl rfl rfl rfl (fun _ _ => Nat.le_of_ble_eq_true rfl) (fun _ _ => rfl) dX7_copy_13 ?_
  refine zw_aload_n C 0 rfl dX7_copy_16 rfl ?_
  refine zw_aload_n C 1 rfl dX7_copy_17 rfl ?_
  refine zw_get (v := .int ((zs (zs M c 0 (M.1 p1 0)) c 1 ((zs M c 0 (M.1 p1 0)).1 p1 1)).1 p1 2)) C hp1.lt (hp1.c E) rfl zin_X7 2 (by decide) gw_1_73 rfl dX7_copy_18 ?_
  refine zw_put (ty := .int) C hc.lt (hc.c E) rfl zin_X7 tyX7 tyX7_ok nmX7 2 (by decide) gw_1_73 rfl rfl rfl rfl (fun _ _ => Nat.le_of_ble_eq_true rfl) (fun _ _ => rfl) dX7_copy_21 ?_
  exact p_X7_copy_24 C hc hp1 h
def f_X7_copy (M : zM) (c : Nat) (p1 : Nat) : Option zM := f_X7_copy_0 c p1 M
theorem m_X7_copy {l : Launch} {E : zE} (hI : zI E) {M M' : zM} {c : Nat} {p1 : Nat} (hc : zpp c) (hp1 : zpp p1) (h : f_X7_copy M c p1 = some M') : zMet l E yX7_copy cX7_copy 2 none 1 [.ref (E.2.1 c), .ref (E.2.1 p1)] M M' none := zm_of hI (by decide) (Nat.le_of_ble_eq_true rfl) (fun X _ C => p_X7_copy_0 C hc hp1 h)
theorem kv_X7_copy : zKV yX7_copy cX7_copy 2 none 1 := ⟨⟨gw_2_93, gw_2_94, gw_1_3, gw_2_95⟩, ⟨by decide, by decide, by decide +kernel⟩, by decide⟩
-- WingDoor$Plan.addSort(II)V, 23 instructions, depth 0
def f_X7_addSort_29 (c : Nat) (x1 : Int32) (x2 : Int32) (M : zM) : Option zM := some (zs M c 3 ((M.1 c 3) + (1 : Int32)))
set_option maxRecDepth 20000 in
set_option maxHeartbeats 2000000 in
theorem p_X7_addSort_29 {X : zX} {E : zE} {c : Nat} {x1 : Int32} {x2 : Int32} {M' : zM} (C : zC X E cX7_addSort 3 RX7 none 0) (hc : zpp c) {M : zM} (h : f_X7_addSort_29 c x1 x2 M = some M') : zW X E (zRQ X E none M') M 29 [(0, .ref (E.2.1 c)), (1, .int x1), (2, .int x2)] [] := by
  have h : (some (zs M c 3 ((M.1 c 3) + (1 : Int32)))) = some M' := h
  refine zw_aload_n C 0 rfl dX7_addSort_29 rfl ?_
  refine zw_dup C rfl dX7_addSort_30 ?_
  refine zw_get (v := .int (M.1 c 3)) C hc.lt (hc.c E) rfl zin_X7 3 (by decide) gw_1_77 rfl dX7_addSort_31 ?_
  refine zw_iconst (v := (1 : Int32)) C dX7_addSort_34 ct_i_1 ?_
  refine zw_iadd C dX7_addSort_35 ?_
  refine zw_put (ty := .int) C hc.lt (hc.c E) rfl zin_X7 tyX7 tyX7_ok nmX7 3 (by decide) gw_1_77 rfl rfl rfl rfl (fun _ _ => Nat.le_of_ble_eq_true rfl) (fun _ _ => rfl) dX7_addSort_36 ?_
  exact zw_returnE C h dX7_addSort_39
def f_X7_addSort_0 (c : Nat) (x1 : Int32) (x2 : Int32) (M : zM) : Option zM := if (6 : Int32) ≤ (M.1 c 3) then (some M) else (zg (zin (M.1 c 3) 6) (zg (zin ((zs M (c + 1) (M.1 c 3).toNatClampNeg x1).1 c 3) 6) (f_X7_addSort_29 c x1 x2 (zs (zs M (c + 1) (M.1 c 3).toNatClampNeg x1) (c + 2) ((zs M (c + 1) (M.1 c 3).toNatClampNeg x1).1 c 3).toNatClampNeg x2))))
set_option maxRecDepth 20000 in
set_option maxHeartbeats 2000000 in
theorem p_X7_addSort_0 {X : zX} {E : zE} {c : Nat} {x1 : Int32} {x2 : Int32} {M' : zM} (C : zC X E cX7_addSort 3 RX7 none 0) (hc : zpp c) {M : zM} (h : f_X7_addSort_0 c x1 x2 M = some M') : zW X E (zRQ X E none M') M 0 [(0, .ref (E.2.1 c)), (1, .int x1), (2, .int x2)] [] := by
  have h : (if (6 : Int32) ≤ (M.1 c 3) then (some M) else (zg (zin (M.1 c 3) 6) (zg (zin ((zs M (c + 1) (M.1 c 3).toNatClampNeg x1).1 c 3) 6) (f_X7_addSort_29 c x1 x2 (zs (zs M (c + 1) (M.1 c 3).toNatClampNeg x1) (c + 2) ((zs M (c + 1) (M.1 c 3).toNatClampNeg x1).1 c 3).toNatClampNeg x2))))) = some M' := h
  refine zw_aload_n C 0 rfl dX7_addSort_0 rfl ?_
  refine zw_get (v := .int (M.1 c 3)) C hc.lt (hc.c E) rfl zin_X7 3 (by decide) gw_1_77 rfl dX7_addSort_1 ?_
  refine zw_bipush (v := (6 : Int32)) C dX7_addSort_4 ct_b_6 ?_
  refine zw_icmp_ge (tgt := 39) C dX7_addSort_6 (by decide) (fun hb1 => ?_) (fun hb1 => ?_)
  · have h := zt_ hb1 h
    exact zw_returnE C h dX7_addSort_39
  · have h := zf_ hb1 h
    refine zw_aload_n C 0 rfl dX7_addSort_9 rfl ?_
    refine zw_get (v := .ref (E.2.1 (c + 1))) C hc.lt (hc.c E) rfl zin_X7 4 (by decide) gw_1_81 rfl dX7_addSort_10 ?_
    refine zw_aload_n C 0 rfl dX7_addSort_13 rfl ?_
    refine zw_get (v := .int (M.1 c 3)) C hc.lt (hc.c E) rfl zin_X7 3 (by decide) gw_1_77 rfl dX7_addSort_14 ?_
    refine zw_iload_n C 1 rfl dX7_addSort_17 rfl ?_
    obtain ⟨hi2, h⟩ := zg_e h
    refine zw_iast C (hc.ia (j := 1) (by decide) (by decide)) (zin_e hi2) dX7_addSort_18 ?_
    refine zw_aload_n C 0 rfl dX7_addSort_19 rfl ?_
    refine zw_get (v := .ref (E.2.1 (c + 2))) C hc.lt (hc.c E) rfl zin_X7 5 (by decide) gw_1_82 rfl dX7_addSort_20 ?_
    refine zw_aload_n C 0 rfl dX7_addSort_23 rfl ?_
    refine zw_get (v := .int ((zs M (c + 1) (M.1 c 3).toNatClampNeg x1).1 c 3)) C hc.lt (hc.c E) rfl zin_X7 3 (by decide) gw_1_77 rfl dX7_addSort_24 ?_
    refine zw_iload_n C 2 rfl dX7_addSort_27 rfl ?_
    obtain ⟨hi3, h⟩ := zg_e h
    refine zw_iast C (hc.ia (j := 2) (by decide) (by decide)) (zin_e hi3) dX7_addSort_28 ?_
    exact p_X7_addSort_29 C hc h
def f_X7_addSort (M : zM) (c : Nat) (x1 : Int32) (x2 : Int32) : Option zM := f_X7_addSort_0 c x1 x2 M
theorem m_X7_addSort {l : Launch} {E : zE} (hI : zI E) {M M' : zM} {c : Nat} {x1 : Int32} {x2 : Int32} (hc : zpp c) (h : f_X7_addSort M c x1 x2 = some M') : zMet l E yX7_addSort cX7_addSort 3 none 0 [.ref (E.2.1 c), .int x1, .int x2] M M' none := zm_of hI (by decide) (Nat.le_of_ble_eq_true rfl) (fun X _ C => p_X7_addSort_0 C hc h)
theorem kv_X7_addSort : zKV yX7_addSort cX7_addSort 3 none 2 := ⟨⟨gw_2_89, gw_2_90, gw_1_3, gw_2_91⟩, ⟨by decide, by decide, by decide +kernel⟩, by decide⟩
-- WingDoor$Plan.hasSort(I)Z, 10 instructions, depth 0
def f_X7_hasSort_0 (c : Nat) (x1 : Int32) (M : zM) : Option (Int32 × zM) := if x1 < 0 then (some ((0 : Int32), M)) else (if (M.1 c 3) ≤ x1 then (some ((0 : Int32), M)) else (some ((1 : Int32), M)))
set_option maxRecDepth 20000 in
set_option maxHeartbeats 2000000 in
theorem p_X7_hasSort_0 {X : zX} {E : zE} {c : Nat} {x1 : Int32} {r : Int32} {M' : zM} (C : zC X E cX7_hasSort 2 RX7 (some .boolean) 0) (hc : zpp c) {M : zM} (h : f_X7_hasSort_0 c x1 M = some (r, M')) : zW X E (zRQ X E (some (.int r)) M') M 0 [(0, .ref (E.2.1 c)), (1, .int x1)] [] := by
  have h : (if x1 < 0 then (some ((0 : Int32), M)) else (if (M.1 c 3) ≤ x1 then (some ((0 : Int32), M)) else (some ((1 : Int32), M)))) = some (r, M') := h
  refine zw_iload_n C 1 rfl dX7_hasSort_0 rfl ?_
  refine zw_if_lt (tgt := 16) C dX7_hasSort_1 (by decide) (fun hb1 => ?_) (fun hb1 => ?_)
  · have h := zt_ hb1 h
    refine zw_iconst (v := (0 : Int32)) C dX7_hasSort_16 ct_i_0 ?_
    exact zw_zreturnE C rfl h dX7_hasSort_17
  · have h := zf_ hb1 h
    refine zw_iload_n C 1 rfl dX7_hasSort_4 rfl ?_
    refine zw_aload_n C 0 rfl dX7_hasSort_5 rfl ?_
    refine zw_get (v := .int (M.1 c 3)) C hc.lt (hc.c E) rfl zin_X7 3 (by decide) gw_1_77 rfl dX7_hasSort_6 ?_
    refine zw_icmp_ge (tgt := 16) C dX7_hasSort_9 (by decide) (fun hb2 => ?_) (fun hb2 => ?_)
    · have h := zt_ hb2 h
      refine zw_iconst (v := (0 : Int32)) C dX7_hasSort_16 ct_i_0 ?_
      exact zw_zreturnE C rfl h dX7_hasSort_17
    · have h := zf_ hb2 h
      refine zw_iconst (v := (1 : Int32)) C dX7_hasSort_12 ct_i_1 ?_
      refine zw_goto (tgt := 17) C dX7_hasSort_13 (by decide) ?_
      exact zw_zreturnE C rfl h dX7_hasSort_17
def f_X7_hasSort (M : zM) (c : Nat) (x1 : Int32) : Option (Int32 × zM) := f_X7_hasSort_0 c x1 M
theorem m_X7_hasSort {l : Launch} {E : zE} (hI : zI E) {M M' : zM} {c : Nat} {x1 : Int32} {r : Int32} (hc : zpp c) (h : f_X7_hasSort M c x1 = some (r, M')) : zMet l E yX7_hasSort cX7_hasSort 2 (some .boolean) 0 [.ref (E.2.1 c), .int x1] M M' (some (.int r)) := zm_of hI (by decide) (Nat.le_of_ble_eq_true rfl) (fun X _ C => p_X7_hasSort_0 C hc h)
theorem kv_X7_hasSort : zKV yX7_hasSort cX7_hasSort 2 (some .boolean) 1 := ⟨⟨gw_2_108, gw_2_109, gw_1_3, gw_2_110⟩, ⟨by decide, by decide, by decide +kernel⟩, by decide⟩
-- WingDoor$Plan.bulkOf(I)I, 13 instructions, depth 0
def f_X7_bulkOf_0 (c : Nat) (x1 : Int32) (M : zM) : Option (Int32 × zM) := if x1 < 0 then (some ((0 : Int32), M)) else (if (M.1 c 3) ≤ x1 then (some ((0 : Int32), M)) else (zg (zin x1 6) (some (M.1 (c + 1) x1.toNatClampNeg, M))))
set_option maxRecDepth 20000 in
set_option maxHeartbeats 2000000 in
theorem p_X7_bulkOf_0 {X : zX} {E : zE} {c : Nat} {x1 : Int32} {r : Int32} {M' : zM} (C : zC X E cX7_bulkOf 2 RX7 (some .int) 0) (hc : zpp c) {M : zM} (h : f_X7_bulkOf_0 c x1 M = some (r, M')) : zW X E (zRQ X E (some (.int r)) M') M 0 [(0, .ref (E.2.1 c)), (1, .int x1)] [] := by
  have h : (if x1 < 0 then (some ((0 : Int32), M)) else (if (M.1 c 3) ≤ x1 then (some ((0 : Int32), M)) else (zg (zin x1 6) (some (M.1 (c + 1) x1.toNatClampNeg, M))))) = some (r, M') := h
  refine zw_iload_n C 1 rfl dX7_bulkOf_0 rfl ?_
  refine zw_if_lt (tgt := 21) C dX7_bulkOf_1 (by decide) (fun hb1 => ?_) (fun hb1 => ?_)
  · have h := zt_ hb1 h
    refine zw_iconst (v := (0 : Int32)) C dX7_bulkOf_21 ct_i_0 ?_
    exact zw_ireturnE C h dX7_bulkOf_22
  · have h := zf_ hb1 h
    refine zw_iload_n C 1 rfl dX7_bulkOf_4 rfl ?_
    refine zw_aload_n C 0 rfl dX7_bulkOf_5 rfl ?_
    refine zw_get (v := .int (M.1 c 3)) C hc.lt (hc.c E) rfl zin_X7 3 (by decide) gw_1_77 rfl dX7_bulkOf_6 ?_
    refine zw_icmp_ge (tgt := 21) C dX7_bulkOf_9 (by decide) (fun hb2 => ?_) (fun hb2 => ?_)
    · have h := zt_ hb2 h
      refine zw_iconst (v := (0 : Int32)) C dX7_bulkOf_21 ct_i_0 ?_
      exact zw_ireturnE C h dX7_bulkOf_22
    · have h := zf_ hb2 h
      refine zw_aload_n C 0 rfl dX7_bulkOf_12 rfl ?_
      refine zw_get (v := .ref (E.2.1 (c + 1))) C hc.lt (hc.c E) rfl zin_X7 4 (by decide) gw_1_81 rfl dX7_bulkOf_13 ?_
      refine zw_iload_n C 1 rfl dX7_bulkOf_16 rfl ?_
      obtain ⟨hi3, h⟩ := zg_e h
      refine zw_iald C (hc.ia (j := 1) (by decide) (by decide)) (zin_e hi3) dX7_bulkOf_17 ?_
      refine zw_goto (tgt := 22) C dX7_bulkOf_18 (by decide) ?_
      exact zw_ireturnE C h dX7_bulkOf_22
def f_X7_bulkOf (M : zM) (c : Nat) (x1 : Int32) : Option (Int32 × zM) := f_X7_bulkOf_0 c x1 M
theorem m_X7_bulkOf {l : Launch} {E : zE} (hI : zI E) {M M' : zM} {c : Nat} {x1 : Int32} {r : Int32} (hc : zpp c) (h : f_X7_bulkOf M c x1 = some (r, M')) : zMet l E yX7_bulkOf cX7_bulkOf 2 (some .int) 0 [.ref (E.2.1 c), .int x1] M M' (some (.int r)) := zm_of hI (by decide) (Nat.le_of_ble_eq_true rfl) (fun X _ C => p_X7_bulkOf_0 C hc h)
theorem kv_X7_bulkOf : zKV yX7_bulkOf cX7_bulkOf 2 (some .int) 1 := ⟨⟨gw_2_112, gw_2_113, gw_1_3, gw_2_114⟩, ⟨by decide, by decide, by decide +kernel⟩, by decide⟩
-- WingDoor$Plan.pushOf(I)I, 13 instructions, depth 0
def f_X7_pushOf_0 (c : Nat) (x1 : Int32) (M : zM) : Option (Int32 × zM) := if x1 < 0 then (some ((0 : Int32), M)) else (if (M.1 c 3) ≤ x1 then (some ((0 : Int32), M)) else (zg (zin x1 6) (some (M.1 (c + 2) x1.toNatClampNeg, M))))
set_option maxRecDepth 20000 in
set_option maxHeartbeats 2000000 in
theorem p_X7_pushOf_0 {X : zX} {E : zE} {c : Nat} {x1 : Int32} {r : Int32} {M' : zM} (C : zC X E cX7_pushOf 2 RX7 (some .int) 0) (hc : zpp c) {M : zM} (h : f_X7_pushOf_0 c x1 M = some (r, M')) : zW X E (zRQ X E (some (.int r)) M') M 0 [(0, .ref (E.2.1 c)), (1, .int x1)] [] := by
  have h : (if x1 < 0 then (some ((0 : Int32), M)) else (if (M.1 c 3) ≤ x1 then (some ((0 : Int32), M)) else (zg (zin x1 6) (some (M.1 (c + 2) x1.toNatClampNeg, M))))) = some (r, M') := h
  refine zw_iload_n C 1 rfl dX7_pushOf_0 rfl ?_
  refine zw_if_lt (tgt := 21) C dX7_pushOf_1 (by decide) (fun hb1 => ?_) (fun hb1 => ?_)
  · have h := zt_ hb1 h
    refine zw_iconst (v := (0 : Int32)) C dX7_pushOf_21 ct_i_0 ?_
    exact zw_ireturnE C h dX7_pushOf_22
  · have h := zf_ hb1 h
    refine zw_iload_n C 1 rfl dX7_pushOf_4 rfl ?_
    refine zw_aload_n C 0 rfl dX7_pushOf_5 rfl ?_
    refine zw_get (v := .int (M.1 c 3)) C hc.lt (hc.c E) rfl zin_X7 3 (by decide) gw_1_77 rfl dX7_pushOf_6 ?_
    refine zw_icmp_ge (tgt := 21) C dX7_pushOf_9 (by decide) (fun hb2 => ?_) (fun hb2 => ?_)
    · have h := zt_ hb2 h
      refine zw_iconst (v := (0 : Int32)) C dX7_pushOf_21 ct_i_0 ?_
      exact zw_ireturnE C h dX7_pushOf_22
    · have h := zf_ hb2 h
      refine zw_aload_n C 0 rfl dX7_pushOf_12 rfl ?_
      refine zw_get (v := .ref (E.2.1 (c + 2))) C hc.lt (hc.c E) rfl zin_X7 5 (by decide) gw_1_82 rfl dX7_pushOf_13 ?_
      refine zw_iload_n C 1 rfl dX7_pushOf_16 rfl ?_
      obtain ⟨hi3, h⟩ := zg_e h
      refine zw_iald C (hc.ia (j := 2) (by decide) (by decide)) (zin_e hi3) dX7_pushOf_17 ?_
      refine zw_goto (tgt := 22) C dX7_pushOf_18 (by decide) ?_
      exact zw_ireturnE C h dX7_pushOf_22
def f_X7_pushOf (M : zM) (c : Nat) (x1 : Int32) : Option (Int32 × zM) := f_X7_pushOf_0 c x1 M
theorem m_X7_pushOf {l : Launch} {E : zE} (hI : zI E) {M M' : zM} {c : Nat} {x1 : Int32} {r : Int32} (hc : zpp c) (h : f_X7_pushOf M c x1 = some (r, M')) : zMet l E yX7_pushOf cX7_pushOf 2 (some .int) 0 [.ref (E.2.1 c), .int x1] M M' (some (.int r)) := zm_of hI (by decide) (Nat.le_of_ble_eq_true rfl) (fun X _ C => p_X7_pushOf_0 C hc h)
theorem kv_X7_pushOf : zKV yX7_pushOf cX7_pushOf 2 (some .int) 1 := ⟨⟨gw_2_116, gw_2_117, gw_1_3, gw_2_118⟩, ⟨by decide, by decide, by decide +kernel⟩, by decide⟩
-- WingDoor$Plan.isAtMost(III)Z, 15 instructions, depth 1
def f_X7_isAtMost_17 (c : Nat) (x1 : Int32) (x2 : Int32) (x3 : Int32) (M : zM) (s0 : Int32) : Option (Int32 × zM) := if x3 < s0 then (some ((0 : Int32), M)) else (some ((1 : Int32), M))
set_option maxRecDepth 20000 in
set_option maxHeartbeats 2000000 in
theorem p_X7_isAtMost_17 {X : zX} {E : zE} {c : Nat} {x1 : Int32} {x2 : Int32} {x3 : Int32} {r : Int32} {M' : zM} (C : zC X E cX7_isAtMost 4 RX7 (some .boolean) 1) (hc : zpp c) {M : zM} {s0 : Int32} (h : f_X7_isAtMost_17 c x1 x2 x3 M s0 = some (r, M')) : zW X E (zRQ X E (some (.int r)) M') M 17 [(0, .ref (E.2.1 c)), (1, .int x1), (2, .int x2), (3, .int x3)] [.int s0] := by
  have h : (if x3 < s0 then (some ((0 : Int32), M)) else (some ((1 : Int32), M))) = some (r, M') := h
  refine zw_iload_n C 3 rfl dX7_isAtMost_17 rfl ?_
  refine zw_icmp_gt (tgt := 25) C dX7_isAtMost_18 (by decide) (fun hb1 => ?_) (fun hb1 => ?_)
  · have h := zt_ hb1 h
    refine zw_iconst (v := (0 : Int32)) C dX7_isAtMost_25 ct_i_0 ?_
    exact zw_zreturnE C rfl h dX7_isAtMost_26
  · have h := zf_ hb1 h
    refine zw_iconst (v := (1 : Int32)) C dX7_isAtMost_21 ct_i_1 ?_
    refine zw_goto (tgt := 26) C dX7_isAtMost_22 (by decide) ?_
    exact zw_zreturnE C rfl h dX7_isAtMost_26
def f_X7_isAtMost_0 (c : Nat) (x1 : Int32) (x2 : Int32) (x3 : Int32) (M : zM) : Option (Int32 × zM) := if x2 = 0 then (zbi (f_X7_bulkOf M c x1) (fun r3 M4 => f_X7_isAtMost_17 c x1 x2 x3 M4 r3)) else (zbi (f_X7_pushOf M c x1) (fun r6 M7 => f_X7_isAtMost_17 c x1 x2 x3 M7 r6))
set_option maxRecDepth 20000 in
set_option maxHeartbeats 2000000 in
theorem p_X7_isAtMost_0 {X : zX} {E : zE} {c : Nat} {x1 : Int32} {x2 : Int32} {x3 : Int32} {r : Int32} {M' : zM} (C : zC X E cX7_isAtMost 4 RX7 (some .boolean) 1) (hc : zpp c) {M : zM} (h : f_X7_isAtMost_0 c x1 x2 x3 M = some (r, M')) : zW X E (zRQ X E (some (.int r)) M') M 0 [(0, .ref (E.2.1 c)), (1, .int x1), (2, .int x2), (3, .int x3)] [] := by
  have h : (if x2 = 0 then (zbi (f_X7_bulkOf M c x1) (fun r3 M4 => f_X7_isAtMost_17 c x1 x2 x3 M4 r3)) else (zbi (f_X7_pushOf M c x1) (fun r6 M7 => f_X7_isAtMost_17 c x1 x2 x3 M7 r6))) = some (r, M') := h
  refine zw_iload_n C 2 rfl dX7_isAtMost_0 rfl ?_
  refine zw_if_ne (tgt := 12) C dX7_isAtMost_1 (by decide) (fun hb1 => ?_) (fun hb1 => ?_)
  · have h := zt_ hb1 h
    refine zw_aload_n C 0 rfl dX7_isAtMost_4 rfl ?_
    refine zw_iload_n C 1 rfl dX7_isAtMost_5 rfl ?_
    obtain ⟨r3, M4, hq2, h⟩ := zbi_e h
    refine zw_callVi (As := [.int x1]) (st := []) C (m_X7_bulkOf C.2.2.2.2.2.2.2.1 hc hq2) kv_X7_bulkOf gw_3_117 (by decide) hc.lt (hc.c E) rfl rfl rfl rfl (Nat.le_of_ble_eq_true rfl) dX7_isAtMost_6 ?_
    refine zw_goto (tgt := 17) C dX7_isAtMost_9 (by decide) ?_
    exact p_X7_isAtMost_17 C hc h
  · have h := zf_ hb1 h
    refine zw_aload_n C 0 rfl dX7_isAtMost_12 rfl ?_
    refine zw_iload_n C 1 rfl dX7_isAtMost_13 rfl ?_
    obtain ⟨r6, M7, hq5, h⟩ := zbi_e h
    refine zw_callVi (As := [.int x1]) (st := []) C (m_X7_pushOf C.2.2.2.2.2.2.2.1 hc hq5) kv_X7_pushOf gw_3_118 (by decide) hc.lt (hc.c E) rfl rfl rfl rfl (Nat.le_of_ble_eq_true rfl) dX7_isAtMost_14 ?_
    exact p_X7_isAtMost_17 C hc h
def f_X7_isAtMost (M : zM) (c : Nat) (x1 : Int32) (x2 : Int32) (x3 : Int32) : Option (Int32 × zM) := f_X7_isAtMost_0 c x1 x2 x3 M
theorem m_X7_isAtMost {l : Launch} {E : zE} (hI : zI E) {M M' : zM} {c : Nat} {x1 : Int32} {x2 : Int32} {x3 : Int32} {r : Int32} (hc : zpp c) (h : f_X7_isAtMost M c x1 x2 x3 = some (r, M')) : zMet l E yX7_isAtMost cX7_isAtMost 4 (some .boolean) 1 [.ref (E.2.1 c), .int x1, .int x2, .int x3] M M' (some (.int r)) := zm_of hI (by decide) (Nat.le_of_ble_eq_true rfl) (fun X _ C => p_X7_isAtMost_0 C hc h)
theorem kv_X7_isAtMost : zKV yX7_isAtMost cX7_isAtMost 4 (some .boolean) 3 := ⟨⟨gw_3_114, gw_3_115, gw_1_3, gw_3_116⟩, ⟨by decide, by decide, by decide +kernel⟩, by decide⟩
-- WingDoor$Plan.howManyAtMost(III)I, 26 instructions, depth 2
def f_X7_howManyAtMost_6 (c : Nat) (x1 : Int32) (x2 : Int32) (x3 : Int32) : Nat → zM → Int32 → Int32 → Option (Int32 × zM)
  | 0, _, _, _ => none
  | n + 1, M, x4, x5 => if (M.1 c 3) ≤ x5 then (some (x4, M)) else (if ((x1 >>> (x5 &&& 31)) &&& (1 : Int32)) = (1 : Int32) then (zbi (f_X7_isAtMost M c x5 x2 x3) (fun r4 M5 => if r4 = 0 then (f_X7_howManyAtMost_6 c x1 x2 x3 n M5 x4 (x5 + (1 : Int32))) else (f_X7_howManyAtMost_6 c x1 x2 x3 n M5 (x4 + (1 : Int32)) (x5 + (1 : Int32))))) else (f_X7_howManyAtMost_6 c x1 x2 x3 n M x4 (x5 + (1 : Int32))))
set_option maxRecDepth 20000 in
set_option maxHeartbeats 2000000 in
theorem p_X7_howManyAtMost_6 {X : zX} {E : zE} {c : Nat} {x1 : Int32} {x2 : Int32} {x3 : Int32} {r : Int32} {M' : zM} (C : zC X E cX7_howManyAtMost 6 RX7 (some .int) 2) (hc : zpp c) : ∀ (n : Nat) (M : zM) (x4 : Int32) (x5 : Int32), f_X7_howManyAtMost_6 c x1 x2 x3 n M x4 x5 = some (r, M') → zW X E (zRQ X E (some (.int r)) M') M 6 [(0, .ref (E.2.1 c)), (1, .int x1), (2, .int x2), (3, .int x3), (4, .int x4), (5, .int x5)] [] := by
  intro n
  induction n with
  | zero => intro M x4 x5 h; cases h
  | succ n ih =>
    intro M x4 x5 h
    have h : (if (M.1 c 3) ≤ x5 then (some (x4, M)) else (if ((x1 >>> (x5 &&& 31)) &&& (1 : Int32)) = (1 : Int32) then (zbi (f_X7_isAtMost M c x5 x2 x3) (fun r4 M5 => if r4 = 0 then (f_X7_howManyAtMost_6 c x1 x2 x3 n M5 x4 (x5 + (1 : Int32))) else (f_X7_howManyAtMost_6 c x1 x2 x3 n M5 (x4 + (1 : Int32)) (x5 + (1 : Int32))))) else (f_X7_howManyAtMost_6 c x1 x2 x3 n M x4 (x5 + (1 : Int32))))) = some (r, M') := h
    refine zw_iload C 5 rfl dX7_howManyAtMost_6 ?_
    refine zw_aload_n C 0 rfl dX7_howManyAtMost_8 rfl ?_
    refine zw_get (v := .int (M.1 c 3)) C hc.lt (hc.c E) rfl zin_X7 3 (by decide) gw_1_77 rfl dX7_howManyAtMost_9 ?_
    refine zw_icmp_ge (tgt := 45) C dX7_howManyAtMost_12 (by decide) (fun hb1 => ?_) (fun hb1 => ?_)
    · have h := zt_ hb1 h
      refine zw_iload C 4 rfl dX7_howManyAtMost_45 ?_
      exact zw_ireturnE C h dX7_howManyAtMost_47
    · have h := zf_ hb1 h
      refine zw_iload_n C 1 rfl dX7_howManyAtMost_15 rfl ?_
      refine zw_iload C 5 rfl dX7_howManyAtMost_16 ?_
      refine zw_ishr C dX7_howManyAtMost_18 ?_
      refine zw_iconst (v := (1 : Int32)) C dX7_howManyAtMost_19 ct_i_1 ?_
      refine zw_iand C dX7_howManyAtMost_20 ?_
      refine zw_iconst (v := (1 : Int32)) C dX7_howManyAtMost_21 ct_i_1 ?_
      refine zw_icmp_ne (tgt := 39) C dX7_howManyAtMost_22 (by decide) (fun hb2 => ?_) (fun hb2 => ?_)
      · have h := zt_ hb2 h
        refine zw_aload_n C 0 rfl dX7_howManyAtMost_25 rfl ?_
        refine zw_iload C 5 rfl dX7_howManyAtMost_26 ?_
        refine zw_iload_n C 2 rfl dX7_howManyAtMost_28 rfl ?_
        refine zw_iload_n C 3 rfl dX7_howManyAtMost_29 rfl ?_
        obtain ⟨r4, M5, hq3, h⟩ := zbi_e h
        refine zw_callVi (As := [.int x5, .int x2, .int x3]) (st := []) C (m_X7_isAtMost C.2.2.2.2.2.2.2.1 hc hq3) kv_X7_isAtMost gw_3_128 (by decide) hc.lt (hc.c E) rfl rfl rfl rfl (Nat.le_of_ble_eq_true rfl) dX7_howManyAtMost_30 ?_
        refine zw_if_eq (tgt := 39) C dX7_howManyAtMost_33 (by decide) (fun hb6 => ?_) (fun hb6 => ?_)
        · have h := zt_ hb6 h
          refine zw_iinc (lv' := [(5, .int (x5 + (1 : Int32))), (0, .ref (E.2.1 c)), (1, .int x1), (2, .int x2), (3, .int x3), (4, .int x4)]) C 5 rfl dX7_howManyAtMost_39 (ct_n_1 _) (by decide) rfl ?_
          refine zw_goto (tgt := 6) C dX7_howManyAtMost_42 (by decide) ?_
          refine zw_sb [1, 2, 3, 4, 5, 0] rfl ?_
          exact ih _ _ _ h
        · have h := zf_ hb6 h
          refine zw_iinc (lv' := [(4, .int (x4 + (1 : Int32))), (0, .ref (E.2.1 c)), (1, .int x1), (2, .int x2), (3, .int x3), (5, .int x5)]) C 4 rfl dX7_howManyAtMost_36 (ct_n_1 _) (by decide) rfl ?_
          refine zw_iinc (lv' := [(5, .int (x5 + (1 : Int32))), (4, .int (x4 + (1 : Int32))), (0, .ref (E.2.1 c)), (1, .int x1), (2, .int x2), (3, .int x3)]) C 5 rfl dX7_howManyAtMost_39 (ct_n_1 _) (by decide) rfl ?_
          refine zw_goto (tgt := 6) C dX7_howManyAtMost_42 (by decide) ?_
          refine zw_sb [2, 3, 4, 5, 1, 0] rfl ?_
          exact ih _ _ _ h
      · have h := zf_ hb2 h
        refine zw_iinc (lv' := [(5, .int (x5 + (1 : Int32))), (0, .ref (E.2.1 c)), (1, .int x1), (2, .int x2), (3, .int x3), (4, .int x4)]) C 5 rfl dX7_howManyAtMost_39 (ct_n_1 _) (by decide) rfl ?_
        refine zw_goto (tgt := 6) C dX7_howManyAtMost_42 (by decide) ?_
        refine zw_sb [1, 2, 3, 4, 5, 0] rfl ?_
        exact ih _ _ _ h
def f_X7_howManyAtMost_0 (c : Nat) (x1 : Int32) (x2 : Int32) (x3 : Int32) (M : zM) : Option (Int32 × zM) := f_X7_howManyAtMost_6 c x1 x2 x3 zFU M (0 : Int32) (0 : Int32)
set_option maxRecDepth 20000 in
set_option maxHeartbeats 2000000 in
theorem p_X7_howManyAtMost_0 {X : zX} {E : zE} {c : Nat} {x1 : Int32} {x2 : Int32} {x3 : Int32} {r : Int32} {M' : zM} (C : zC X E cX7_howManyAtMost 6 RX7 (some .int) 2) (hc : zpp c) {M : zM} (h : f_X7_howManyAtMost_0 c x1 x2 x3 M = some (r, M')) : zW X E (zRQ X E (some (.int r)) M') M 0 [(0, .ref (E.2.1 c)), (1, .int x1), (2, .int x2), (3, .int x3)] [] := by
  have h : (f_X7_howManyAtMost_6 c x1 x2 x3 zFU M (0 : Int32) (0 : Int32)) = some (r, M') := h
  refine zw_iconst (v := (0 : Int32)) C dX7_howManyAtMost_0 ct_i_0 ?_
  refine zw_istore (lv' := [(4, .int (0 : Int32)), (0, .ref (E.2.1 c)), (1, .int x1), (2, .int x2), (3, .int x3)]) C dX7_howManyAtMost_1 (by decide) rfl ?_
  refine zw_iconst (v := (0 : Int32)) C dX7_howManyAtMost_3 ct_i_0 ?_
  refine zw_istore (lv' := [(5, .int (0 : Int32)), (4, .int (0 : Int32)), (0, .ref (E.2.1 c)), (1, .int x1), (2, .int x2), (3, .int x3)]) C dX7_howManyAtMost_4 (by decide) rfl ?_
  refine zw_sb [2, 3, 4, 5, 1, 0] rfl ?_
  exact p_X7_howManyAtMost_6 C hc zFU _ _ _ h
def f_X7_howManyAtMost (M : zM) (c : Nat) (x1 : Int32) (x2 : Int32) (x3 : Int32) : Option (Int32 × zM) := f_X7_howManyAtMost_0 c x1 x2 x3 M
theorem m_X7_howManyAtMost {l : Launch} {E : zE} (hI : zI E) {M M' : zM} {c : Nat} {x1 : Int32} {x2 : Int32} {x3 : Int32} {r : Int32} (hc : zpp c) (h : f_X7_howManyAtMost M c x1 x2 x3 = some (r, M')) : zMet l E yX7_howManyAtMost cX7_howManyAtMost 6 (some .int) 2 [.ref (E.2.1 c), .int x1, .int x2, .int x3] M M' (some (.int r)) := zm_of hI (by decide) (Nat.le_of_ble_eq_true rfl) (fun X _ C => p_X7_howManyAtMost_0 C hc h)
theorem kv_X7_howManyAtMost : zKV yX7_howManyAtMost cX7_howManyAtMost 6 (some .int) 3 := ⟨⟨gw_3_125, gw_3_126, gw_1_3, gw_3_127⟩, ⟨by decide, by decide, by decide +kernel⟩, by decide⟩
-- WingDoor$Plan.placeOfSide(I)I, 9 instructions, depth 0
def f_X7_placeOfSide_0 (c : Nat) (x1 : Int32) (M : zM) : Option (Int32 × zM) := if x1 = 0 then (some ((0 : Int32), M)) else (some ((M.1 c 0) / (2 : Int32), M))
set_option maxRecDepth 20000 in
set_option maxHeartbeats 2000000 in
theorem p_X7_placeOfSide_0 {X : zX} {E : zE} {c : Nat} {x1 : Int32} {r : Int32} {M' : zM} (C : zC X E cX7_placeOfSide 2 RX7 (some .int) 0) (hc : zpp c) {M : zM} (h : f_X7_placeOfSide_0 c x1 M = some (r, M')) : zW X E (zRQ X E (some (.int r)) M') M 0 [(0, .ref (E.2.1 c)), (1, .int x1)] [] := by
  have h : (if x1 = 0 then (some ((0 : Int32), M)) else (some ((M.1 c 0) / (2 : Int32), M))) = some (r, M') := h
  refine zw_iload_n C 1 rfl dX7_placeOfSide_0 rfl ?_
  refine zw_if_ne (tgt := 8) C dX7_placeOfSide_1 (by decide) (fun hb1 => ?_) (fun hb1 => ?_)
  · have h := zt_ hb1 h
    refine zw_iconst (v := (0 : Int32)) C dX7_placeOfSide_4 ct_i_0 ?_
    refine zw_goto (tgt := 14) C dX7_placeOfSide_5 (by decide) ?_
    exact zw_ireturnE C h dX7_placeOfSide_14
  · have h := zf_ hb1 h
    refine zw_aload_n C 0 rfl dX7_placeOfSide_8 rfl ?_
    refine zw_get (v := .int (M.1 c 0)) C hc.lt (hc.c E) rfl zin_X7 0 (by decide) gw_1_66 rfl dX7_placeOfSide_9 ?_
    refine zw_iconst (v := (2 : Int32)) C dX7_placeOfSide_12 ct_i_2 ?_
    refine zw_idiv C (by decide) dX7_placeOfSide_13 ?_
    exact zw_ireturnE C h dX7_placeOfSide_14
def f_X7_placeOfSide (M : zM) (c : Nat) (x1 : Int32) : Option (Int32 × zM) := f_X7_placeOfSide_0 c x1 M
theorem m_X7_placeOfSide {l : Launch} {E : zE} (hI : zI E) {M M' : zM} {c : Nat} {x1 : Int32} {r : Int32} (hc : zpp c) (h : f_X7_placeOfSide M c x1 = some (r, M')) : zMet l E yX7_placeOfSide cX7_placeOfSide 2 (some .int) 0 [.ref (E.2.1 c), .int x1] M M' (some (.int r)) := zm_of hI (by decide) (Nat.le_of_ble_eq_true rfl) (fun X _ C => p_X7_placeOfSide_0 C hc h)
theorem kv_X7_placeOfSide : zKV yX7_placeOfSide cX7_placeOfSide 2 (some .int) 1 := ⟨⟨gw_2_185, gw_2_186, gw_1_3, gw_2_187⟩, ⟨by decide, by decide, by decide +kernel⟩, by decide⟩
-- WingDoor$Plan.placeBehind(I)I, 12 instructions, depth 0
def f_X7_placeBehind_0 (c : Nat) (x1 : Int32) (M : zM) : Option (Int32 × zM) := if (M.1 c 0) ≤ (x1 + (1 : Int32)) then (some ((0 : Int32), M)) else (some (x1 + (1 : Int32), M))
set_option maxRecDepth 20000 in
set_option maxHeartbeats 2000000 in
theorem p_X7_placeBehind_0 {X : zX} {E : zE} {c : Nat} {x1 : Int32} {r : Int32} {M' : zM} (C : zC X E cX7_placeBehind 2 RX7 (some .int) 0) (hc : zpp c) {M : zM} (h : f_X7_placeBehind_0 c x1 M = some (r, M')) : zW X E (zRQ X E (some (.int r)) M') M 0 [(0, .ref (E.2.1 c)), (1, .int x1)] [] := by
  have h : (if (M.1 c 0) ≤ (x1 + (1 : Int32)) then (some ((0 : Int32), M)) else (some (x1 + (1 : Int32), M))) = some (r, M') := h
  refine zw_iload_n C 1 rfl dX7_placeBehind_0 rfl ?_
  refine zw_iconst (v := (1 : Int32)) C dX7_placeBehind_1 ct_i_1 ?_
  refine zw_iadd C dX7_placeBehind_2 ?_
  refine zw_aload_n C 0 rfl dX7_placeBehind_3 rfl ?_
  refine zw_get (v := .int (M.1 c 0)) C hc.lt (hc.c E) rfl zin_X7 0 (by decide) gw_1_66 rfl dX7_placeBehind_4 ?_
  refine zw_icmp_ge (tgt := 16) C dX7_placeBehind_7 (by decide) (fun hb1 => ?_) (fun hb1 => ?_)
  · have h := zt_ hb1 h
    refine zw_iconst (v := (0 : Int32)) C dX7_placeBehind_16 ct_i_0 ?_
    exact zw_ireturnE C h dX7_placeBehind_17
  · have h := zf_ hb1 h
    refine zw_iload_n C 1 rfl dX7_placeBehind_10 rfl ?_
    refine zw_iconst (v := (1 : Int32)) C dX7_placeBehind_11 ct_i_1 ?_
    refine zw_iadd C dX7_placeBehind_12 ?_
    refine zw_goto (tgt := 17) C dX7_placeBehind_13 (by decide) ?_
    exact zw_ireturnE C h dX7_placeBehind_17
def f_X7_placeBehind (M : zM) (c : Nat) (x1 : Int32) : Option (Int32 × zM) := f_X7_placeBehind_0 c x1 M
theorem m_X7_placeBehind {l : Launch} {E : zE} (hI : zI E) {M M' : zM} {c : Nat} {x1 : Int32} {r : Int32} (hc : zpp c) (h : f_X7_placeBehind M c x1 = some (r, M')) : zMet l E yX7_placeBehind cX7_placeBehind 2 (some .int) 0 [.ref (E.2.1 c), .int x1] M M' (some (.int r)) := zm_of hI (by decide) (Nat.le_of_ble_eq_true rfl) (fun X _ C => p_X7_placeBehind_0 C hc h)
theorem kv_X7_placeBehind : zKV yX7_placeBehind cX7_placeBehind 2 (some .int) 1 := ⟨⟨gw_2_181, gw_2_182, gw_1_3, gw_2_183⟩, ⟨by decide, by decide, by decide +kernel⟩, by decide⟩
