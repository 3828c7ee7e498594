-- WingDoor$Sightings.add(III)Z, 32 instructions, depth 0
def f_X8_add_41 (x1 : Int32) (x2 : Int32) (x3 : Int32) (M : zM) : Option (Int32 × zM) := some ((1 : Int32), zs M 13 4 ((M.1 13 4) + (1 : Int32)))
set_option maxRecDepth 20000 in
set_option maxHeartbeats 2000000 in
theorem p_X8_add_41 {X : zX} {E : zE} {x1 : Int32} {x2 : Int32} {x3 : Int32} {r : Int32} {M' : zM} (C : zC X E cX8_add 4 RX8 (some .boolean) 0) {M : zM} (h : f_X8_add_41 x1 x2 x3 M = some (r, M')) : zW X E (zRQ X E (some (.int r)) M') M 41 [(0, .ref (E.2.1 13)), (1, .int x1), (2, .int x2), (3, .int x3)] [] := by
  have h : (some ((1 : Int32), zs M 13 4 ((M.1 13 4) + (1 : Int32)))) = some (r, M') := h
  refine zw_aload_n C 0 rfl dX8_add_41 rfl ?_
  refine zw_dup C rfl dX8_add_42 ?_
  refine zw_get (v := .int (M.1 13 4)) C (by decide) (zc_13 E) rfl zin_X8 4 (by decide) gw_1_164 rfl dX8_add_43 ?_
  refine zw_iconst (v := (1 : Int32)) C dX8_add_46 ct_i_1 ?_
  refine zw_iadd C dX8_add_47 ?_
  refine zw_put (ty := .int) C (by decide) (zc_13 E) rfl zin_X8 tyX8 tyX8_ok nmX8 4 (by decide) gw_1_164 rfl rfl rfl rfl (fun _ _ => Nat.le_of_ble_eq_true rfl) (fun _ _ => rfl) dX8_add_48 ?_
  refine zw_iconst (v := (1 : Int32)) C dX8_add_51 ct_i_1 ?_
  exact zw_zreturnE C rfl h dX8_add_52
def f_X8_add_0 (x1 : Int32) (x2 : Int32) (x3 : Int32) (M : zM) : Option (Int32 × zM) := if (M.1 13 4) < (6 : Int32) then (zg (zin (M.1 13 4) 6) (zg (zin ((zs M 14 (M.1 13 4).toNatClampNeg x1).1 13 4) 6) (zg (zin ((zs (zs M 14 (M.1 13 4).toNatClampNeg x1) 15 ((zs M 14 (M.1 13 4).toNatClampNeg x1).1 13 4).toNatClampNeg x2).1 13 4) 6) (f_X8_add_41 x1 x2 x3 (zs (zs (zs M 14 (M.1 13 4).toNatClampNeg x1) 15 ((zs M 14 (M.1 13 4).toNatClampNeg x1).1 13 4).toNatClampNeg x2) 16 ((zs (zs M 14 (M.1 13 4).toNatClampNeg x1) 15 ((zs M 14 (M.1 13 4).toNatClampNeg x1).1 13 4).toNatClampNeg x2).1 13 4).toNatClampNeg x3))))) else (some ((0 : Int32), M))
set_option maxRecDepth 20000 in
set_option maxHeartbeats 2000000 in
theorem p_X8_add_0 {X : zX} {E : zE} {x1 : Int32} {x2 : Int32} {x3 : Int32} {r : Int32} {M' : zM} (C : zC X E cX8_add 4 RX8 (some .boolean) 0) {M : zM} (h : f_X8_add_0 x1 x2 x3 M = some (r, M')) : zW X E (zRQ X E (some (.int r)) M') M 0 [(0, .ref (E.2.1 13)), (1, .int x1), (2, .int x2), (3, .int x3)] [] := by
  have h : (if (M.1 13 4) < (6 : Int32) then (zg (zin (M.1 13 4) 6) (zg (zin ((zs M 14 (M.1 13 4).toNatClampNeg x1).1 13 4) 6) (zg (zin ((zs (zs M 14 (M.1 13 4).toNatClampNeg x1) 15 ((zs M 14 (M.1 13 4).toNatClampNeg x1).1 13 4).toNatClampNeg x2).1 13 4) 6) (f_X8_add_41 x1 x2 x3 (zs (zs (zs M 14 (M.1 13 4).toNatClampNeg x1) 15 ((zs M 14 (M.1 13 4).toNatClampNeg x1).1 13 4).toNatClampNeg x2) 16 ((zs (zs M 14 (M.1 13 4).toNatClampNeg x1) 15 ((zs M 14 (M.1 13 4).toNatClampNeg x1).1 13 4).toNatClampNeg x2).1 13 4).toNatClampNeg x3))))) else (some ((0 : Int32), M))) = some (r, M') := h
  refine zw_aload_n C 0 rfl dX8_add_0 rfl ?_
  refine zw_get (v := .int (M.1 13 4)) C (by decide) (zc_13 E) rfl zin_X8 4 (by decide) gw_1_164 rfl dX8_add_1 ?_
  refine zw_bipush (v := (6 : Int32)) C dX8_add_4 ct_b_6 ?_
  refine zw_icmp_lt (tgt := 11) C dX8_add_6 (by decide) (fun hb1 => ?_) (fun hb1 => ?_)
  · have h := zt_ hb1 h
    refine zw_aload_n C 0 rfl dX8_add_11 rfl ?_
    refine zw_get (v := .ref (E.2.1 14)) C (by decide) (zc_13 E) rfl zin_X8 1 (by decide) gw_1_161 rfl dX8_add_12 ?_
    refine zw_aload_n C 0 rfl dX8_add_15 rfl ?_
    refine zw_get (v := .int (M.1 13 4)) C (by decide) (zc_13 E) rfl zin_X8 4 (by decide) gw_1_164 rfl dX8_add_16 ?_
    refine zw_iload_n C 1 rfl dX8_add_19 rfl ?_
    obtain ⟨hi2, h⟩ := zg_e h
    refine zw_iast C zia_14 (zin_e hi2) dX8_add_20 ?_
    refine zw_aload_n C 0 rfl dX8_add_21 rfl ?_
    refine zw_get (v := .ref (E.2.1 15)) C (by decide) (zc_13 E) rfl zin_X8 2 (by decide) gw_1_162 rfl dX8_add_22 ?_
    refine zw_aload_n C 0 rfl dX8_add_25 rfl ?_
    refine zw_get (v := .int ((zs M 14 (M.1 13 4).toNatClampNeg x1).1 13 4)) C (by decide) (zc_13 E) rfl zin_X8 4 (by decide) gw_1_164 rfl dX8_add_26 ?_
    refine zw_iload_n C 2 rfl dX8_add_29 rfl ?_
    obtain ⟨hi3, h⟩ := zg_e h
    refine zw_iast C zia_15 (zin_e hi3) dX8_add_30 ?_
    refine zw_aload_n C 0 rfl dX8_add_31 rfl ?_
    refine zw_get (v := .ref (E.2.1 16)) C (by decide) (zc_13 E) rfl zin_X8 3 (by decide) gw_1_163 rfl dX8_add_32 ?_
    refine zw_aload_n C 0 rfl dX8_add_35 rfl ?_
    refine zw_get (v := .int ((zs (zs M 14 (M.1 13 4).toNatClampNeg x1) 15 ((zs M 14 (M.1 13 4).toNatClampNeg x1).1 13 4).toNatClampNeg x2).1 13 4)) C (by decide) (zc_13 E) rfl zin_X8 4 (by decide) gw_1_164 rfl dX8_add_36 ?_
    refine zw_iload_n C 3 rfl dX8_add_39 rfl ?_
    obtain ⟨hi4, h⟩ := zg_e h
    refine zw_iast C zia_16 (zin_e hi4) dX8_add_40 ?_
    exact p_X8_add_41 C h
  · have h := zf_ hb1 h
    refine zw_iconst (v := (0 : Int32)) C dX8_add_9 ct_i_0 ?_
    exact zw_zreturnE C rfl h dX8_add_10
def f_X8_add (M : zM) (x1 : Int32) (x2 : Int32) (x3 : Int32) : Option (Int32 × zM) := f_X8_add_0 x1 x2 x3 M
theorem m_X8_add {l : Launch} {E : zE} (hI : zI E) {M M' : zM} {x1 : Int32} {x2 : Int32} {x3 : Int32} {r : Int32} (h : f_X8_add M x1 x2 x3 = some (r, M')) : zMet l E yX8_add cX8_add 4 (some .boolean) 0 [.ref (E.2.1 13), .int x1, .int x2, .int x3] M M' (some (.int r)) := zm_of hI (by decide) (Nat.le_of_ble_eq_true rfl) (fun X _ C => p_X8_add_0 C h)
theorem kv_X8_add : zKV yX8_add cX8_add 4 (some .boolean) 3 := ⟨⟨gw_3_94, gw_3_95, gw_1_6, gw_3_96⟩, ⟨by decide, by decide, by decide +kernel⟩, by decide⟩
-- WingDoor$Sightings.allIsSoOf(I)Z, 34 instructions, depth 2
def f_X8_allIsSoOf_45 (x1 : Int32) (k2 : zM → Int32 → Option (Int32 × zM)) (M : zM) (x2 : Int32) (s0 : Int32) (s1 : Int32) : Option (Int32 × zM) := if s1 = s0 then (k2 M (x2 + (1 : Int32))) else (some ((0 : Int32), M))
set_option maxRecDepth 20000 in
set_option maxHeartbeats 2000000 in
theorem p_X8_allIsSoOf_45 {X : zX} {E : zE} {x1 : Int32} {r : Int32} {M' : zM} {k2 : zM → Int32 → Option (Int32 × zM)} (C : zC X E cX8_allIsSoOf 3 RX8 (some .boolean) 2) (hk2 : ∀ (M : zM) (y2 : Int32), k2 M y2 = some (r, M') → zW X E (zRQ X E (some (.int r)) M') M 2 [(0, .ref (E.2.1 13)), (1, .int x1), (2, .int y2)] []) {M : zM} {x2 : Int32} {s0 : Int32} {s1 : Int32} (h : f_X8_allIsSoOf_45 x1 k2 M x2 s0 s1 = some (r, M')) : zW X E (zRQ X E (some (.int r)) M') M 45 [(0, .ref (E.2.1 13)), (1, .int x1), (2, .int x2)] [.int s0, .int s1] := by
  have h : (if s1 = s0 then (k2 M (x2 + (1 : Int32))) else (some ((0 : Int32), M))) = some (r, M') := h
  refine zw_icmp_eq (tgt := 50) C dX8_allIsSoOf_45 (by decide) (fun hb1 => ?_) (fun hb1 => ?_)
  · have h := zt_ hb1 h
    refine zw_iinc (lv' := [(2, .int (x2 + (1 : Int32))), (0, .ref (E.2.1 13)), (1, .int x1)]) C 2 rfl dX8_allIsSoOf_50 (ct_n_1 _) (by decide) rfl ?_
    refine zw_goto (tgt := 2) C dX8_allIsSoOf_53 (by decide) ?_
    refine zw_sb [1, 2, 0] rfl ?_
    exact hk2 _ _ h
  · have h := zf_ hb1 h
    refine zw_iconst (v := (0 : Int32)) C dX8_allIsSoOf_48 ct_i_0 ?_
    exact zw_zreturnE C rfl h dX8_allIsSoOf_49
def f_X8_allIsSoOf_2 (x1 : Int32) : Nat → zM → Int32 → Option (Int32 × zM)
  | 0, _, _ => none
  | n + 1, M, x2 => if (M.1 13 4) ≤ x2 then (some ((1 : Int32), M)) else (zg (zin x2 6) (zg (zin x2 6) (zbi (f_X7_isAtMost M 3 x1 (M.1 14 x2.toNatClampNeg) (M.1 15 x2.toNatClampNeg)) (fun r5 M6 => zg (zin x2 6) (if (M6.1 16 x2.toNatClampNeg) = (1 : Int32) then (f_X8_allIsSoOf_45 x1 (f_X8_allIsSoOf_2 x1 n) M6 x2 (1 : Int32) r5) else (f_X8_allIsSoOf_45 x1 (f_X8_allIsSoOf_2 x1 n) M6 x2 (0 : Int32) r5))))))
set_option maxRecDepth 20000 in
set_option maxHeartbeats 2000000 in
theorem p_X8_allIsSoOf_2 {X : zX} {E : zE} {x1 : Int32} {r : Int32} {M' : zM} (C : zC X E cX8_allIsSoOf 3 RX8 (some .boolean) 2) : ∀ (n : Nat) (M : zM) (x2 : Int32), f_X8_allIsSoOf_2 x1 n M x2 = some (r, M') → zW X E (zRQ X E (some (.int r)) M') M 2 [(0, .ref (E.2.1 13)), (1, .int x1), (2, .int x2)] [] := by
  intro n
  induction n with
  | zero => intro M x2 h; cases h
  | succ n ih =>
    intro M x2 h
    have h : (if (M.1 13 4) ≤ x2 then (some ((1 : Int32), M)) else (zg (zin x2 6) (zg (zin x2 6) (zbi (f_X7_isAtMost M 3 x1 (M.1 14 x2.toNatClampNeg) (M.1 15 x2.toNatClampNeg)) (fun r5 M6 => zg (zin x2 6) (if (M6.1 16 x2.toNatClampNeg) = (1 : Int32) then (f_X8_allIsSoOf_45 x1 (f_X8_allIsSoOf_2 x1 n) M6 x2 (1 : Int32) r5) else (f_X8_allIsSoOf_45 x1 (f_X8_allIsSoOf_2 x1 n) M6 x2 (0 : Int32) r5))))))) = some (r, M') := h
    refine zw_iload_n C 2 rfl dX8_allIsSoOf_2 rfl ?_
    refine zw_aload_n C 0 rfl dX8_allIsSoOf_3 rfl ?_
    refine zw_get (v := .int (M.1 13 4)) C (by decide) (zc_13 E) rfl zin_X8 4 (by decide) gw_1_164 rfl dX8_allIsSoOf_4 ?_
    refine zw_icmp_ge (tgt := 56) C dX8_allIsSoOf_7 (by decide) (fun hb1 => ?_) (fun hb1 => ?_)
    · have h := zt_ hb1 h
      refine zw_iconst (v := (1 : Int32)) C dX8_allIsSoOf_56 ct_i_1 ?_
      exact zw_zreturnE C rfl h dX8_allIsSoOf_57
    · have h := zf_ hb1 h
      refine zw_aload_n C 0 rfl dX8_allIsSoOf_10 rfl ?_
      refine zw_get (v := .ref (E.2.1 3)) C (by decide) (zc_13 E) rfl zin_X8 0 (by decide) gw_1_160 rfl dX8_allIsSoOf_11 ?_
      refine zw_iload_n C 1 rfl dX8_allIsSoOf_14 rfl ?_
      refine zw_aload_n C 0 rfl dX8_allIsSoOf_15 rfl ?_
      refine zw_get (v := .ref (E.2.1 14)) C (by decide) (zc_13 E) rfl zin_X8 1 (by decide) gw_1_161 rfl dX8_allIsSoOf_16 ?_
      refine zw_iload_n C 2 rfl dX8_allIsSoOf_19 rfl ?_
      obtain ⟨hi2, h⟩ := zg_e h
      refine zw_iald C zia_14 (zin_e hi2) dX8_allIsSoOf_20 ?_
      refine zw_aload_n C 0 rfl dX8_allIsSoOf_21 rfl ?_
      refine zw_get (v := .ref (E.2.1 15)) C (by decide) (zc_13 E) rfl zin_X8 2 (by decide) gw_1_162 rfl dX8_allIsSoOf_22 ?_
      refine zw_iload_n C 2 rfl dX8_allIsSoOf_25 rfl ?_
      obtain ⟨hi3, h⟩ := zg_e h
      refine zw_iald C zia_15 (zin_e hi3) dX8_allIsSoOf_26 ?_
      obtain ⟨r5, M6, hq4, h⟩ := zbi_e h
      refine zw_callVi (As := [.int x1, .int (M.1 14 x2.toNatClampNeg), .int (M.1 15 x2.toNatClampNeg)]) (st := []) C (m_X7_isAtMost C.2.2.2.2.2.2.2.1 zpp_3 hq4) kv_X7_isAtMost gw_3_113 (by decide) zpp_3.lt (zpp_3.c E) rfl rfl rfl rfl (Nat.le_of_ble_eq_true rfl) dX8_allIsSoOf_27 ?_
      refine zw_aload_n C 0 rfl dX8_allIsSoOf_30 rfl ?_
      refine zw_get (v := .ref (E.2.1 16)) C (by decide) (zc_13 E) rfl zin_X8 3 (by decide) gw_1_163 rfl dX8_allIsSoOf_31 ?_
      refine zw_iload_n C 2 rfl dX8_allIsSoOf_34 rfl ?_
      obtain ⟨hi7, h⟩ := zg_e h
      refine zw_iald C zia_16 (zin_e hi7) dX8_allIsSoOf_35 ?_
      refine zw_iconst (v := (1 : Int32)) C dX8_allIsSoOf_36 ct_i_1 ?_
      refine zw_icmp_ne (tgt := 44) C dX8_allIsSoOf_37 (by decide) (fun hb8 => ?_) (fun hb8 => ?_)
      · have h := zt_ hb8 h
        refine zw_iconst (v := (1 : Int32)) C dX8_allIsSoOf_40 ct_i_1 ?_
        refine zw_goto (tgt := 45) C dX8_allIsSoOf_41 (by decide) ?_
        exact p_X8_allIsSoOf_45 C (fun _ _ h => ih _ _ h) h
      · have h := zf_ hb8 h
        refine zw_iconst (v := (0 : Int32)) C dX8_allIsSoOf_44 ct_i_0 ?_
        exact p_X8_allIsSoOf_45 C (fun _ _ h => ih _ _ h) h
def f_X8_allIsSoOf_0 (x1 : Int32) (M : zM) : Option (Int32 × zM) := f_X8_allIsSoOf_2 x1 zFU M (0 : Int32)
set_option maxRecDepth 20000 in
set_option maxHeartbeats 2000000 in
theorem p_X8_allIsSoOf_0 {X : zX} {E : zE} {x1 : Int32} {r : Int32} {M' : zM} (C : zC X E cX8_allIsSoOf 3 RX8 (some .boolean) 2) {M : zM} (h : f_X8_allIsSoOf_0 x1 M = some (r, M')) : zW X E (zRQ X E (some (.int r)) M') M 0 [(0, .ref (E.2.1 13)), (1, .int x1)] [] := by
  have h : (f_X8_allIsSoOf_2 x1 zFU M (0 : Int32)) = some (r, M') := h
  refine zw_iconst (v := (0 : Int32)) C dX8_allIsSoOf_0 ct_i_0 ?_
  refine zw_istore_n (lv' := [(2, .int (0 : Int32)), (0, .ref (E.2.1 13)), (1, .int x1)]) C dX8_allIsSoOf_1 rfl (by decide) rfl ?_
  refine zw_sb [1, 2, 0] rfl ?_
  exact p_X8_allIsSoOf_2 C zFU _ _ h
def f_X8_allIsSoOf (M : zM) (x1 : Int32) : Option (Int32 × zM) := f_X8_allIsSoOf_0 x1 M
theorem m_X8_allIsSoOf {l : Launch} {E : zE} (hI : zI E) {M M' : zM} {x1 : Int32} {r : Int32} (h : f_X8_allIsSoOf M x1 = some (r, M')) : zMet l E yX8_allIsSoOf cX8_allIsSoOf 3 (some .boolean) 2 [.ref (E.2.1 13), .int x1] M M' (some (.int r)) := zm_of hI (by decide) (Nat.le_of_ble_eq_true rfl) (fun X _ C => p_X8_allIsSoOf_0 C h)
theorem kv_X8_allIsSoOf : zKV yX8_allIsSoOf cX8_allIsSoOf 3 (some .boolean) 1 := ⟨⟨gw_3_111, gs_16, gw_1_6, gw_3_112⟩, ⟨by decide, by decide, by decide +kernel⟩, by decide⟩
-- WingDoor$Sightings.possibleSorts()I, 23 instructions, depth 3
def f_X8_possibleSorts_4 : Nat → zM → Int32 → Int32 → Option (Int32 × zM)
  | 0, _, _, _ => none
  | n + 1, M, x1, x2 => if (M.1 3 3) ≤ x2 then (some (x1, M)) else (zbi (f_X8_allIsSoOf M x2) (fun r3 M4 => if r3 = 0 then (f_X8_possibleSorts_4 n M4 x1 (x2 + (1 : Int32))) else (f_X8_possibleSorts_4 n M4 (x1 ||| ((1 : Int32) <<< (x2 &&& 31))) (x2 + (1 : Int32)))))
set_option maxRecDepth 20000 in
set_option maxHeartbeats 2000000 in
theorem p_X8_possibleSorts_4 {X : zX} {E : zE} {r : Int32} {M' : zM} (C : zC X E cX8_possibleSorts 3 RX8 (some .int) 3) : ∀ (n : Nat) (M : zM) (x1 : Int32) (x2 : Int32), f_X8_possibleSorts_4  n M x1 x2 = some (r, M') → zW X E (zRQ X E (some (.int r)) M') M 4 [(0, .ref (E.2.1 13)), (1, .int x1), (2, .int x2)] [] := by
  intro n
  induction n with
  | zero => intro M x1 x2 h; cases h
  | succ n ih =>
    intro M x1 x2 h
    have h : (if (M.1 3 3) ≤ x2 then (some (x1, M)) else (zbi (f_X8_allIsSoOf M x2) (fun r3 M4 => if r3 = 0 then (f_X8_possibleSorts_4 n M4 x1 (x2 + (1 : Int32))) else (f_X8_possibleSorts_4 n M4 (x1 ||| ((1 : Int32) <<< (x2 &&& 31))) (x2 + (1 : Int32)))))) = some (r, M') := h
    refine zw_iload_n C 2 rfl dX8_possibleSorts_4 rfl ?_
    refine zw_aload_n C 0 rfl dX8_possibleSorts_5 rfl ?_
    refine zw_get (v := .ref (E.2.1 3)) C (by decide) (zc_13 E) rfl zin_X8 0 (by decide) gw_1_160 rfl dX8_possibleSorts_6 ?_
    refine zw_getN (v := .int (M.1 3 3)) C zpp_3.lt (zpp_3.c E) rfl zin_X7 3 (by decide) (List.mem_of_getElem? (i := 9) rfl) rfl dX8_possibleSorts_9 ?_
    refine zw_icmp_ge (tgt := 35) C dX8_possibleSorts_12 (by decide) (fun hb1 => ?_) (fun hb1 => ?_)
    · have h := zt_ hb1 h
      refine zw_iload_n C 1 rfl dX8_possibleSorts_35 rfl ?_
      exact zw_ireturnE C h dX8_possibleSorts_36
    · have h := zf_ hb1 h
      refine zw_aload_n C 0 rfl dX8_possibleSorts_15 rfl ?_
      refine zw_iload_n C 2 rfl dX8_possibleSorts_16 rfl ?_
      obtain ⟨r3, M4, hq2, h⟩ := zbi_e h
      refine zw_callVi (As := [.int x2]) (st := []) C (m_X8_allIsSoOf C.2.2.2.2.2.2.2.1 hq2) kv_X8_allIsSoOf gw_3_109 (by decide) (by decide) (zc_13 E) rfl rfl rfl rfl (Nat.le_of_ble_eq_true rfl) dX8_possibleSorts_17 ?_
      refine zw_if_eq (tgt := 29) C dX8_possibleSorts_20 (by decide) (fun hb5 => ?_) (fun hb5 => ?_)
      · have h := zt_ hb5 h
        refine zw_iinc (lv' := [(2, .int (x2 + (1 : Int32))), (0, .ref (E.2.1 13)), (1, .int x1)]) C 2 rfl dX8_possibleSorts_29 (ct_n_1 _) (by decide) rfl ?_
        refine zw_goto (tgt := 4) C dX8_possibleSorts_32 (by decide) ?_
        refine zw_sb [1, 2, 0] rfl ?_
        exact ih _ _ _ h
      · have h := zf_ hb5 h
        refine zw_iload_n C 1 rfl dX8_possibleSorts_23 rfl ?_
        refine zw_iconst (v := (1 : Int32)) C dX8_possibleSorts_24 ct_i_1 ?_
        refine zw_iload_n C 2 rfl dX8_possibleSorts_25 rfl ?_
        refine zw_ishl C dX8_possibleSorts_26 ?_
        refine zw_ior C dX8_possibleSorts_27 ?_
        refine zw_istore_n (lv' := [(1, .int (x1 ||| ((1 : Int32) <<< (x2 &&& 31)))), (0, .ref (E.2.1 13)), (2, .int x2)]) C dX8_possibleSorts_28 rfl (by decide) rfl ?_
        refine zw_iinc (lv' := [(2, .int (x2 + (1 : Int32))), (1, .int (x1 ||| ((1 : Int32) <<< (x2 &&& 31)))), (0, .ref (E.2.1 13))]) C 2 rfl dX8_possibleSorts_29 (ct_n_1 _) (by decide) rfl ?_
        refine zw_goto (tgt := 4) C dX8_possibleSorts_32 (by decide) ?_
        refine zw_sb [2, 1, 0] rfl ?_
        exact ih _ _ _ h
def f_X8_possibleSorts_0 (M : zM) : Option (Int32 × zM) := f_X8_possibleSorts_4 zFU M (0 : Int32) (0 : Int32)
set_option maxRecDepth 20000 in
set_option maxHeartbeats 2000000 in
theorem p_X8_possibleSorts_0 {X : zX} {E : zE} {r : Int32} {M' : zM} (C : zC X E cX8_possibleSorts 3 RX8 (some .int) 3) {M : zM} (h : f_X8_possibleSorts_0  M = some (r, M')) : zW X E (zRQ X E (some (.int r)) M') M 0 [(0, .ref (E.2.1 13))] [] := by
  have h : (f_X8_possibleSorts_4 zFU M (0 : Int32) (0 : Int32)) = some (r, M') := h
  refine zw_iconst (v := (0 : Int32)) C dX8_possibleSorts_0 ct_i_0 ?_
  refine zw_istore_n (lv' := [(1, .int (0 : Int32)), (0, .ref (E.2.1 13))]) C dX8_possibleSorts_1 rfl (by decide) rfl ?_
  refine zw_iconst (v := (0 : Int32)) C dX8_possibleSorts_2 ct_i_0 ?_
  refine zw_istore_n (lv' := [(2, .int (0 : Int32)), (1, .int (0 : Int32)), (0, .ref (E.2.1 13))]) C dX8_possibleSorts_3 rfl (by decide) rfl ?_
  refine zw_sb [2, 1, 0] rfl ?_
  exact p_X8_possibleSorts_4 C zFU _ _ _ h
def f_X8_possibleSorts (M : zM) : Option (Int32 × zM) := f_X8_possibleSorts_0 M
theorem m_X8_possibleSorts {l : Launch} {E : zE} (hI : zI E) {M M' : zM} {r : Int32} (h : f_X8_possibleSorts M = some (r, M')) : zMet l E yX8_possibleSorts cX8_possibleSorts 3 (some .int) 3 [.ref (E.2.1 13)] M M' (some (.int r)) := zm_of hI (by decide) (Nat.le_of_ble_eq_true rfl) (fun X _ C => p_X8_possibleSorts_0 C h)
theorem kv_X8_possibleSorts : zKV yX8_possibleSorts cX8_possibleSorts 3 (some .int) 0 := ⟨⟨gw_3_106, gw_3_107, gw_1_6, gw_3_108⟩, ⟨by decide, by decide, by decide +kernel⟩, by decide⟩
-- WingDoor$Past.remember(LWingDoor$Moment;)V, 32 instructions, depth 2
def f_X6_remember_0 (p1 : Nat) (M : zM) : Option zM := zg (zin (((M.1 9 1) + (M.1 9 2)) - ((M.1 9 1) + (M.1 9 2)) / (10 : Int32) * (10 : Int32)) 10) (zbv (f_X5_copy M (49 + 6 * (((M.1 9 1) + (M.1 9 2)) - ((M.1 9 1) + (M.1 9 2)) / (10 : Int32) * (10 : Int32)).toNatClampNeg) p1) (fun M5 => if (10 : Int32) ≤ (M5.1 9 2) then (some (zs M5 9 1 (((M5.1 9 1) + (1 : Int32)) - ((M5.1 9 1) + (1 : Int32)) / (10 : Int32) * (10 : Int32)))) else (some (zs M5 9 2 ((M5.1 9 2) + (1 : Int32))))))
set_option maxRecDepth 20000 in
set_option maxHeartbeats 2000000 in
theorem p_X6_remember_0 {X : zX} {E : zE} {p1 : Nat} {M' : zM} (C : zC X E cX6_remember 2 RX6 none 2) (hp1 : zmp p1) {M : zM} (h : f_X6_remember_0 p1 M = some M') : zW X E (zRQ X E none M') M 0 [(0, .ref (E.2.1 9)), (1, .ref (E.2.1 p1))] [] := by
  have h : (zg (zin (((M.1 9 1) + (M.1 9 2)) - ((M.1 9 1) + (M.1 9 2)) / (10 : Int32) * (10 : Int32)) 10) (zbv (f_X5_copy M (49 + 6 * (((M.1 9 1) + (M.1 9 2)) - ((M.1 9 1) + (M.1 9 2)) / (10 : Int32) * (10 : Int32)).toNatClampNeg) p1) (fun M5 => if (10 : Int32) ≤ (M5.1 9 2) then (some (zs M5 9 1 (((M5.1 9 1) + (1 : Int32)) - ((M5.1 9 1) + (1 : Int32)) / (10 : Int32) * (10 : Int32)))) else (some (zs M5 9 2 ((M5.1 9 2) + (1 : Int32))))))) = some M' := h
  refine zw_aload_n C 0 rfl dX6_remember_0 rfl ?_
  refine zw_get (v := .ref (E.2.1 10)) C (by decide) (zc_9 E) rfl zin_X6 0 (by decide) gw_1_143 rfl dX6_remember_1 ?_
  refine zw_aload_n C 0 rfl dX6_remember_4 rfl ?_
  refine zw_get (v := .int (M.1 9 1)) C (by decide) (zc_9 E) rfl zin_X6 1 (by decide) gw_1_144 rfl dX6_remember_5 ?_
  refine zw_aload_n C 0 rfl dX6_remember_8 rfl ?_
  refine zw_get (v := .int (M.1 9 2)) C (by decide) (zc_9 E) rfl zin_X6 2 (by decide) gw_1_145 rfl dX6_remember_9 ?_
  refine zw_iadd C dX6_remember_12 ?_
  refine zw_bipush (v := (10 : Int32)) C dX6_remember_13 ct_b_10 ?_
  refine zw_irem C (by decide) dX6_remember_15 ?_
  obtain ⟨hi2, h⟩ := zg_e h
  refine zw_aald C zqa_10 (zin_e hi2) dX6_remember_16 ?_
  have hi2l := zin_lt hi2
  refine zw_aload_n C 1 rfl dX6_remember_17 rfl ?_
  obtain ⟨M5, hq3, h⟩ := zbv_e h
  refine zw_callVv (As := [.ref (E.2.1 p1)]) (st := []) C (m_X5_copy C.2.2.2.2.2.2.2.1 (zmp_past hi2l) hp1 hq3) kv_X5_copy gw_3_4 (by decide) (zmp_past hi2l).lt ((zmp_past hi2l).c E) rfl rfl rfl rfl (Nat.le_of_ble_eq_true rfl) dX6_remember_18 ?_
  refine zw_aload_n C 0 rfl dX6_remember_21 rfl ?_
  refine zw_get (v := .int (M5.1 9 2)) C (by decide) (zc_9 E) rfl zin_X6 2 (by decide) gw_1_145 rfl dX6_remember_22 ?_
  refine zw_bipush (v := (10 : Int32)) C dX6_remember_25 ct_b_10 ?_
  refine zw_icmp_ge (tgt := 43) C dX6_remember_27 (by decide) (fun hb6 => ?_) (fun hb6 => ?_)
  · have h := zt_ hb6 h
    refine zw_aload_n C 0 rfl dX6_remember_43 rfl ?_
    refine zw_aload_n C 0 rfl dX6_remember_44 rfl ?_
    refine zw_get (v := .int (M5.1 9 1)) C (by decide) (zc_9 E) rfl zin_X6 1 (by decide) gw_1_144 rfl dX6_remember_45 ?_
    refine zw_iconst (v := (1 : Int32)) C dX6_remember_48 ct_i_1 ?_
    refine zw_iadd C dX6_remember_49 ?_
    refine zw_bipush (v := (10 : Int32)) C dX6_remember_50 ct_b_10 ?_
    refine zw_irem C (by decide) dX6_remember_52 ?_
    refine zw_put (ty := .int) C (by decide) (zc_9 E) rfl zin_X6 tyX6 tyX6_ok nmX6 1 (by decide) gw_1_144 rfl rfl rfl rfl (fun _ _ => Nat.le_of_ble_eq_true rfl) (fun _ _ => rfl) dX6_remember_53 ?_
    exact zw_returnE C h dX6_remember_56
  · have h := zf_ hb6 h
    refine zw_aload_n C 0 rfl dX6_remember_30 rfl ?_
    refine zw_dup C rfl dX6_remember_31 ?_
    refine zw_get (v := .int (M5.1 9 2)) C (by decide) (zc_9 E) rfl zin_X6 2 (by decide) gw_1_145 rfl dX6_remember_32 ?_
    refine zw_iconst (v := (1 : Int32)) C dX6_remember_35 ct_i_1 ?_
    refine zw_iadd C dX6_remember_36 ?_
    refine zw_put (ty := .int) C (by decide) (zc_9 E) rfl zin_X6 tyX6 tyX6_ok nmX6 2 (by decide) gw_1_145 rfl rfl rfl rfl (fun _ _ => Nat.le_of_ble_eq_true rfl) (fun _ _ => rfl) dX6_remember_37 ?_
    refine zw_goto (tgt := 56) C dX6_remember_40 (by decide) ?_
    exact zw_returnE C h dX6_remember_56
def f_X6_remember (M : zM) (p1 : Nat) : Option zM := f_X6_remember_0 p1 M
theorem m_X6_remember {l : Launch} {E : zE} (hI : zI E) {M M' : zM} {p1 : Nat} (hp1 : zmp p1) (h : f_X6_remember M p1 = some M') : zMet l E yX6_remember cX6_remember 2 none 2 [.ref (E.2.1 9), .ref (E.2.1 p1)] M M' none := zm_of hI (by decide) (Nat.le_of_ble_eq_true rfl) (fun X _ C => p_X6_remember_0 C hp1 h)
theorem kv_X6_remember : zKV yX6_remember cX6_remember 2 none 1 := ⟨⟨gw_3_1, gw_3_2, gw_1_5, gw_3_3⟩, ⟨by decide, by decide, by decide +kernel⟩, by decide⟩
-- WingDoor$Past.recall(LWingDoor$Moment;)V, 22 instructions, depth 2
def f_X6_recall_0 (p1 : Nat) (M : zM) : Option zM := if (M.1 9 2) ≤ 0 then (some M) else (zg (zin ((((zs M 9 2 ((M.1 9 2) - (1 : Int32))).1 9 1) + ((zs M 9 2 ((M.1 9 2) - (1 : Int32))).1 9 2)) - (((zs M 9 2 ((M.1 9 2) - (1 : Int32))).1 9 1) + ((zs M 9 2 ((M.1 9 2) - (1 : Int32))).1 9 2)) / (10 : Int32) * (10 : Int32)) 10) (zbv (f_X5_copy (zs M 9 2 ((M.1 9 2) - (1 : Int32))) p1 (49 + 6 * ((((zs M 9 2 ((M.1 9 2) - (1 : Int32))).1 9 1) + ((zs M 9 2 ((M.1 9 2) - (1 : Int32))).1 9 2)) - (((zs M 9 2 ((M.1 9 2) - (1 : Int32))).1 9 1) + ((zs M 9 2 ((M.1 9 2) - (1 : Int32))).1 9 2)) / (10 : Int32) * (10 : Int32)).toNatClampNeg)) (fun M6 => some M6)))
set_option maxRecDepth 20000 in
set_option maxHeartbeats 2000000 in
theorem p_X6_recall_0 {X : zX} {E : zE} {p1 : Nat} {M' : zM} (C : zC X E cX6_recall 2 RX6 none 2) (hp1 : zmp p1) {M : zM} (h : f_X6_recall_0 p1 M = some M') : zW X E (zRQ X E none M') M 0 [(0, .ref (E.2.1 9)), (1, .ref (E.2.1 p1))] [] := by
  have h : (if (M.1 9 2) ≤ 0 then (some M) else (zg (zin ((((zs M 9 2 ((M.1 9 2) - (1 : Int32))).1 9 1) + ((zs M 9 2 ((M.1 9 2) - (1 : Int32))).1 9 2)) - (((zs M 9 2 ((M.1 9 2) - (1 : Int32))).1 9 1) + ((zs M 9 2 ((M.1 9 2) - (1 : Int32))).1 9 2)) / (10 : Int32) * (10 : Int32)) 10) (zbv (f_X5_copy (zs M 9 2 ((M.1 9 2) - (1 : Int32))) p1 (49 + 6 * ((((zs M 9 2 ((M.1 9 2) - (1 : Int32))).1 9 1) + ((zs M 9 2 ((M.1 9 2) - (1 : Int32))).1 9 2)) - (((zs M 9 2 ((M.1 9 2) - (1 : Int32))).1 9 1) + ((zs M 9 2 ((M.1 9 2) - (1 : Int32))).1 9 2)) / (10 : Int32) * (10 : Int32)).toNatClampNeg)) (fun M6 => some M6)))) = some M' := h
  refine zw_aload_n C 0 rfl dX6_recall_0 rfl ?_
  refine zw_get (v := .int (M.1 9 2)) C (by decide) (zc_9 E) rfl zin_X6 2 (by decide) gw_1_145 rfl dX6_recall_1 ?_
  refine zw_if_le (tgt := 38) C dX6_recall_4 (by decide) (fun hb1 => ?_) (fun hb1 => ?_)
  · have h := zt_ hb1 h
    exact zw_returnE C h dX6_recall_38
  · have h := zf_ hb1 h
    refine zw_aload_n C 0 rfl dX6_recall_7 rfl ?_
    refine zw_dup C rfl dX6_recall_8 ?_
    refine zw_get (v := .int (M.1 9 2)) C (by decide) (zc_9 E) rfl zin_X6 2 (by decide) gw_1_145 rfl dX6_recall_9 ?_
    refine zw_iconst (v := (1 : Int32)) C dX6_recall_12 ct_i_1 ?_
    refine zw_isub C dX6_recall_13 ?_
    refine zw_put (ty := .int) C (by decide) (zc_9 E) rfl zin_X6 tyX6 tyX6_ok nmX6 2 (by decide) gw_1_145 rfl rfl rfl rfl (fun _ _ => Nat.le_of_ble_eq_true rfl) (fun _ _ => rfl) dX6_recall_14 ?_
    refine zw_aload_n C 1 rfl dX6_recall_17 rfl ?_
    refine zw_aload_n C 0 rfl dX6_recall_18 rfl ?_
    refine zw_get (v := .ref (E.2.1 10)) C (by decide) (zc_9 E) rfl zin_X6 0 (by decide) gw_1_143 rfl dX6_recall_19 ?_
    refine zw_aload_n C 0 rfl dX6_recall_22 rfl ?_
    refine zw_get (v := .int ((zs M 9 2 ((M.1 9 2) - (1 : Int32))).1 9 1)) C (by decide) (zc_9 E) rfl zin_X6 1 (by decide) gw_1_144 rfl dX6_recall_23 ?_
    refine zw_aload_n C 0 rfl dX6_recall_26 rfl ?_
    refine zw_get (v := .int ((zs M 9 2 ((M.1 9 2) - (1 : Int32))).1 9 2)) C (by decide) (zc_9 E) rfl zin_X6 2 (by decide) gw_1_145 rfl dX6_recall_27 ?_
    refine zw_iadd C dX6_recall_30 ?_
    refine zw_bipush (v := (10 : Int32)) C dX6_recall_31 ct_b_10 ?_
    refine zw_irem C (by decide) dX6_recall_33 ?_
    obtain ⟨hi3, h⟩ := zg_e h
    refine zw_aald C zqa_10 (zin_e hi3) dX6_recall_34 ?_
    have hi3l := zin_lt hi3
    obtain ⟨M6, hq4, h⟩ := zbv_e h
    refine zw_callVv (As := [.ref (E.2.1 (49 + 6 * ((((zs M 9 2 ((M.1 9 2) - (1 : Int32))).1 9 1) + ((zs M 9 2 ((M.1 9 2) - (1 : Int32))).1 9 2)) - (((zs M 9 2 ((M.1 9 2) - (1 : Int32))).1 9 1) + ((zs M 9 2 ((M.1 9 2) - (1 : Int32))).1 9 2)) / (10 : Int32) * (10 : Int32)).toNatClampNeg))]) (st := []) C (m_X5_copy C.2.2.2.2.2.2.2.1 hp1 (zmp_past hi3l) hq4) kv_X5_copy gw_3_4 (by decide) hp1.lt (hp1.c E) rfl rfl rfl rfl (Nat.le_of_ble_eq_true rfl) dX6_recall_35 ?_
    exact zw_returnE C h dX6_recall_38
def f_X6_recall (M : zM) (p1 : Nat) : Option zM := f_X6_recall_0 p1 M
theorem m_X6_recall {l : Launch} {E : zE} (hI : zI E) {M M' : zM} {p1 : Nat} (hp1 : zmp p1) (h : f_X6_recall M p1 = some M') : zMet l E yX6_recall cX6_recall 2 none 2 [.ref (E.2.1 9), .ref (E.2.1 p1)] M M' none := zm_of hI (by decide) (Nat.le_of_ble_eq_true rfl) (fun X _ C => p_X6_recall_0 C hp1 h)
theorem kv_X6_recall : zKV yX6_recall cX6_recall 2 none 1 := ⟨⟨gw_3_39, gw_3_40, gw_1_5, gw_3_41⟩, ⟨by decide, by decide, by decide +kernel⟩, by decide⟩
-- WingDoor$Text.add(I)Z, 20 instructions, depth 0
def f_X10_add_0 (x1 : Int32) (M : zM) : Option (Int32 × zM) := if (M.1 1 1) < (100 : Int32) then (zg (zin (M.1 1 1) 100) (some ((1 : Int32), zs (zs M 2 (M.1 1 1).toNatClampNeg x1) 1 1 (((zs M 2 (M.1 1 1).toNatClampNeg x1).1 1 1) + (1 : Int32))))) else (some ((0 : Int32), M))
set_option maxRecDepth 20000 in
set_option maxHeartbeats 2000000 in
theorem p_X10_add_0 {X : zX} {E : zE} {x1 : Int32} {r : Int32} {M' : zM} (C : zC X E cX10_add 2 RX10 (some .boolean) 0) {M : zM} (h : f_X10_add_0 x1 M = some (r, M')) : zW X E (zRQ X E (some (.int r)) M') M 0 [(0, .ref (E.2.1 1)), (1, .int x1)] [] := by
  have h : (if (M.1 1 1) < (100 : Int32) then (zg (zin (M.1 1 1) 100) (some ((1 : Int32), zs (zs M 2 (M.1 1 1).toNatClampNeg x1) 1 1 (((zs M 2 (M.1 1 1).toNatClampNeg x1).1 1 1) + (1 : Int32))))) else (some ((0 : Int32), M))) = some (r, M') := h
  refine zw_aload_n C 0 rfl dX10_add_0 rfl ?_
  refine zw_get (v := .int (M.1 1 1)) C (by decide) (zc_1 E) rfl zin_X10 1 (by decide) gw_1_33 rfl dX10_add_1 ?_
  refine zw_bipush (v := (100 : Int32)) C dX10_add_4 ct_b_100 ?_
  refine zw_icmp_lt (tgt := 11) C dX10_add_6 (by decide) (fun hb1 => ?_) (fun hb1 => ?_)
  · have h := zt_ hb1 h
    refine zw_aload_n C 0 rfl dX10_add_11 rfl ?_
    refine zw_get (v := .ref (E.2.1 2)) C (by decide) (zc_1 E) rfl zin_X10 0 (by decide) gw_1_32 rfl dX10_add_12 ?_
    refine zw_aload_n C 0 rfl dX10_add_15 rfl ?_
    refine zw_get (v := .int (M.1 1 1)) C (by decide) (zc_1 E) rfl zin_X10 1 (by decide) gw_1_33 rfl dX10_add_16 ?_
    refine zw_iload_n C 1 rfl dX10_add_19 rfl ?_
    obtain ⟨hi2, h⟩ := zg_e h
    refine zw_iast C zia_2 (zin_e hi2) dX10_add_20 ?_
    refine zw_aload_n C 0 rfl dX10_add_21 rfl ?_
    refine zw_dup C rfl dX10_add_22 ?_
    refine zw_get (v := .int ((zs M 2 (M.1 1 1).toNatClampNeg x1).1 1 1)) C (by decide) (zc_1 E) rfl zin_X10 1 (by decide) gw_1_33 rfl dX10_add_23 ?_
    refine zw_iconst (v := (1 : Int32)) C dX10_add_26 ct_i_1 ?_
    refine zw_iadd C dX10_add_27 ?_
    refine zw_put (ty := .int) C (by decide) (zc_1 E) rfl zin_X10 tyX10 tyX10_ok nmX10 1 (by decide) gw_1_33 rfl rfl rfl rfl (fun _ _ => Nat.le_of_ble_eq_true rfl) (fun _ _ => rfl) dX10_add_28 ?_
    refine zw_iconst (v := (1 : Int32)) C dX10_add_31 ct_i_1 ?_
    exact zw_zreturnE C rfl h dX10_add_32
  · have h := zf_ hb1 h
    refine zw_iconst (v := (0 : Int32)) C dX10_add_9 ct_i_0 ?_
    exact zw_zreturnE C rfl h dX10_add_10
def f_X10_add (M : zM) (x1 : Int32) : Option (Int32 × zM) := f_X10_add_0 x1 M
theorem m_X10_add {l : Launch} {E : zE} (hI : zI E) {M M' : zM} {x1 : Int32} {r : Int32} (h : f_X10_add M x1 = some (r, M')) : zMet l E yX10_add cX10_add 2 (some .boolean) 0 [.ref (E.2.1 1), .int x1] M M' (some (.int r)) := zm_of hI (by decide) (Nat.le_of_ble_eq_true rfl) (fun X _ C => p_X10_add_0 C h)
theorem kv_X10_add : zKV yX10_add cX10_add 2 (some .boolean) 1 := ⟨⟨gw_2_40, gw_2_41, gw_1_2, gw_2_42⟩, ⟨by decide, by decide, by decide +kernel⟩, by decide⟩
-- WingDoor$Text.readDigits()V, 81 instructions, depth 0
def f_X10_readDigits_85 (k5 : zM → Option zM) (M : zM) (s0 : Int32) : Option zM := k5 (zs (zs M 1 5 s0) 1 2 (((zs M 1 5 s0).1 1 2) + (1 : Int32)))
set_option maxRecDepth 20000 in
set_option maxHeartbeats 2000000 in
theorem p_X10_readDigits_85 {X : zX} {E : zE} {M' : zM} {k5 : zM → Option zM} (C : zC X E cX10_readDigits 3 RX10 none 0) (hk5 : ∀ (M : zM), k5 M = some M' → zW X E (zRQ X E none M') M 5 [(0, .ref (E.2.1 1))] []) {M : zM} {s0 : Int32} (h : f_X10_readDigits_85 k5 M s0 = some M') : zW X E (zRQ X E none M') M 85 [(0, .ref (E.2.1 1))] [.int s0, .ref (E.2.1 1)] := by
  have h : (k5 (zs (zs M 1 5 s0) 1 2 (((zs M 1 5 s0).1 1 2) + (1 : Int32)))) = some M' := h
  refine zw_put (ty := .int) C (by decide) (zc_1 E) rfl zin_X10 tyX10 tyX10_ok nmX10 5 (by decide) gw_1_38 rfl rfl rfl rfl (fun _ _ => Nat.le_of_ble_eq_true rfl) (fun _ _ => rfl) dX10_readDigits_85 ?_
  refine zw_aload_n C 0 rfl dX10_readDigits_88 rfl ?_
  refine zw_dup C rfl dX10_readDigits_89 ?_
  refine zw_get (v := .int ((zs M 1 5 s0).1 1 2)) C (by decide) (zc_1 E) rfl zin_X10 2 (by decide) gw_1_35 rfl dX10_readDigits_90 ?_
  refine zw_iconst (v := (1 : Int32)) C dX10_readDigits_93 ct_i_1 ?_
  refine zw_iadd C dX10_readDigits_94 ?_
  refine zw_put (ty := .int) C (by decide) (zc_1 E) rfl zin_X10 tyX10 tyX10_ok nmX10 2 (by decide) gw_1_35 rfl rfl rfl rfl (fun _ _ => Nat.le_of_ble_eq_true rfl) (fun _ _ => rfl) dX10_readDigits_95 ?_
  refine zw_goto (tgt := 5) C dX10_readDigits_98 (by decide) ?_
  exact hk5 _ h
def f_X10_readDigits_148 (M : zM) (s0 : Int32) : Option zM := some (zs M 1 3 s0)
set_option maxRecDepth 20000 in
set_option maxHeartbeats 2000000 in
theorem p_X10_readDigits_148 {X : zX} {E : zE} {M' : zM} (C : zC X E cX10_readDigits 3 RX10 none 0) {M : zM} {s0 : Int32} (h : f_X10_readDigits_148  M s0 = some M') : zW X E (zRQ X E none M') M 148 [(0, .ref (E.2.1 1))] [.int s0, .ref (E.2.1 1)] := by
  have h : (some (zs M 1 3 s0)) = some M' := h
  refine zw_put (ty := .int) C (by decide) (zc_1 E) rfl zin_X10 tyX10 tyX10_ok nmX10 3 (by decide) gw_1_36 rfl rfl rfl rfl (fun _ _ => Nat.le_of_ble_eq_true rfl) (fun _ _ => rfl) dX10_readDigits_148 ?_
  exact zw_returnE C h dX10_readDigits_151
def f_X10_readDigits_130 (M : zM) (x1 : Int32) (s0 : Int32) : Option zM := if (2 : Int32) < x1 then (f_X10_readDigits_148 M (-3 : Int32)) else (if s0 = 0 then (f_X10_readDigits_148 M (-2 : Int32)) else (f_X10_readDigits_148 M (-3 : Int32)))
set_option maxRecDepth 20000 in
set_option maxHeartbeats 2000000 in
theorem p_X10_readDigits_130 {X : zX} {E : zE} {M' : zM} (C : zC X E cX10_readDigits 3 RX10 none 0) {M : zM} {x1 : Int32} {s0 : Int32} (h : f_X10_readDigits_130  M x1 s0 = some M') : zW X E (zRQ X E none M') M 130 [(0, .ref (E.2.1 1)), (1, .int x1)] [.int s0] := by
  have h : (if (2 : Int32) < x1 then (f_X10_readDigits_148 M (-3 : Int32)) else (if s0 = 0 then (f_X10_readDigits_148 M (-2 : Int32)) else (f_X10_readDigits_148 M (-3 : Int32)))) = some M' := h
  refine zw_istore_n (lv' := [(2, .int s0), (0, .ref (E.2.1 1)), (1, .int x1)]) C dX10_readDigits_130 rfl (by decide) rfl ?_
  refine zw_aload_n C 1 rfl dX10_readDigits_131 rfl ?_
  refine zw_iload_n C 2 rfl dX10_readDigits_132 rfl ?_
  refine zw_iconst (v := (2 : Int32)) C dX10_readDigits_133 ct_i_2 ?_
  refine zw_icmp_gt (tgt := 141) C dX10_readDigits_134 (by decide) (fun hb1 => ?_) (fun hb1 => ?_)
  · have h := zt_ hb1 h
    refine zw_bipush (v := (-3 : Int32)) C dX10_readDigits_141 ct_b_m3 ?_
    refine zw_goto (tgt := 148) C dX10_readDigits_143 (by decide) ?_
    refine zw_sb [1] rfl ?_
    exact p_X10_readDigits_148 C h
  · have h := zf_ hb1 h
    refine zw_iload_n C 0 rfl dX10_readDigits_137 rfl ?_
    refine zw_if_eq (tgt := 146) C dX10_readDigits_138 (by decide) (fun hb2 => ?_) (fun hb2 => ?_)
    · have h := zt_ hb2 h
      refine zw_bipush (v := (-2 : Int32)) C dX10_readDigits_146 ct_b_m2 ?_
      refine zw_sb [1] rfl ?_
      exact p_X10_readDigits_148 C h
    · have h := zf_ hb2 h
      refine zw_bipush (v := (-3 : Int32)) C dX10_readDigits_141 ct_b_m3 ?_
      refine zw_goto (tgt := 148) C dX10_readDigits_143 (by decide) ?_
      refine zw_sb [1] rfl ?_
      exact p_X10_readDigits_148 C h
def f_X10_readDigits_101 (M : zM) : Option zM := if ((M.1 1 2) - (M.1 1 4)) ≤ (1 : Int32) then (f_X10_readDigits_130 M ((M.1 1 2) - (M.1 1 4)) (0 : Int32)) else (if (10 : Int32) ≤ (M.1 1 5) then (f_X10_readDigits_130 M ((M.1 1 2) - (M.1 1 4)) (0 : Int32)) else (f_X10_readDigits_130 M ((M.1 1 2) - (M.1 1 4)) (1 : Int32)))
set_option maxRecDepth 20000 in
set_option maxHeartbeats 2000000 in
theorem p_X10_readDigits_101 {X : zX} {E : zE} {M' : zM} (C : zC X E cX10_readDigits 3 RX10 none 0) {M : zM} (h : f_X10_readDigits_101  M = some M') : zW X E (zRQ X E none M') M 101 [(0, .ref (E.2.1 1))] [] := by
  have h : (if ((M.1 1 2) - (M.1 1 4)) ≤ (1 : Int32) then (f_X10_readDigits_130 M ((M.1 1 2) - (M.1 1 4)) (0 : Int32)) else (if (10 : Int32) ≤ (M.1 1 5) then (f_X10_readDigits_130 M ((M.1 1 2) - (M.1 1 4)) (0 : Int32)) else (f_X10_readDigits_130 M ((M.1 1 2) - (M.1 1 4)) (1 : Int32)))) = some M' := h
  refine zw_aload_n C 0 rfl dX10_readDigits_101 rfl ?_
  refine zw_get (v := .int (M.1 1 2)) C (by decide) (zc_1 E) rfl zin_X10 2 (by decide) gw_1_35 rfl dX10_readDigits_102 ?_
  refine zw_aload_n C 0 rfl dX10_readDigits_105 rfl ?_
  refine zw_get (v := .int (M.1 1 4)) C (by decide) (zc_1 E) rfl zin_X10 4 (by decide) gw_1_37 rfl dX10_readDigits_106 ?_
  refine zw_isub C dX10_readDigits_109 ?_
  refine zw_istore_n (lv' := [(1, .int ((M.1 1 2) - (M.1 1 4))), (0, .ref (E.2.1 1))]) C dX10_readDigits_110 rfl (by decide) rfl ?_
  refine zw_iload_n C 0 rfl dX10_readDigits_111 rfl ?_
  refine zw_iconst (v := (1 : Int32)) C dX10_readDigits_112 ct_i_1 ?_
  refine zw_icmp_le (tgt := 129) C dX10_readDigits_113 (by decide) (fun hb1 => ?_) (fun hb1 => ?_)
  · have h := zt_ hb1 h
    refine zw_iconst (v := (0 : Int32)) C dX10_readDigits_129 ct_i_0 ?_
    refine zw_sb [1, 0] rfl ?_
    exact p_X10_readDigits_130 C h
  · have h := zf_ hb1 h
    refine zw_aload_n C 1 rfl dX10_readDigits_116 rfl ?_
    refine zw_get (v := .int (M.1 1 5)) C (by decide) (zc_1 E) rfl zin_X10 5 (by decide) gw_1_38 rfl dX10_readDigits_117 ?_
    refine zw_bipush (v := (10 : Int32)) C dX10_readDigits_120 ct_b_10 ?_
    refine zw_icmp_ge (tgt := 129) C dX10_readDigits_122 (by decide) (fun hb2 => ?_) (fun hb2 => ?_)
    · have h := zt_ hb2 h
      refine zw_iconst (v := (0 : Int32)) C dX10_readDigits_129 ct_i_0 ?_
      refine zw_sb [1, 0] rfl ?_
      exact p_X10_readDigits_130 C h
    · have h := zf_ hb2 h
      refine zw_iconst (v := (1 : Int32)) C dX10_readDigits_125 ct_i_1 ?_
      refine zw_goto (tgt := 130) C dX10_readDigits_126 (by decide) ?_
      refine zw_sb [1, 0] rfl ?_
      exact p_X10_readDigits_130 C h
def f_X10_readDigits_5 : Nat → zM → Option zM
  | 0, _ => none
  | n + 1, M => if (M.1 1 1) ≤ (M.1 1 2) then (f_X10_readDigits_101 M) else (zg (zin (M.1 1 2) 100) (if (M.1 2 (M.1 1 2).toNatClampNeg) < (48 : Int32) then (f_X10_readDigits_101 M) else (zg (zin (M.1 1 2) 100) (if (57 : Int32) < (M.1 2 (M.1 1 2).toNatClampNeg) then (f_X10_readDigits_101 M) else (if (2 : Int32) ≤ ((M.1 1 2) - (M.1 1 4)) then (f_X10_readDigits_85 (f_X10_readDigits_5 n) M (M.1 1 5)) else (zg (zin (M.1 1 2) 100) (f_X10_readDigits_85 (f_X10_readDigits_5 n) M ((((M.1 1 5) * (10 : Int32)) + (M.1 2 (M.1 1 2).toNatClampNeg)) - (48 : Int32)))))))))
set_option maxRecDepth 20000 in
set_option maxHeartbeats 2000000 in
theorem p_X10_readDigits_5 {X : zX} {E : zE} {M' : zM} (C : zC X E cX10_readDigits 3 RX10 none 0) : ∀ (n : Nat) (M : zM), f_X10_readDigits_5  n M = some M' → zW X E (zRQ X E none M') M 5 [(0, .ref (E.2.1 1))] [] := by
  intro n
  induction n with
  | zero => intro M h; cases h
  | succ n ih =>
    intro M h
    have h : (if (M.1 1 1) ≤ (M.1 1 2) then (f_X10_readDigits_101 M) else (zg (zin (M.1 1 2) 100) (if (M.1 2 (M.1 1 2).toNatClampNeg) < (48 : Int32) then (f_X10_readDigits_101 M) else (zg (zin (M.1 1 2) 100) (if (57 : Int32) < (M.1 2 (M.1 1 2).toNatClampNeg) then (f_X10_readDigits_101 M) else (if (2 : Int32) ≤ ((M.1 1 2) - (M.1 1 4)) then (f_X10_readDigits_85 (f_X10_readDigits_5 n) M (M.1 1 5)) else (zg (zin (M.1 1 2) 100) (f_X10_readDigits_85 (f_X10_readDigits_5 n) M ((((M.1 1 5) * (10 : Int32)) + (M.1 2 (M.1 1 2).toNatClampNeg)) - (48 : Int32)))))))))) = some M' := h
    refine zw_aload_n C 0 rfl dX10_readDigits_5 rfl ?_
    refine zw_get (v := .int (M.1 1 2)) C (by decide) (zc_1 E) rfl zin_X10 2 (by decide) gw_1_35 rfl dX10_readDigits_6 ?_
    refine zw_aload_n C 0 rfl dX10_readDigits_9 rfl ?_
    refine zw_get (v := .int (M.1 1 1)) C (by decide) (zc_1 E) rfl zin_X10 1 (by decide) gw_1_33 rfl dX10_readDigits_10 ?_
    refine zw_icmp_ge (tgt := 101) C dX10_readDigits_13 (by decide) (fun hb1 => ?_) (fun hb1 => ?_)
    · have h := zt_ hb1 h
      exact p_X10_readDigits_101 C h
    · have h := zf_ hb1 h
      refine zw_aload_n C 0 rfl dX10_readDigits_16 rfl ?_
      refine zw_get (v := .ref (E.2.1 2)) C (by decide) (zc_1 E) rfl zin_X10 0 (by decide) gw_1_32 rfl dX10_readDigits_17 ?_
      refine zw_aload_n C 0 rfl dX10_readDigits_20 rfl ?_
      refine zw_get (v := .int (M.1 1 2)) C (by decide) (zc_1 E) rfl zin_X10 2 (by decide) gw_1_35 rfl dX10_readDigits_21 ?_
      obtain ⟨hi2, h⟩ := zg_e h
      refine zw_iald C zia_2 (zin_e hi2) dX10_readDigits_24 ?_
      refine zw_bipush (v := (48 : Int32)) C dX10_readDigits_25 ct_b_48 ?_
      refine zw_icmp_lt (tgt := 101) C dX10_readDigits_27 (by decide) (fun hb3 => ?_) (fun hb3 => ?_)
      · have h := zt_ hb3 h
        exact p_X10_readDigits_101 C h
      · have h := zf_ hb3 h
        refine zw_aload_n C 0 rfl dX10_readDigits_30 rfl ?_
        refine zw_get (v := .ref (E.2.1 2)) C (by decide) (zc_1 E) rfl zin_X10 0 (by decide) gw_1_32 rfl dX10_readDigits_31 ?_
        refine zw_aload_n C 0 rfl dX10_readDigits_34 rfl ?_
        refine zw_get (v := .int (M.1 1 2)) C (by decide) (zc_1 E) rfl zin_X10 2 (by decide) gw_1_35 rfl dX10_readDigits_35 ?_
        obtain ⟨hi4, h⟩ := zg_e h
        refine zw_iald C zia_2 (zin_e hi4) dX10_readDigits_38 ?_
        refine zw_bipush (v := (57 : Int32)) C dX10_readDigits_39 ct_b_57 ?_
        refine zw_icmp_gt (tgt := 101) C dX10_readDigits_41 (by decide) (fun hb5 => ?_) (fun hb5 => ?_)
        · have h := zt_ hb5 h
          exact p_X10_readDigits_101 C h
        · have h := zf_ hb5 h
          refine zw_aload_n C 0 rfl dX10_readDigits_44 rfl ?_
          refine zw_aload_n C 0 rfl dX10_readDigits_45 rfl ?_
          refine zw_get (v := .int (M.1 1 2)) C (by decide) (zc_1 E) rfl zin_X10 2 (by decide) gw_1_35 rfl dX10_readDigits_46 ?_
          refine zw_aload_n C 0 rfl dX10_readDigits_49 rfl ?_
          refine zw_get (v := .int (M.1 1 4)) C (by decide) (zc_1 E) rfl zin_X10 4 (by decide) gw_1_37 rfl dX10_readDigits_50 ?_
          refine zw_isub C dX10_readDigits_53 ?_
          refine zw_iconst (v := (2 : Int32)) C dX10_readDigits_54 ct_i_2 ?_
          refine zw_icmp_ge (tgt := 81) C dX10_readDigits_55 (by decide) (fun hb6 => ?_) (fun hb6 => ?_)
          · have h := zt_ hb6 h
            refine zw_aload_n C 0 rfl dX10_readDigits_81 rfl ?_
            refine zw_get (v := .int (M.1 1 5)) C (by decide) (zc_1 E) rfl zin_X10 5 (by decide) gw_1_38 rfl dX10_readDigits_82 ?_
            exact p_X10_readDigits_85 C (fun _ h => ih _ h) h
          · have h := zf_ hb6 h
            refine zw_aload_n C 0 rfl dX10_readDigits_58 rfl ?_
            refine zw_get (v := .int (M.1 1 5)) C (by decide) (zc_1 E) rfl zin_X10 5 (by decide) gw_1_38 rfl dX10_readDigits_59 ?_
            refine zw_bipush (v := (10 : Int32)) C dX10_readDigits_62 ct_b_10 ?_
            refine zw_imul C dX10_readDigits_64 ?_
            refine zw_aload_n C 0 rfl dX10_readDigits_65 rfl ?_
            refine zw_get (v := .ref (E.2.1 2)) C (by decide) (zc_1 E) rfl zin_X10 0 (by decide) gw_1_32 rfl dX10_readDigits_66 ?_
            refine zw_aload_n C 0 rfl dX10_readDigits_69 rfl ?_
            refine zw_get (v := .int (M.1 1 2)) C (by decide) (zc_1 E) rfl zin_X10 2 (by decide) gw_1_35 rfl dX10_readDigits_70 ?_
            obtain ⟨hi7, h⟩ := zg_e h
            refine zw_iald C zia_2 (zin_e hi7) dX10_readDigits_73 ?_
            refine zw_iadd C dX10_readDigits_74 ?_
            refine zw_bipush (v := (48 : Int32)) C dX10_readDigits_75 ct_b_48 ?_
            refine zw_isub C dX10_readDigits_77 ?_
            refine zw_goto (tgt := 85) C dX10_readDigits_78 (by decide) ?_
            exact p_X10_readDigits_85 C (fun _ h => ih _ h) h
def f_X10_readDigits_0 (M : zM) : Option zM := f_X10_readDigits_5 zFU (zs M 1 5 (0 : Int32))
set_option maxRecDepth 20000 in
set_option maxHeartbeats 2000000 in
theorem p_X10_readDigits_0 {X : zX} {E : zE} {M' : zM} (C : zC X E cX10_readDigits 3 RX10 none 0) {M : zM} (h : f_X10_readDigits_0  M = some M') : zW X E (zRQ X E none M') M 0 [(0, .ref (E.2.1 1))] [] := by
  have h : (f_X10_readDigits_5 zFU (zs M 1 5 (0 : Int32))) = some M' := h
  refine zw_aload_n C 0 rfl dX10_readDigits_0 rfl ?_
  refine zw_iconst (v := (0 : Int32)) C dX10_readDigits_1 ct_i_0 ?_
  refine zw_put (ty := .int) C (by decide) (zc_1 E) rfl zin_X10 tyX10 tyX10_ok nmX10 5 (by decide) gw_1_38 rfl rfl rfl rfl (fun _ _ => Nat.le_of_ble_eq_true rfl) (fun _ _ => rfl) dX10_readDigits_2 ?_
  exact p_X10_readDigits_5 C zFU _ h
def f_X10_readDigits (M : zM) : Option zM := f_X10_readDigits_0 M
theorem m_X10_readDigits {l : Launch} {E : zE} (hI : zI E) {M M' : zM} (h : f_X10_readDigits M = some M') : zMet l E yX10_readDigits cX10_readDigits 3 none 0 [.ref (E.2.1 1)] M M' none := zm_of hI (by decide) (Nat.le_of_ble_eq_true rfl) (fun X _ C => p_X10_readDigits_0 C h)
theorem kv_X10_readDigits : zKV yX10_readDigits cX10_readDigits 3 none 0 := ⟨⟨gw_2_62, gs_1, gw_1_2, gw_2_63⟩, ⟨by decide, by decide, by decide +kernel⟩, by decide⟩
-- WingDoor$Text.readToken()V, 71 instructions, depth 1
def f_X10_readToken_123 (M : zM) (s0 : Int32) : Option zM := some (zs (zs M 1 3 s0) 1 2 (((zs M 1 3 s0).1 1 2) + (1 : Int32)))
set_option maxRecDepth 20000 in
set_option maxHeartbeats 2000000 in
theorem p_X10_readToken_123 {X : zX} {E : zE} {M' : zM} (C : zC X E cX10_readToken 2 RX10 none 1) {M : zM} {s0 : Int32} (h : f_X10_readToken_123  M s0 = some M') : zW X E (zRQ X E none M') M 123 [(0, .ref (E.2.1 1))] [.int s0, .ref (E.2.1 1)] := by
  have h : (some (zs (zs M 1 3 s0) 1 2 (((zs M 1 3 s0).1 1 2) + (1 : Int32)))) = some M' := h
  refine zw_put (ty := .int) C (by decide) (zc_1 E) rfl zin_X10 tyX10 tyX10_ok nmX10 3 (by decide) gw_1_36 rfl rfl rfl rfl (fun _ _ => Nat.le_of_ble_eq_true rfl) (fun _ _ => rfl) dX10_readToken_123 ?_
  refine zw_aload_n C 0 rfl dX10_readToken_126 rfl ?_
  refine zw_dup C rfl dX10_readToken_127 ?_
  refine zw_get (v := .int ((zs M 1 3 s0).1 1 2)) C (by decide) (zc_1 E) rfl zin_X10 2 (by decide) gw_1_35 rfl dX10_readToken_128 ?_
  refine zw_iconst (v := (1 : Int32)) C dX10_readToken_131 ct_i_1 ?_
  refine zw_iadd C dX10_readToken_132 ?_
  refine zw_put (ty := .int) C (by decide) (zc_1 E) rfl zin_X10 tyX10 tyX10_ok nmX10 2 (by decide) gw_1_35 rfl rfl rfl rfl (fun _ _ => Nat.le_of_ble_eq_true rfl) (fun _ _ => rfl) dX10_readToken_133 ?_
  exact zw_returnE C h dX10_readToken_136
def f_X10_readToken_92 (M : zM) (x1 : Int32) : Option zM := if x1 = (114 : Int32) then (f_X10_readToken_123 M x1) else (if x1 = (104 : Int32) then (f_X10_readToken_123 M x1) else (if x1 = (115 : Int32) then (f_X10_readToken_123 M x1) else (if x1 = (59 : Int32) then (f_X10_readToken_123 M x1) else (f_X10_readToken_123 M (-3 : Int32)))))
set_option maxRecDepth 20000 in
set_option maxHeartbeats 2000000 in
theorem p_X10_readToken_92 {X : zX} {E : zE} {M' : zM} (C : zC X E cX10_readToken 2 RX10 none 1) {M : zM} {x1 : Int32} (h : f_X10_readToken_92  M x1 = some M') : zW X E (zRQ X E none M') M 92 [(0, .ref (E.2.1 1)), (1, .int x1)] [] := by
  have h : (if x1 = (114 : Int32) then (f_X10_readToken_123 M x1) else (if x1 = (104 : Int32) then (f_X10_readToken_123 M x1) else (if x1 = (115 : Int32) then (f_X10_readToken_123 M x1) else (if x1 = (59 : Int32) then (f_X10_readToken_123 M x1) else (f_X10_readToken_123 M (-3 : Int32)))))) = some M' := h
  refine zw_aload_n C 0 rfl dX10_readToken_92 rfl ?_
  refine zw_iload_n C 1 rfl dX10_readToken_93 rfl ?_
  refine zw_bipush (v := (114 : Int32)) C dX10_readToken_94 ct_b_114 ?_
  refine zw_icmp_eq (tgt := 117) C dX10_readToken_96 (by decide) (fun hb1 => ?_) (fun hb1 => ?_)
  · have h := zt_ hb1 h
    refine zw_iload_n C 1 rfl dX10_readToken_117 rfl ?_
    refine zw_goto (tgt := 123) C dX10_readToken_118 (by decide) ?_
    refine zw_sb [0] rfl ?_
    exact p_X10_readToken_123 C h
  · have h := zf_ hb1 h
    refine zw_iload_n C 1 rfl dX10_readToken_99 rfl ?_
    refine zw_bipush (v := (104 : Int32)) C dX10_readToken_100 ct_b_104 ?_
    refine zw_icmp_eq (tgt := 117) C dX10_readToken_102 (by decide) (fun hb2 => ?_) (fun hb2 => ?_)
    · have h := zt_ hb2 h
      refine zw_iload_n C 1 rfl dX10_readToken_117 rfl ?_
      refine zw_goto (tgt := 123) C dX10_readToken_118 (by decide) ?_
      refine zw_sb [0] rfl ?_
      exact p_X10_readToken_123 C h
    · have h := zf_ hb2 h
      refine zw_iload_n C 1 rfl dX10_readToken_105 rfl ?_
      refine zw_bipush (v := (115 : Int32)) C dX10_readToken_106 ct_b_115 ?_
      refine zw_icmp_eq (tgt := 117) C dX10_readToken_108 (by decide) (fun hb3 => ?_) (fun hb3 => ?_)
      · have h := zt_ hb3 h
        refine zw_iload_n C 1 rfl dX10_readToken_117 rfl ?_
        refine zw_goto (tgt := 123) C dX10_readToken_118 (by decide) ?_
        refine zw_sb [0] rfl ?_
        exact p_X10_readToken_123 C h
      · have h := zf_ hb3 h
        refine zw_iload_n C 1 rfl dX10_readToken_111 rfl ?_
        refine zw_bipush (v := (59 : Int32)) C dX10_readToken_112 ct_b_59 ?_
        refine zw_icmp_ne (tgt := 121) C dX10_readToken_114 (by decide) (fun hb4 => ?_) (fun hb4 => ?_)
        · have h := zt_ hb4 h
          refine zw_iload_n C 1 rfl dX10_readToken_117 rfl ?_
          refine zw_goto (tgt := 123) C dX10_readToken_118 (by decide) ?_
          refine zw_sb [0] rfl ?_
          exact p_X10_readToken_123 C h
        · have h := zf_ hb4 h
          refine zw_bipush (v := (-3 : Int32)) C dX10_readToken_121 ct_b_m3 ?_
          refine zw_sb [0] rfl ?_
          exact p_X10_readToken_123 C h
def f_X10_readToken_38 (M : zM) : Option zM := if ((zs M 1 4 (M.1 1 2)).1 1 2) < ((zs M 1 4 (M.1 1 2)).1 1 1) then (zg (zin ((zs M 1 4 (M.1 1 2)).1 1 2) 100) (if ((zs M 1 4 (M.1 1 2)).1 2 ((zs M 1 4 (M.1 1 2)).1 1 2).toNatClampNeg) < (48 : Int32) then (f_X10_readToken_92 (zs M 1 4 (M.1 1 2)) ((zs M 1 4 (M.1 1 2)).1 2 ((zs M 1 4 (M.1 1 2)).1 1 2).toNatClampNeg)) else (if (57 : Int32) < ((zs M 1 4 (M.1 1 2)).1 2 ((zs M 1 4 (M.1 1 2)).1 1 2).toNatClampNeg) then (f_X10_readToken_92 (zs M 1 4 (M.1 1 2)) ((zs M 1 4 (M.1 1 2)).1 2 ((zs M 1 4 (M.1 1 2)).1 1 2).toNatClampNeg)) else (zbv (f_X10_readDigits (zs M 1 4 (M.1 1 2))) (fun M7 => some M7))))) else (some (zs (zs M 1 4 (M.1 1 2)) 1 3 (-1 : Int32)))
set_option maxRecDepth 20000 in
set_option maxHeartbeats 2000000 in
theorem p_X10_readToken_38 {X : zX} {E : zE} {M' : zM} (C : zC X E cX10_readToken 2 RX10 none 1) {M : zM} (h : f_X10_readToken_38  M = some M') : zW X E (zRQ X E none M') M 38 [(0, .ref (E.2.1 1))] [] := by
  have h : (if ((zs M 1 4 (M.1 1 2)).1 1 2) < ((zs M 1 4 (M.1 1 2)).1 1 1) then (zg (zin ((zs M 1 4 (M.1 1 2)).1 1 2) 100) (if ((zs M 1 4 (M.1 1 2)).1 2 ((zs M 1 4 (M.1 1 2)).1 1 2).toNatClampNeg) < (48 : Int32) then (f_X10_readToken_92 (zs M 1 4 (M.1 1 2)) ((zs M 1 4 (M.1 1 2)).1 2 ((zs M 1 4 (M.1 1 2)).1 1 2).toNatClampNeg)) else (if (57 : Int32) < ((zs M 1 4 (M.1 1 2)).1 2 ((zs M 1 4 (M.1 1 2)).1 1 2).toNatClampNeg) then (f_X10_readToken_92 (zs M 1 4 (M.1 1 2)) ((zs M 1 4 (M.1 1 2)).1 2 ((zs M 1 4 (M.1 1 2)).1 1 2).toNatClampNeg)) else (zbv (f_X10_readDigits (zs M 1 4 (M.1 1 2))) (fun M7 => some M7))))) else (some (zs (zs M 1 4 (M.1 1 2)) 1 3 (-1 : Int32)))) = some M' := h
  refine zw_aload_n C 0 rfl dX10_readToken_38 rfl ?_
  refine zw_aload_n C 0 rfl dX10_readToken_39 rfl ?_
  refine zw_get (v := .int (M.1 1 2)) C (by decide) (zc_1 E) rfl zin_X10 2 (by decide) gw_1_35 rfl dX10_readToken_40 ?_
  refine zw_put (ty := .int) C (by decide) (zc_1 E) rfl zin_X10 tyX10 tyX10_ok nmX10 4 (by decide) gw_1_37 rfl rfl rfl rfl (fun _ _ => Nat.le_of_ble_eq_true rfl) (fun _ _ => rfl) dX10_readToken_43 ?_
  refine zw_aload_n C 0 rfl dX10_readToken_46 rfl ?_
  refine zw_get (v := .int ((zs M 1 4 (M.1 1 2)).1 1 2)) C (by decide) (zc_1 E) rfl zin_X10 2 (by decide) gw_1_35 rfl dX10_readToken_47 ?_
  refine zw_aload_n C 0 rfl dX10_readToken_50 rfl ?_
  refine zw_get (v := .int ((zs M 1 4 (M.1 1 2)).1 1 1)) C (by decide) (zc_1 E) rfl zin_X10 1 (by decide) gw_1_33 rfl dX10_readToken_51 ?_
  refine zw_icmp_lt (tgt := 63) C dX10_readToken_54 (by decide) (fun hb1 => ?_) (fun hb1 => ?_)
  · have h := zt_ hb1 h
    refine zw_aload_n C 0 rfl dX10_readToken_63 rfl ?_
    refine zw_get (v := .ref (E.2.1 2)) C (by decide) (zc_1 E) rfl zin_X10 0 (by decide) gw_1_32 rfl dX10_readToken_64 ?_
    refine zw_aload_n C 0 rfl dX10_readToken_67 rfl ?_
    refine zw_get (v := .int ((zs M 1 4 (M.1 1 2)).1 1 2)) C (by decide) (zc_1 E) rfl zin_X10 2 (by decide) gw_1_35 rfl dX10_readToken_68 ?_
    obtain ⟨hi2, h⟩ := zg_e h
    refine zw_iald C zia_2 (zin_e hi2) dX10_readToken_71 ?_
    refine zw_istore_n (lv' := [(1, .int ((zs M 1 4 (M.1 1 2)).1 2 ((zs M 1 4 (M.1 1 2)).1 1 2).toNatClampNeg)), (0, .ref (E.2.1 1))]) C dX10_readToken_72 rfl (by decide) rfl ?_
    refine zw_iload_n C 0 rfl dX10_readToken_73 rfl ?_
    refine zw_bipush (v := (48 : Int32)) C dX10_readToken_74 ct_b_48 ?_
    refine zw_icmp_lt (tgt := 92) C dX10_readToken_76 (by decide) (fun hb3 => ?_) (fun hb3 => ?_)
    · have h := zt_ hb3 h
      refine zw_sb [1, 0] rfl ?_
      exact p_X10_readToken_92 C h
    · have h := zf_ hb3 h
      refine zw_iload_n C 0 rfl dX10_readToken_79 rfl ?_
      refine zw_bipush (v := (57 : Int32)) C dX10_readToken_80 ct_b_57 ?_
      refine zw_icmp_gt (tgt := 92) C dX10_readToken_82 (by decide) (fun hb4 => ?_) (fun hb4 => ?_)
      · have h := zt_ hb4 h
        refine zw_sb [1, 0] rfl ?_
        exact p_X10_readToken_92 C h
      · have h := zf_ hb4 h
        refine zw_aload_n C 1 rfl dX10_readToken_85 rfl ?_
        obtain ⟨M7, hq5, h⟩ := zbv_e h
        refine zw_callVv (As := []) (st := []) C (m_X10_readDigits C.2.2.2.2.2.2.2.1 hq5) kv_X10_readDigits gw_2_60 (by decide) (by decide) (zc_1 E) rfl rfl rfl rfl (Nat.le_of_ble_eq_true rfl) dX10_readToken_86 ?_
        refine zw_goto (tgt := 136) C dX10_readToken_89 (by decide) ?_
        exact zw_returnE C h dX10_readToken_136
  · have h := zf_ hb1 h
    refine zw_aload_n C 0 rfl dX10_readToken_57 rfl ?_
    refine zw_iconst (v := (-1 : Int32)) C dX10_readToken_58 ct_i_m1 ?_
    refine zw_put (ty := .int) C (by decide) (zc_1 E) rfl zin_X10 tyX10 tyX10_ok nmX10 3 (by decide) gw_1_36 rfl rfl rfl rfl (fun _ _ => Nat.le_of_ble_eq_true rfl) (fun _ _ => rfl) dX10_readToken_59 ?_
    exact zw_returnE C h dX10_readToken_62
def f_X10_readToken_0 : Nat → zM → Option zM
  | 0, _ => none
  | n + 1, M => if (M.1 1 1) ≤ (M.1 1 2) then (f_X10_readToken_38 M) else (zg (zin (M.1 1 2) 100) (if (M.1 2 (M.1 1 2).toNatClampNeg) = (32 : Int32) then (f_X10_readToken_0 n (zs M 1 2 ((M.1 1 2) + (1 : Int32)))) else (f_X10_readToken_38 M)))
set_option maxRecDepth 20000 in
set_option maxHeartbeats 2000000 in
theorem p_X10_readToken_0 {X : zX} {E : zE} {M' : zM} (C : zC X E cX10_readToken 2 RX10 none 1) : ∀ (n : Nat) (M : zM), f_X10_readToken_0  n M = some M' → zW X E (zRQ X E none M') M 0 [(0, .ref (E.2.1 1))] [] := by
  intro n
  induction n with
  | zero => intro M h; cases h
  | succ n ih =>
    intro M h
    have h : (if (M.1 1 1) ≤ (M.1 1 2) then (f_X10_readToken_38 M) else (zg (zin (M.1 1 2) 100) (if (M.1 2 (M.1 1 2).toNatClampNeg) = (32 : Int32) then (f_X10_readToken_0 n (zs M 1 2 ((M.1 1 2) + (1 : Int32)))) else (f_X10_readToken_38 M)))) = some M' := h
    refine zw_aload_n C 0 rfl dX10_readToken_0 rfl ?_
    refine zw_get (v := .int (M.1 1 2)) C (by decide) (zc_1 E) rfl zin_X10 2 (by decide) gw_1_35 rfl dX10_readToken_1 ?_
    refine zw_aload_n C 0 rfl dX10_readToken_4 rfl ?_
    refine zw_get (v := .int (M.1 1 1)) C (by decide) (zc_1 E) rfl zin_X10 1 (by decide) gw_1_33 rfl dX10_readToken_5 ?_
    refine zw_icmp_ge (tgt := 38) C dX10_readToken_8 (by decide) (fun hb1 => ?_) (fun hb1 => ?_)
    · have h := zt_ hb1 h
      exact p_X10_readToken_38 C h
    · have h := zf_ hb1 h
      refine zw_aload_n C 0 rfl dX10_readToken_11 rfl ?_
      refine zw_get (v := .ref (E.2.1 2)) C (by decide) (zc_1 E) rfl zin_X10 0 (by decide) gw_1_32 rfl dX10_readToken_12 ?_
      refine zw_aload_n C 0 rfl dX10_readToken_15 rfl ?_
      refine zw_get (v := .int (M.1 1 2)) C (by decide) (zc_1 E) rfl zin_X10 2 (by decide) gw_1_35 rfl dX10_readToken_16 ?_
      obtain ⟨hi2, h⟩ := zg_e h
      refine zw_iald C zia_2 (zin_e hi2) dX10_readToken_19 ?_
      refine zw_bipush (v := (32 : Int32)) C dX10_readToken_20 ct_b_32 ?_
      refine zw_icmp_ne (tgt := 38) C dX10_readToken_22 (by decide) (fun hb3 => ?_) (fun hb3 => ?_)
      · have h := zt_ hb3 h
        refine zw_aload_n C 0 rfl dX10_readToken_25 rfl ?_
        refine zw_dup C rfl dX10_readToken_26 ?_
        refine zw_get (v := .int (M.1 1 2)) C (by decide) (zc_1 E) rfl zin_X10 2 (by decide) gw_1_35 rfl dX10_readToken_27 ?_
        refine zw_iconst (v := (1 : Int32)) C dX10_readToken_30 ct_i_1 ?_
        refine zw_iadd C dX10_readToken_31 ?_
        refine zw_put (ty := .int) C (by decide) (zc_1 E) rfl zin_X10 tyX10 tyX10_ok nmX10 2 (by decide) gw_1_35 rfl rfl rfl rfl (fun _ _ => Nat.le_of_ble_eq_true rfl) (fun _ _ => rfl) dX10_readToken_32 ?_
        refine zw_goto (tgt := 0) C dX10_readToken_35 (by decide) ?_
        exact ih _ h
      · have h := zf_ hb3 h
        exact p_X10_readToken_38 C h
def f_X10_readToken (M : zM) : Option zM := f_X10_readToken_0 zFU M
theorem m_X10_readToken {l : Launch} {E : zE} (hI : zI E) {M M' : zM} (h : f_X10_readToken M = some M') : zMet l E yX10_readToken cX10_readToken 2 none 1 [.ref (E.2.1 1)] M M' none := zm_of hI (by decide) (Nat.le_of_ble_eq_true rfl) (fun X _ C => p_X10_readToken_0 C zFU _ h)
theorem kv_X10_readToken : zKV yX10_readToken cX10_readToken 2 none 0 := ⟨⟨gw_2_58, gs_0, gw_1_2, gw_2_59⟩, ⟨by decide, by decide, by decide +kernel⟩, by decide⟩
-- WingDoor$Text.readSemicolon()Z, 10 instructions, depth 2
def f_X10_readSemicolon_0 (M : zM) : Option (Int32 × zM) := zbv (f_X10_readToken M) (fun M3 => if (M3.1 1 3) = (59 : Int32) then (some ((1 : Int32), M3)) else (some ((0 : Int32), M3)))
set_option maxRecDepth 20000 in
set_option maxHeartbeats 2000000 in
theorem p_X10_readSemicolon_0 {X : zX} {E : zE} {r : Int32} {M' : zM} (C : zC X E cX10_readSemicolon 1 RX10 (some .boolean) 2) {M : zM} (h : f_X10_readSemicolon_0  M = some (r, M')) : zW X E (zRQ X E (some (.int r)) M') M 0 [(0, .ref (E.2.1 1))] [] := by
  have h : (zbv (f_X10_readToken M) (fun M3 => if (M3.1 1 3) = (59 : Int32) then (some ((1 : Int32), M3)) else (some ((0 : Int32), M3)))) = some (r, M') := h
  refine zw_aload_n C 0 rfl dX10_readSemicolon_0 rfl ?_
  obtain ⟨M3, hq1, h⟩ := zbv_e h
  refine zw_callVv (As := []) (st := []) C (m_X10_readToken C.2.2.2.2.2.2.2.1 hq1) kv_X10_readToken gw_2_56 (by decide) (by decide) (zc_1 E) rfl rfl rfl rfl (Nat.le_of_ble_eq_true rfl) dX10_readSemicolon_1 ?_
  refine zw_aload_n C 0 rfl dX10_readSemicolon_4 rfl ?_
  refine zw_get (v := .int (M3.1 1 3)) C (by decide) (zc_1 E) rfl zin_X10 3 (by decide) gw_1_36 rfl dX10_readSemicolon_5 ?_
  refine zw_bipush (v := (59 : Int32)) C dX10_readSemicolon_8 ct_b_59 ?_
  refine zw_icmp_ne (tgt := 17) C dX10_readSemicolon_10 (by decide) (fun hb4 => ?_) (fun hb4 => ?_)
  · have h := zt_ hb4 h
    refine zw_iconst (v := (1 : Int32)) C dX10_readSemicolon_13 ct_i_1 ?_
    refine zw_goto (tgt := 18) C dX10_readSemicolon_14 (by decide) ?_
    exact zw_zreturnE C rfl h dX10_readSemicolon_18
  · have h := zf_ hb4 h
    refine zw_iconst (v := (0 : Int32)) C dX10_readSemicolon_17 ct_i_0 ?_
    exact zw_zreturnE C rfl h dX10_readSemicolon_18
def f_X10_readSemicolon (M : zM) : Option (Int32 × zM) := f_X10_readSemicolon_0 M
theorem m_X10_readSemicolon {l : Launch} {E : zE} (hI : zI E) {M M' : zM} {r : Int32} (h : f_X10_readSemicolon M = some (r, M')) : zMet l E yX10_readSemicolon cX10_readSemicolon 1 (some .boolean) 2 [.ref (E.2.1 1)] M M' (some (.int r)) := zm_of hI (by decide) (Nat.le_of_ble_eq_true rfl) (fun X _ C => p_X10_readSemicolon_0 C h)
theorem kv_X10_readSemicolon : zKV yX10_readSemicolon cX10_readSemicolon 1 (some .boolean) 0 := ⟨⟨gw_2_78, gs_5, gw_1_2, gw_2_79⟩, ⟨by decide, by decide, by decide +kernel⟩, by decide⟩
-- WingDoor$Text.readNumber(II)Z, 18 instructions, depth 2
def f_X10_readNumber_0 (x1 : Int32) (x2 : Int32) (M : zM) : Option (Int32 × zM) := zbv (f_X10_readToken M) (fun M3 => if (M3.1 1 3) = (-2 : Int32) then (if (M3.1 1 5) < x1 then (some ((0 : Int32), M3)) else (if x2 < (M3.1 1 5) then (some ((0 : Int32), M3)) else (some ((1 : Int32), M3)))) else (some ((0 : Int32), M3)))
set_option maxRecDepth 20000 in
set_option maxHeartbeats 2000000 in
theorem p_X10_readNumber_0 {X : zX} {E : zE} {x1 : Int32} {x2 : Int32} {r : Int32} {M' : zM} (C : zC X E cX10_readNumber 3 RX10 (some .boolean) 2) {M : zM} (h : f_X10_readNumber_0 x1 x2 M = some (r, M')) : zW X E (zRQ X E (some (.int r)) M') M 0 [(0, .ref (E.2.1 1)), (1, .int x1), (2, .int x2)] [] := by
  have h : (zbv (f_X10_readToken M) (fun M3 => if (M3.1 1 3) = (-2 : Int32) then (if (M3.1 1 5) < x1 then (some ((0 : Int32), M3)) else (if x2 < (M3.1 1 5) then (some ((0 : Int32), M3)) else (some ((1 : Int32), M3)))) else (some ((0 : Int32), M3)))) = some (r, M') := h
  refine zw_aload_n C 0 rfl dX10_readNumber_0 rfl ?_
  obtain ⟨M3, hq1, h⟩ := zbv_e h
  refine zw_callVv (As := []) (st := []) C (m_X10_readToken C.2.2.2.2.2.2.2.1 hq1) kv_X10_readToken gw_2_56 (by decide) (by decide) (zc_1 E) rfl rfl rfl rfl (Nat.le_of_ble_eq_true rfl) dX10_readNumber_1 ?_
  refine zw_aload_n C 0 rfl dX10_readNumber_4 rfl ?_
  refine zw_get (v := .int (M3.1 1 3)) C (by decide) (zc_1 E) rfl zin_X10 3 (by decide) gw_1_36 rfl dX10_readNumber_5 ?_
  refine zw_bipush (v := (-2 : Int32)) C dX10_readNumber_8 ct_b_m2 ?_
  refine zw_icmp_ne (tgt := 33) C dX10_readNumber_10 (by decide) (fun hb4 => ?_) (fun hb4 => ?_)
  · have h := zt_ hb4 h
    refine zw_aload_n C 0 rfl dX10_readNumber_13 rfl ?_
    refine zw_get (v := .int (M3.1 1 5)) C (by decide) (zc_1 E) rfl zin_X10 5 (by decide) gw_1_38 rfl dX10_readNumber_14 ?_
    refine zw_iload_n C 1 rfl dX10_readNumber_17 rfl ?_
    refine zw_icmp_lt (tgt := 33) C dX10_readNumber_18 (by decide) (fun hb5 => ?_) (fun hb5 => ?_)
    · have h := zt_ hb5 h
      refine zw_iconst (v := (0 : Int32)) C dX10_readNumber_33 ct_i_0 ?_
      exact zw_zreturnE C rfl h dX10_readNumber_34
    · have h := zf_ hb5 h
      refine zw_aload_n C 0 rfl dX10_readNumber_21 rfl ?_
      refine zw_get (v := .int (M3.1 1 5)) C (by decide) (zc_1 E) rfl zin_X10 5 (by decide) gw_1_38 rfl dX10_readNumber_22 ?_
      refine zw_iload_n C 2 rfl dX10_readNumber_25 rfl ?_
      refine zw_icmp_gt (tgt := 33) C dX10_readNumber_26 (by decide) (fun hb6 => ?_) (fun hb6 => ?_)
      · have h := zt_ hb6 h
        refine zw_iconst (v := (0 : Int32)) C dX10_readNumber_33 ct_i_0 ?_
        exact zw_zreturnE C rfl h dX10_readNumber_34
      · have h := zf_ hb6 h
        refine zw_iconst (v := (1 : Int32)) C dX10_readNumber_29 ct_i_1 ?_
        refine zw_goto (tgt := 34) C dX10_readNumber_30 (by decide) ?_
        exact zw_zreturnE C rfl h dX10_readNumber_34
  · have h := zf_ hb4 h
    refine zw_iconst (v := (0 : Int32)) C dX10_readNumber_33 ct_i_0 ?_
    exact zw_zreturnE C rfl h dX10_readNumber_34
def f_X10_readNumber (M : zM) (x1 : Int32) (x2 : Int32) : Option (Int32 × zM) := f_X10_readNumber_0 x1 x2 M
theorem m_X10_readNumber {l : Launch} {E : zE} (hI : zI E) {M M' : zM} {x1 : Int32} {x2 : Int32} {r : Int32} (h : f_X10_readNumber M x1 x2 = some (r, M')) : zMet l E yX10_readNumber cX10_readNumber 3 (some .boolean) 2 [.ref (E.2.1 1), .int x1, .int x2] M M' (some (.int r)) := zm_of hI (by decide) (Nat.le_of_ble_eq_true rfl) (fun X _ C => p_X10_readNumber_0 C h)
theorem kv_X10_readNumber : zKV yX10_readNumber cX10_readNumber 3 (some .boolean) 2 := ⟨⟨gw_2_74, gs_4, gw_1_2, gw_2_75⟩, ⟨by decide, by decide, by decide +kernel⟩, by decide⟩
-- WingDoor$Text.readSort(LWingDoor$Plan;)Z, 26 instructions, depth 3
def f_X10_readSort_0 (p1 : Nat) (M : zM) : Option (Int32 × zM) := zbi (f_X10_readNumber M (1 : Int32) (M.1 p1 1)) (fun r2 M3 => if r2 = 0 then (some ((0 : Int32), M3)) else (zbi (f_X10_readNumber M3 (0 : Int32) (9 : Int32)) (fun r6 M7 => if r6 = 0 then (some ((0 : Int32), M7)) else (zbv (f_X7_addSort M7 p1 (M3.1 1 5) (M7.1 1 5)) (fun M11 => zbi (f_X10_readSemicolon M11) (fun r13 M14 => zg (zbo r13) (some (r13, M14))))))))
set_option maxRecDepth 20000 in
set_option maxHeartbeats 2000000 in
theorem p_X10_readSort_0 {X : zX} {E : zE} {p1 : Nat} {r : Int32} {M' : zM} (C : zC X E cX10_readSort 3 RX10 (some .boolean) 3) (hp1 : zpp p1) {M : zM} (h : f_X10_readSort_0 p1 M = some (r, M')) : zW X E (zRQ X E (some (.int r)) M') M 0 [(0, .ref (E.2.1 1)), (1, .ref (E.2.1 p1))] [] := by
  have h : (zbi (f_X10_readNumber M (1 : Int32) (M.1 p1 1)) (fun r2 M3 => if r2 = 0 then (some ((0 : Int32), M3)) else (zbi (f_X10_readNumber M3 (0 : Int32) (9 : Int32)) (fun r6 M7 => if r6 = 0 then (some ((0 : Int32), M7)) else (zbv (f_X7_addSort M7 p1 (M3.1 1 5) (M7.1 1 5)) (fun M11 => zbi (f_X10_readSemicolon M11) (fun r13 M14 => zg (zbo r13) (some (r13, M14))))))))) = some (r, M') := h
  refine zw_aload_n C 0 rfl dX10_readSort_0 rfl ?_
  refine zw_iconst (v := (1 : Int32)) C dX10_readSort_1 ct_i_1 ?_
  refine zw_aload_n C 1 rfl dX10_readSort_2 rfl ?_
  refine zw_getN (v := .int (M.1 p1 1)) C hp1.lt (hp1.c E) rfl zin_X7 1 (by decide) (List.mem_of_getElem? (i := 3) rfl) rfl dX10_readSort_3 ?_
  obtain ⟨r2, M3, hq1, h⟩ := zbi_e h
  refine zw_callVi (As := [.int (1 : Int32), .int (M.1 p1 1)]) (st := []) C (m_X10_readNumber C.2.2.2.2.2.2.2.1 hq1) kv_X10_readNumber gw_2_72 (by decide) (by decide) (zc_1 E) rfl rfl rfl rfl (Nat.le_of_ble_eq_true rfl) dX10_readSort_6 ?_
  refine zw_if_ne (tgt := 14) C dX10_readSort_9 (by decide) (fun hb4 => ?_) (fun hb4 => ?_)
  · have h := zt_ hb4 h
    refine zw_iconst (v := (0 : Int32)) C dX10_readSort_12 ct_i_0 ?_
    exact zw_zreturnE C rfl h dX10_readSort_13
  · have h := zf_ hb4 h
    refine zw_aload_n C 0 rfl dX10_readSort_14 rfl ?_
    refine zw_get (v := .int (M3.1 1 5)) C (by decide) (zc_1 E) rfl zin_X10 5 (by decide) gw_1_38 rfl dX10_readSort_15 ?_
    refine zw_istore_n (lv' := [(2, .int (M3.1 1 5)), (0, .ref (E.2.1 1)), (1, .ref (E.2.1 p1))]) C dX10_readSort_18 rfl (by decide) rfl ?_
    refine zw_aload_n C 1 rfl dX10_readSort_19 rfl ?_
    refine zw_iconst (v := (0 : Int32)) C dX10_readSort_20 ct_i_0 ?_
    refine zw_bipush (v := (9 : Int32)) C dX10_readSort_21 ct_b_9 ?_
    obtain ⟨r6, M7, hq5, h⟩ := zbi_e h
    refine zw_callVi (As := [.int (0 : Int32), .int (9 : Int32)]) (st := []) C (m_X10_readNumber C.2.2.2.2.2.2.2.1 hq5) kv_X10_readNumber gw_2_72 (by decide) (by decide) (zc_1 E) rfl rfl rfl rfl (Nat.le_of_ble_eq_true rfl) dX10_readSort_23 ?_
    refine zw_if_ne (tgt := 31) C dX10_readSort_26 (by decide) (fun hb8 => ?_) (fun hb8 => ?_)
    · have h := zt_ hb8 h
      refine zw_iconst (v := (0 : Int32)) C dX10_readSort_29 ct_i_0 ?_
      exact zw_zreturnE C rfl h dX10_readSort_30
    · have h := zf_ hb8 h
      refine zw_aload_n C 2 rfl dX10_readSort_31 rfl ?_
      refine zw_iload_n C 0 rfl dX10_readSort_32 rfl ?_
      refine zw_aload_n C 1 rfl dX10_readSort_33 rfl ?_
      refine zw_get (v := .int (M7.1 1 5)) C (by decide) (zc_1 E) rfl zin_X10 5 (by decide) gw_1_38 rfl dX10_readSort_34 ?_
      obtain ⟨M11, hq9, h⟩ := zbv_e h
      refine zw_callVv (As := [.int (M3.1 1 5), .int (M7.1 1 5)]) (st := []) C (m_X7_addSort C.2.2.2.2.2.2.2.1 hp1 hq9) kv_X7_addSort gw_2_88 (by decide) hp1.lt (hp1.c E) rfl rfl rfl rfl (Nat.le_of_ble_eq_true rfl) dX10_readSort_37 ?_
      refine zw_aload_n C 1 rfl dX10_readSort_40 rfl ?_
      obtain ⟨r13, M14, hq12, h⟩ := zbi_e h
      refine zw_callVi (As := []) (st := []) C (m_X10_readSemicolon C.2.2.2.2.2.2.2.1 hq12) kv_X10_readSemicolon gw_2_76 (by decide) (by decide) (zc_1 E) rfl rfl rfl rfl (Nat.le_of_ble_eq_true rfl) dX10_readSort_41 ?_
      obtain ⟨hz15, h⟩ := zg_e h
      exact zw_zreturnE C (zbo_e hz15) h dX10_readSort_44
def f_X10_readSort (M : zM) (p1 : Nat) : Option (Int32 × zM) := f_X10_readSort_0 p1 M
theorem m_X10_readSort {l : Launch} {E : zE} (hI : zI E) {M M' : zM} {p1 : Nat} {r : Int32} (hp1 : zpp p1) (h : f_X10_readSort M p1 = some (r, M')) : zMet l E yX10_readSort cX10_readSort 3 (some .boolean) 3 [.ref (E.2.1 1), .ref (E.2.1 p1)] M M' (some (.int r)) := zm_of hI (by decide) (Nat.le_of_ble_eq_true rfl) (fun X _ C => p_X10_readSort_0 C hp1 h)
theorem kv_X10_readSort : zKV yX10_readSort cX10_readSort 3 (some .boolean) 1 := ⟨⟨gw_2_86, gs_7, gw_1_2, gw_2_87⟩, ⟨by decide, by decide, by decide +kernel⟩, by decide⟩
-- WingDoor$Text.readHard(LWingDoor$Plan;)Z, 17 instructions, depth 3
def f_X10_readHard_0 (p1 : Nat) (M : zM) : Option (Int32 × zM) := zbi (f_X10_readNumber M (0 : Int32) (20 : Int32)) (fun r2 M3 => if r2 = 0 then (some ((0 : Int32), M3)) else (zbi (f_X10_readSemicolon (zs (zs M3 p1 2 (M3.1 1 5)) 1 6 (1 : Int32))) (fun r6 M7 => zg (zbo r6) (some (r6, M7)))))
set_option maxRecDepth 20000 in
set_option maxHeartbeats 2000000 in
theorem p_X10_readHard_0 {X : zX} {E : zE} {p1 : Nat} {r : Int32} {M' : zM} (C : zC X E cX10_readHard 2 RX10 (some .boolean) 3) (hp1 : zpp p1) {M : zM} (h : f_X10_readHard_0 p1 M = some (r, M')) : zW X E (zRQ X E (some (.int r)) M') M 0 [(0, .ref (E.2.1 1)), (1, .ref (E.2.1 p1))] [] := by
  have h : (zbi (f_X10_readNumber M (0 : Int32) (20 : Int32)) (fun r2 M3 => if r2 = 0 then (some ((0 : Int32), M3)) else (zbi (f_X10_readSemicolon (zs (zs M3 p1 2 (M3.1 1 5)) 1 6 (1 : Int32))) (fun r6 M7 => zg (zbo r6) (some (r6, M7)))))) = some (r, M') := h
  refine zw_aload_n C 0 rfl dX10_readHard_0 rfl ?_
  refine zw_iconst (v := (0 : Int32)) C dX10_readHard_1 ct_i_0 ?_
  refine zw_bipush (v := (20 : Int32)) C dX10_readHard_2 ct_b_20 ?_
  obtain ⟨r2, M3, hq1, h⟩ := zbi_e h
  refine zw_callVi (As := [.int (0 : Int32), .int (20 : Int32)]) (st := []) C (m_X10_readNumber C.2.2.2.2.2.2.2.1 hq1) kv_X10_readNumber gw_2_72 (by decide) (by decide) (zc_1 E) rfl rfl rfl rfl (Nat.le_of_ble_eq_true rfl) dX10_readHard_4 ?_
  refine zw_if_ne (tgt := 12) C dX10_readHard_7 (by decide) (fun hb4 => ?_) (fun hb4 => ?_)
  · have h := zt_ hb4 h
    refine zw_iconst (v := (0 : Int32)) C dX10_readHard_10 ct_i_0 ?_
    exact zw_zreturnE C rfl h dX10_readHard_11
  · have h := zf_ hb4 h
    refine zw_aload_n C 1 rfl dX10_readHard_12 rfl ?_
    refine zw_aload_n C 0 rfl dX10_readHard_13 rfl ?_
    refine zw_get (v := .int (M3.1 1 5)) C (by decide) (zc_1 E) rfl zin_X10 5 (by decide) gw_1_38 rfl dX10_readHard_14 ?_
    refine zw_putN (ty := .int) C hp1.lt (hp1.c E) rfl zin_X7 tyX7 tyX7_ok nmX7 2 (by decide) (List.mem_of_getElem? (i := 6) rfl) rfl rfl rfl rfl (fun _ _ => Nat.le_of_ble_eq_true rfl) (fun _ _ => rfl) dX10_readHard_17 ?_
    refine zw_aload_n C 0 rfl dX10_readHard_20 rfl ?_
    refine zw_iconst (v := (1 : Int32)) C dX10_readHard_21 ct_i_1 ?_
    refine zw_put (ty := .boolean) C (by decide) (zc_1 E) rfl zin_X10 tyX10 tyX10_ok nmX10 6 (by decide) gw_1_39 rfl rfl rfl rfl (fun _ _ => Nat.le_of_ble_eq_true rfl) (fun _ _ => rfl) dX10_readHard_22 ?_
    refine zw_aload_n C 0 rfl dX10_readHard_25 rfl ?_
    obtain ⟨r6, M7, hq5, h⟩ := zbi_e h
    refine zw_callVi (As := []) (st := []) C (m_X10_readSemicolon C.2.2.2.2.2.2.2.1 hq5) kv_X10_readSemicolon gw_2_76 (by decide) (by decide) (zc_1 E) rfl rfl rfl rfl (Nat.le_of_ble_eq_true rfl) dX10_readHard_26 ?_
    obtain ⟨hz8, h⟩ := zg_e h
    exact zw_zreturnE C (zbo_e hz8) h dX10_readHard_29
def f_X10_readHard (M : zM) (p1 : Nat) : Option (Int32 × zM) := f_X10_readHard_0 p1 M
theorem m_X10_readHard {l : Launch} {E : zE} (hI : zI E) {M M' : zM} {p1 : Nat} {r : Int32} (hp1 : zpp p1) (h : f_X10_readHard M p1 = some (r, M')) : zMet l E yX10_readHard cX10_readHard 2 (some .boolean) 3 [.ref (E.2.1 1), .ref (E.2.1 p1)] M M' (some (.int r)) := zm_of hI (by decide) (Nat.le_of_ble_eq_true rfl) (fun X _ C => p_X10_readHard_0 C hp1 h)
theorem kv_X10_readHard : zKV yX10_readHard cX10_readHard 2 (some .boolean) 1 := ⟨⟨gw_2_82, gs_6, gw_1_2, gw_2_83⟩, ⟨by decide, by decide, by decide +kernel⟩, by decide⟩
-- WingDoor$Text.readRooms(LWingDoor$Plan;)Z, 25 instructions, depth 3
def f_X10_readRooms_0 (p1 : Nat) (M : zM) : Option (Int32 × zM) := zbi (f_X10_readNumber M (3 : Int32) (6 : Int32)) (fun r2 M3 => if r2 = 0 then (some ((0 : Int32), M3)) else (zbi (f_X10_readNumber (zs M3 p1 0 (M3.1 1 5)) (1 : Int32) (5 : Int32)) (fun r6 M7 => if r6 = 0 then (some ((0 : Int32), M7)) else (zbi (f_X10_readSemicolon (zs M7 p1 1 (M7.1 1 5))) (fun r10 M11 => zg (zbo r10) (some (r10, M11)))))))
set_option maxRecDepth 20000 in
set_option maxHeartbeats 2000000 in
theorem p_X10_readRooms_0 {X : zX} {E : zE} {p1 : Nat} {r : Int32} {M' : zM} (C : zC X E cX10_readRooms 2 RX10 (some .boolean) 3) (hp1 : zpp p1) {M : zM} (h : f_X10_readRooms_0 p1 M = some (r, M')) : zW X E (zRQ X E (some (.int r)) M') M 0 [(0, .ref (E.2.1 1)), (1, .ref (E.2.1 p1))] [] := by
  have h : (zbi (f_X10_readNumber M (3 : Int32) (6 : Int32)) (fun r2 M3 => if r2 = 0 then (some ((0 : Int32), M3)) else (zbi (f_X10_readNumber (zs M3 p1 0 (M3.1 1 5)) (1 : Int32) (5 : Int32)) (fun r6 M7 => if r6 = 0 then (some ((0 : Int32), M7)) else (zbi (f_X10_readSemicolon (zs M7 p1 1 (M7.1 1 5))) (fun r10 M11 => zg (zbo r10) (some (r10, M11)))))))) = some (r, M') := h
  refine zw_aload_n C 0 rfl dX10_readRooms_0 rfl ?_
  refine zw_iconst (v := (3 : Int32)) C dX10_readRooms_1 ct_i_3 ?_
  refine zw_bipush (v := (6 : Int32)) C dX10_readRooms_2 ct_b_6 ?_
  obtain ⟨r2, M3, hq1, h⟩ := zbi_e h
  refine zw_callVi (As := [.int (3 : Int32), .int (6 : Int32)]) (st := []) C (m_X10_readNumber C.2.2.2.2.2.2.2.1 hq1) kv_X10_readNumber gw_2_72 (by decide) (by decide) (zc_1 E) rfl rfl rfl rfl (Nat.le_of_ble_eq_true rfl) dX10_readRooms_4 ?_
  refine zw_if_ne (tgt := 12) C dX10_readRooms_7 (by decide) (fun hb4 => ?_) (fun hb4 => ?_)
  · have h := zt_ hb4 h
    refine zw_iconst (v := (0 : Int32)) C dX10_readRooms_10 ct_i_0 ?_
    exact zw_zreturnE C rfl h dX10_readRooms_11
  · have h := zf_ hb4 h
    refine zw_aload_n C 1 rfl dX10_readRooms_12 rfl ?_
    refine zw_aload_n C 0 rfl dX10_readRooms_13 rfl ?_
    refine zw_get (v := .int (M3.1 1 5)) C (by decide) (zc_1 E) rfl zin_X10 5 (by decide) gw_1_38 rfl dX10_readRooms_14 ?_
    refine zw_putN (ty := .int) C hp1.lt (hp1.c E) rfl zin_X7 tyX7 tyX7_ok nmX7 0 (by decide) (List.mem_of_getElem? (i := 1) rfl) rfl rfl rfl rfl (fun _ _ => Nat.le_of_ble_eq_true rfl) (fun _ _ => rfl) dX10_readRooms_17 ?_
    refine zw_aload_n C 0 rfl dX10_readRooms_20 rfl ?_
    refine zw_iconst (v := (1 : Int32)) C dX10_readRooms_21 ct_i_1 ?_
    refine zw_iconst (v := (5 : Int32)) C dX10_readRooms_22 ct_i_5 ?_
    obtain ⟨r6, M7, hq5, h⟩ := zbi_e h
    refine zw_callVi (As := [.int (1 : Int32), .int (5 : Int32)]) (st := []) C (m_X10_readNumber C.2.2.2.2.2.2.2.1 hq5) kv_X10_readNumber gw_2_72 (by decide) (by decide) (zc_1 E) rfl rfl rfl rfl (Nat.le_of_ble_eq_true rfl) dX10_readRooms_23 ?_
    refine zw_if_ne (tgt := 31) C dX10_readRooms_26 (by decide) (fun hb8 => ?_) (fun hb8 => ?_)
    · have h := zt_ hb8 h
      refine zw_iconst (v := (0 : Int32)) C dX10_readRooms_29 ct_i_0 ?_
      exact zw_zreturnE C rfl h dX10_readRooms_30
    · have h := zf_ hb8 h
      refine zw_aload_n C 1 rfl dX10_readRooms_31 rfl ?_
      refine zw_aload_n C 0 rfl dX10_readRooms_32 rfl ?_
      refine zw_get (v := .int (M7.1 1 5)) C (by decide) (zc_1 E) rfl zin_X10 5 (by decide) gw_1_38 rfl dX10_readRooms_33 ?_
      refine zw_putN (ty := .int) C hp1.lt (hp1.c E) rfl zin_X7 tyX7 tyX7_ok nmX7 1 (by decide) (List.mem_of_getElem? (i := 3) rfl) rfl rfl rfl rfl (fun _ _ => Nat.le_of_ble_eq_true rfl) (fun _ _ => rfl) dX10_readRooms_36 ?_
      refine zw_aload_n C 0 rfl dX10_readRooms_39 rfl ?_
      obtain ⟨r10, M11, hq9, h⟩ := zbi_e h
      refine zw_callVi (As := []) (st := []) C (m_X10_readSemicolon C.2.2.2.2.2.2.2.1 hq9) kv_X10_readSemicolon gw_2_76 (by decide) (by decide) (zc_1 E) rfl rfl rfl rfl (Nat.le_of_ble_eq_true rfl) dX10_readRooms_40 ?_
      obtain ⟨hz12, h⟩ := zg_e h
      exact zw_zreturnE C (zbo_e hz12) h dX10_readRooms_43
def f_X10_readRooms (M : zM) (p1 : Nat) : Option (Int32 × zM) := f_X10_readRooms_0 p1 M
theorem m_X10_readRooms {l : Launch} {E : zE} (hI : zI E) {M M' : zM} {p1 : Nat} {r : Int32} (hp1 : zpp p1) (h : f_X10_readRooms M p1 = some (r, M')) : zMet l E yX10_readRooms cX10_readRooms 2 (some .boolean) 3 [.ref (E.2.1 1), .ref (E.2.1 p1)] M M' (some (.int r)) := zm_of hI (by decide) (Nat.le_of_ble_eq_true rfl) (fun X _ C => p_X10_readRooms_0 C hp1 h)
theorem kv_X10_readRooms : zKV yX10_readRooms cX10_readRooms 2 (some .boolean) 1 := ⟨⟨gw_2_70, gs_3, gw_1_2, gw_2_71⟩, ⟨by decide, by decide, by decide +kernel⟩, by decide⟩
-- WingDoor$Text.readItem(LWingDoor$Plan;I)Z, 38 instructions, depth 4
def f_X10_readItem_0 (p1 : Nat) (x2 : Int32) (M : zM) : Option (Int32 × zM) := if (M.1 1 3) = (104 : Int32) then (if (M.1 1 6) = 0 then (zbi (f_X10_readHard M p1) (fun r4 M5 => if r4 = 0 then (some ((0 : Int32), M5)) else (some ((1 : Int32), M5)))) else (some ((0 : Int32), M))) else if (M.1 1 3) = (114 : Int32) then (if x2 = 0 then (zbi (f_X10_readRooms M p1) (fun r10 M11 => if r10 = 0 then (some ((0 : Int32), M11)) else (some ((1 : Int32), M11)))) else (some ((0 : Int32), M))) else if (M.1 1 3) = (115 : Int32) then (if (6 : Int32) ≤ (M.1 p1 3) then (some ((0 : Int32), M)) else (zbi (f_X10_readSort M p1) (fun r16 M17 => if r16 = 0 then (some ((0 : Int32), M17)) else (some ((1 : Int32), M17))))) else (some ((0 : Int32), M))
set_option maxRecDepth 20000 in
set_option maxHeartbeats 2000000 in
theorem p_X10_readItem_0 {X : zX} {E : zE} {p1 : Nat} {x2 : Int32} {r : Int32} {M' : zM} (C : zC X E cX10_readItem 3 RX10 (some .boolean) 4) (hp1 : zpp p1) {M : zM} (h : f_X10_readItem_0 p1 x2 M = some (r, M')) : zW X E (zRQ X E (some (.int r)) M') M 0 [(0, .ref (E.2.1 1)), (1, .ref (E.2.1 p1)), (2, .int x2)] [] := by
  have h : (if (M.1 1 3) = (104 : Int32) then (if (M.1 1 6) = 0 then (zbi (f_X10_readHard M p1) (fun r4 M5 => if r4 = 0 then (some ((0 : Int32), M5)) else (some ((1 : Int32), M5)))) else (some ((0 : Int32), M))) else if (M.1 1 3) = (114 : Int32) then (if x2 = 0 then (zbi (f_X10_readRooms M p1) (fun r10 M11 => if r10 = 0 then (some ((0 : Int32), M11)) else (some ((1 : Int32), M11)))) else (some ((0 : Int32), M))) else if (M.1 1 3) = (115 : Int32) then (if (6 : Int32) ≤ (M.1 p1 3) then (some ((0 : Int32), M)) else (zbi (f_X10_readSort M p1) (fun r16 M17 => if r16 = 0 then (some ((0 : Int32), M17)) else (some ((1 : Int32), M17))))) else (some ((0 : Int32), M))) = some (r, M') := h
  refine zw_aload_n C 0 rfl dX10_readItem_0 rfl ?_
  refine zw_get (v := .int (M.1 1 3)) C (by decide) (zc_1 E) rfl zin_X10 3 (by decide) gw_1_36 rfl dX10_readItem_1 ?_
  by_cases hb1 : (M.1 1 3) = (104 : Int32)
  · have h := zt_ hb1 h
    refine zw_look (off := 54) (tgt := 58) C dX10_readItem_4 (by decide) (by rw [hb1] <;> rfl) (by decide) ?_
    refine zw_aload_n C 0 rfl dX10_readItem_58 rfl ?_
    refine zw_get (v := .int (M.1 1 6)) C (by decide) (zc_1 E) rfl zin_X10 6 (by decide) gw_1_39 rfl dX10_readItem_59 ?_
    refine zw_if_ne (tgt := 77) C dX10_readItem_62 (by decide) (fun hb2 => ?_) (fun hb2 => ?_)
    · have h := zt_ hb2 h
      refine zw_aload_n C 0 rfl dX10_readItem_65 rfl ?_
      refine zw_aload_n C 1 rfl dX10_readItem_66 rfl ?_
      obtain ⟨r4, M5, hq3, h⟩ := zbi_e h
      refine zw_callVi (As := [.ref (E.2.1 p1)]) (st := []) C (m_X10_readHard C.2.2.2.2.2.2.2.1 hp1 hq3) kv_X10_readHard gw_2_80 (by decide) (by decide) (zc_1 E) rfl rfl rfl rfl (Nat.le_of_ble_eq_true rfl) dX10_readItem_67 ?_
      refine zw_if_eq (tgt := 77) C dX10_readItem_70 (by decide) (fun hb6 => ?_) (fun hb6 => ?_)
      · have h := zt_ hb6 h
        refine zw_iconst (v := (0 : Int32)) C dX10_readItem_77 ct_i_0 ?_
        exact zw_zreturnE C rfl h dX10_readItem_78
      · have h := zf_ hb6 h
        refine zw_iconst (v := (1 : Int32)) C dX10_readItem_73 ct_i_1 ?_
        refine zw_goto (tgt := 78) C dX10_readItem_74 (by decide) ?_
        exact zw_zreturnE C rfl h dX10_readItem_78
    · have h := zf_ hb2 h
      refine zw_iconst (v := (0 : Int32)) C dX10_readItem_77 ct_i_0 ?_
      exact zw_zreturnE C rfl h dX10_readItem_78
  have h := zf_ hb1 h
  by_cases hb7 : (M.1 1 3) = (114 : Int32)
  · have h := zt_ hb7 h
    refine zw_look (off := 36) (tgt := 40) C dX10_readItem_4 (by decide) (by rw [hb7] <;> rfl) (by decide) ?_
    refine zw_iload_n C 2 rfl dX10_readItem_40 rfl ?_
    refine zw_if_ne (tgt := 56) C dX10_readItem_41 (by decide) (fun hb8 => ?_) (fun hb8 => ?_)
    · have h := zt_ hb8 h
      refine zw_aload_n C 0 rfl dX10_readItem_44 rfl ?_
      refine zw_aload_n C 1 rfl dX10_readItem_45 rfl ?_
      obtain ⟨r10, M11, hq9, h⟩ := zbi_e h
      refine zw_callVi (As := [.ref (E.2.1 p1)]) (st := []) C (m_X10_readRooms C.2.2.2.2.2.2.2.1 hp1 hq9) kv_X10_readRooms gw_2_68 (by decide) (by decide) (zc_1 E) rfl rfl rfl rfl (Nat.le_of_ble_eq_true rfl) dX10_readItem_46 ?_
      refine zw_if_eq (tgt := 56) C dX10_readItem_49 (by decide) (fun hb12 => ?_) (fun hb12 => ?_)
      · have h := zt_ hb12 h
        refine zw_iconst (v := (0 : Int32)) C dX10_readItem_56 ct_i_0 ?_
        exact zw_zreturnE C rfl h dX10_readItem_57
      · have h := zf_ hb12 h
        refine zw_iconst (v := (1 : Int32)) C dX10_readItem_52 ct_i_1 ?_
        refine zw_goto (tgt := 57) C dX10_readItem_53 (by decide) ?_
        exact zw_zreturnE C rfl h dX10_readItem_57
    · have h := zf_ hb8 h
      refine zw_iconst (v := (0 : Int32)) C dX10_readItem_56 ct_i_0 ?_
      exact zw_zreturnE C rfl h dX10_readItem_57
  have h := zf_ hb7 h
  by_cases hb13 : (M.1 1 3) = (115 : Int32)
  · have h := zt_ hb13 h
    refine zw_look (off := 75) (tgt := 79) C dX10_readItem_4 (by decide) (by rw [hb13] <;> rfl) (by decide) ?_
    refine zw_aload_n C 1 rfl dX10_readItem_79 rfl ?_
    refine zw_getN (v := .int (M.1 p1 3)) C hp1.lt (hp1.c E) rfl zin_X7 3 (by decide) (List.mem_of_getElem? (i := 10) rfl) rfl dX10_readItem_80 ?_
    refine zw_bipush (v := (6 : Int32)) C dX10_readItem_83 ct_b_6 ?_
    refine zw_icmp_ge (tgt := 100) C dX10_readItem_85 (by decide) (fun hb14 => ?_) (fun hb14 => ?_)
    · have h := zt_ hb14 h
      refine zw_iconst (v := (0 : Int32)) C dX10_readItem_100 ct_i_0 ?_
      exact zw_zreturnE C rfl h dX10_readItem_101
    · have h := zf_ hb14 h
      refine zw_aload_n C 0 rfl dX10_readItem_88 rfl ?_
      refine zw_aload_n C 1 rfl dX10_readItem_89 rfl ?_
      obtain ⟨r16, M17, hq15, h⟩ := zbi_e h
      refine zw_callVi (As := [.ref (E.2.1 p1)]) (st := []) C (m_X10_readSort C.2.2.2.2.2.2.2.1 hp1 hq15) kv_X10_readSort gw_2_84 (by decide) (by decide) (zc_1 E) rfl rfl rfl rfl (Nat.le_of_ble_eq_true rfl) dX10_readItem_90 ?_
      refine zw_if_eq (tgt := 100) C dX10_readItem_93 (by decide) (fun hb18 => ?_) (fun hb18 => ?_)
      · have h := zt_ hb18 h
        refine zw_iconst (v := (0 : Int32)) C dX10_readItem_100 ct_i_0 ?_
        exact zw_zreturnE C rfl h dX10_readItem_101
      · have h := zf_ hb18 h
        refine zw_iconst (v := (1 : Int32)) C dX10_readItem_96 ct_i_1 ?_
        refine zw_goto (tgt := 101) C dX10_readItem_97 (by decide) ?_
        exact zw_zreturnE C rfl h dX10_readItem_101
  have h := zf_ hb13 h
  refine zw_look (off := 98) (tgt := 102) C dX10_readItem_4 (by decide) (by refine (lv_osw hb1 (show (104 : Int32).toInt = 104 by decide)).trans ?_; refine (lv_osw hb7 (show (114 : Int32).toInt = 114 by decide)).trans ?_; refine (lv_osw hb13 (show (115 : Int32).toInt = 115 by decide)).trans ?_; rfl) (by decide) ?_
  refine zw_iconst (v := (0 : Int32)) C dX10_readItem_102 ct_i_0 ?_
  exact zw_zreturnE C rfl h dX10_readItem_103
def f_X10_readItem (M : zM) (p1 : Nat) (x2 : Int32) : Option (Int32 × zM) := f_X10_readItem_0 p1 x2 M
theorem m_X10_readItem {l : Launch} {E : zE} (hI : zI E) {M M' : zM} {p1 : Nat} {x2 : Int32} {r : Int32} (hp1 : zpp p1) (h : f_X10_readItem M p1 x2 = some (r, M')) : zMet l E yX10_readItem cX10_readItem 3 (some .boolean) 4 [.ref (E.2.1 1), .ref (E.2.1 p1), .int x2] M M' (some (.int r)) := zm_of hI (by decide) (Nat.le_of_ble_eq_true rfl) (fun X _ C => p_X10_readItem_0 C hp1 h)
theorem kv_X10_readItem : zKV yX10_readItem cX10_readItem 3 (some .boolean) 2 := ⟨⟨gw_2_66, gs_2, gw_1_2, gw_2_67⟩, ⟨by decide, by decide, by decide +kernel⟩, by decide⟩
-- WingDoor$Text.tellTo(LWingDoor$Plan;)I, 34 instructions, depth 5
def f_X10_tellTo_54 (p1 : Nat) (M : zM) : Option (Int32 × zM) := some ((-10 : Int32) - (M.1 1 4), M)
set_option maxRecDepth 20000 in
set_option maxHeartbeats 2000000 in
theorem p_X10_tellTo_54 {X : zX} {E : zE} {p1 : Nat} {r : Int32} {M' : zM} (C : zC X E cX10_tellTo 3 RX10 (some .int) 5) (hp1 : zpp p1) {M : zM} (h : f_X10_tellTo_54 p1 M = some (r, M')) : zW X E (zRQ X E (some (.int r)) M') M 54 [(0, .ref (E.2.1 1)), (1, .ref (E.2.1 p1))] [] := by
  have h : (some ((-10 : Int32) - (M.1 1 4), M)) = some (r, M') := h
  refine zw_bipush (v := (-10 : Int32)) C dX10_tellTo_54 ct_b_m10 ?_
  refine zw_aload_n C 0 rfl dX10_tellTo_56 rfl ?_
  refine zw_get (v := .int (M.1 1 4)) C (by decide) (zc_1 E) rfl zin_X10 4 (by decide) gw_1_37 rfl dX10_tellTo_57 ?_
  refine zw_isub C dX10_tellTo_60 ?_
  exact zw_ireturnE C h dX10_tellTo_61
def f_X10_tellTo_16 (p1 : Nat) : Nat → zM → Int32 → Option (Int32 × zM)
  | 0, _, _ => none
  | n + 1, M, x2 => if (100 : Int32) < x2 then (f_X10_tellTo_54 p1 M) else (zbv (f_X10_readToken M) (fun M4 => if (M4.1 1 3) = (-1 : Int32) then (some (x2, M4)) else (zbi (f_X10_readItem M4 p1 x2) (fun r7 M8 => if r7 = 0 then (f_X10_tellTo_54 p1 M8) else (f_X10_tellTo_16 p1 n M8 (x2 + (1 : Int32)))))))
set_option maxRecDepth 20000 in
set_option maxHeartbeats 2000000 in
theorem p_X10_tellTo_16 {X : zX} {E : zE} {p1 : Nat} {r : Int32} {M' : zM} (C : zC X E cX10_tellTo 3 RX10 (some .int) 5) (hp1 : zpp p1) : ∀ (n : Nat) (M : zM) (x2 : Int32), f_X10_tellTo_16 p1 n M x2 = some (r, M') → zW X E (zRQ X E (some (.int r)) M') M 16 [(0, .ref (E.2.1 1)), (1, .ref (E.2.1 p1)), (2, .int x2)] [] := by
  intro n
  induction n with
  | zero => intro M x2 h; cases h
  | succ n ih =>
    intro M x2 h
    have h : (if (100 : Int32) < x2 then (f_X10_tellTo_54 p1 M) else (zbv (f_X10_readToken M) (fun M4 => if (M4.1 1 3) = (-1 : Int32) then (some (x2, M4)) else (zbi (f_X10_readItem M4 p1 x2) (fun r7 M8 => if r7 = 0 then (f_X10_tellTo_54 p1 M8) else (f_X10_tellTo_16 p1 n M8 (x2 + (1 : Int32)))))))) = some (r, M') := h
    refine zw_iload_n C 2 rfl dX10_tellTo_16 rfl ?_
    refine zw_bipush (v := (100 : Int32)) C dX10_tellTo_17 ct_b_100 ?_
    refine zw_icmp_gt (tgt := 54) C dX10_tellTo_19 (by decide) (fun hb1 => ?_) (fun hb1 => ?_)
    · have h := zt_ hb1 h
      refine zw_sb [0, 1] rfl ?_
      exact p_X10_tellTo_54 C hp1 h
    · have h := zf_ hb1 h
      refine zw_aload_n C 0 rfl dX10_tellTo_22 rfl ?_
      obtain ⟨M4, hq2, h⟩ := zbv_e h
      refine zw_callVv (As := []) (st := []) C (m_X10_readToken C.2.2.2.2.2.2.2.1 hq2) kv_X10_readToken gw_2_56 (by decide) (by decide) (zc_1 E) rfl rfl rfl rfl (Nat.le_of_ble_eq_true rfl) dX10_tellTo_23 ?_
      refine zw_aload_n C 0 rfl dX10_tellTo_26 rfl ?_
      refine zw_get (v := .int (M4.1 1 3)) C (by decide) (zc_1 E) rfl zin_X10 3 (by decide) gw_1_36 rfl dX10_tellTo_27 ?_
      refine zw_iconst (v := (-1 : Int32)) C dX10_tellTo_30 ct_i_m1 ?_
      refine zw_icmp_ne (tgt := 36) C dX10_tellTo_31 (by decide) (fun hb5 => ?_) (fun hb5 => ?_)
      · have h := zt_ hb5 h
        refine zw_iload_n C 2 rfl dX10_tellTo_34 rfl ?_
        exact zw_ireturnE C h dX10_tellTo_35
      · have h := zf_ hb5 h
        refine zw_aload_n C 0 rfl dX10_tellTo_36 rfl ?_
        refine zw_aload_n C 1 rfl dX10_tellTo_37 rfl ?_
        refine zw_iload_n C 2 rfl dX10_tellTo_38 rfl ?_
        obtain ⟨r7, M8, hq6, h⟩ := zbi_e h
        refine zw_callVi (As := [.ref (E.2.1 p1), .int x2]) (st := []) C (m_X10_readItem C.2.2.2.2.2.2.2.1 hp1 hq6) kv_X10_readItem gw_2_64 (by decide) (by decide) (zc_1 E) rfl rfl rfl rfl (Nat.le_of_ble_eq_true rfl) dX10_tellTo_39 ?_
        refine zw_if_ne (tgt := 48) C dX10_tellTo_42 (by decide) (fun hb9 => ?_) (fun hb9 => ?_)
        · have h := zt_ hb9 h
          refine zw_goto (tgt := 54) C dX10_tellTo_45 (by decide) ?_
          refine zw_sb [0, 1] rfl ?_
          exact p_X10_tellTo_54 C hp1 h
        · have h := zf_ hb9 h
          refine zw_iinc (lv' := [(2, .int (x2 + (1 : Int32))), (0, .ref (E.2.1 1)), (1, .ref (E.2.1 p1))]) C 2 rfl dX10_tellTo_48 (ct_n_1 _) (by decide) rfl ?_
          refine zw_goto (tgt := 16) C dX10_tellTo_51 (by decide) ?_
          refine zw_sb [1, 2, 0] rfl ?_
          exact ih _ _ h
def f_X10_tellTo_0 (p1 : Nat) (M : zM) : Option (Int32 × zM) := zbv (f_X7_setFirst M p1) (fun M3 => f_X10_tellTo_16 p1 zFU (zs (zs M3 1 6 (0 : Int32)) 1 2 (0 : Int32)) (0 : Int32))
set_option maxRecDepth 20000 in
set_option maxHeartbeats 2000000 in
theorem p_X10_tellTo_0 {X : zX} {E : zE} {p1 : Nat} {r : Int32} {M' : zM} (C : zC X E cX10_tellTo 3 RX10 (some .int) 5) (hp1 : zpp p1) {M : zM} (h : f_X10_tellTo_0 p1 M = some (r, M')) : zW X E (zRQ X E (some (.int r)) M') M 0 [(0, .ref (E.2.1 1)), (1, .ref (E.2.1 p1))] [] := by
  have h : (zbv (f_X7_setFirst M p1) (fun M3 => f_X10_tellTo_16 p1 zFU (zs (zs M3 1 6 (0 : Int32)) 1 2 (0 : Int32)) (0 : Int32))) = some (r, M') := h
  refine zw_aload_n C 1 rfl dX10_tellTo_0 rfl ?_
  obtain ⟨M3, hq1, h⟩ := zbv_e h
  refine zw_callVv (As := []) (st := []) C (m_X7_setFirst C.2.2.2.2.2.2.2.1 hp1 hq1) kv_X7_setFirst gw_2_55 (by decide) hp1.lt (hp1.c E) rfl rfl rfl rfl (Nat.le_of_ble_eq_true rfl) dX10_tellTo_1 ?_
  refine zw_aload_n C 0 rfl dX10_tellTo_4 rfl ?_
  refine zw_iconst (v := (0 : Int32)) C dX10_tellTo_5 ct_i_0 ?_
  refine zw_put (ty := .boolean) C (by decide) (zc_1 E) rfl zin_X10 tyX10 tyX10_ok nmX10 6 (by decide) gw_1_39 rfl rfl rfl rfl (fun _ _ => Nat.le_of_ble_eq_true rfl) (fun _ _ => rfl) dX10_tellTo_6 ?_
  refine zw_aload_n C 0 rfl dX10_tellTo_9 rfl ?_
  refine zw_iconst (v := (0 : Int32)) C dX10_tellTo_10 ct_i_0 ?_
  refine zw_put (ty := .int) C (by decide) (zc_1 E) rfl zin_X10 tyX10 tyX10_ok nmX10 2 (by decide) gw_1_35 rfl rfl rfl rfl (fun _ _ => Nat.le_of_ble_eq_true rfl) (fun _ _ => rfl) dX10_tellTo_11 ?_
  refine zw_iconst (v := (0 : Int32)) C dX10_tellTo_14 ct_i_0 ?_
  refine zw_istore_n (lv' := [(2, .int (0 : Int32)), (0, .ref (E.2.1 1)), (1, .ref (E.2.1 p1))]) C dX10_tellTo_15 rfl (by decide) rfl ?_
  refine zw_sb [1, 2, 0] rfl ?_
  exact p_X10_tellTo_16 C hp1 zFU _ _ h
def f_X10_tellTo (M : zM) (p1 : Nat) : Option (Int32 × zM) := f_X10_tellTo_0 p1 M
theorem m_X10_tellTo {l : Launch} {E : zE} (hI : zI E) {M M' : zM} {p1 : Nat} {r : Int32} (hp1 : zpp p1) (h : f_X10_tellTo M p1 = some (r, M')) : zMet l E yX10_tellTo cX10_tellTo 3 (some .int) 5 [.ref (E.2.1 1), .ref (E.2.1 p1)] M M' (some (.int r)) := zm_of hI (by decide) (Nat.le_of_ble_eq_true rfl) (fun X _ C => p_X10_tellTo_0 C hp1 h)
theorem kv_X10_tellTo : zKV yX10_tellTo cX10_tellTo 3 (some .int) 1 := ⟨⟨gw_2_52, gw_2_53, gw_1_2, gw_2_54⟩, ⟨by decide, by decide, by decide +kernel⟩, by decide⟩
