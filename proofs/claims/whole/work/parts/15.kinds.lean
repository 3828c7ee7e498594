-- WingDoor$DoorKind.worth(LWingDoor$Moment;I)I, 10 instructions, depth 2
def f_X2_worth_0 (c : Nat) (p1 : Nat) (x2 : Int32) (M : zM) : Option (Int32 × zM) := zbi (f_X5_bulkOf (zsL M c 0 ((M.2 c 0) + (1 : Int64))) p1 x2) (fun r2 M3 => some (r2, M3))
set_option maxRecDepth 20000 in
set_option maxHeartbeats 2000000 in
theorem p_X2_worth_0 {X : zX} {E : zE} {c : Nat} {p1 : Nat} {x2 : Int32} {r : Int32} {M' : zM} (C : zC X E cX2_worth 3 RX2 (some .int) 2) (hc : zkd c) (hp1 : zmp p1) {M : zM} (h : f_X2_worth_0 c p1 x2 M = some (r, M')) : zW X E (zRQ X E (some (.int r)) M') M 0 [(0, .ref (E.2.1 c)), (1, .ref (E.2.1 p1)), (2, .int x2)] [] := by
  have h : (zbi (f_X5_bulkOf (zsL M c 0 ((M.2 c 0) + (1 : Int64))) p1 x2) (fun r2 M3 => some (r2, M3))) = some (r, M') := h
  refine zw_aload_n C 0 rfl dX2_worth_0 rfl ?_
  refine zw_dup C rfl dX2_worth_1 ?_
  refine zw_kget C hc gw_1_185 (Or.inl rfl) dX2_worth_2 ?_
  refine zw_lconst (v := (1 : Int64)) C dX2_worth_5 rfl ?_
  refine zw_ladd C dX2_worth_6 ?_
  refine zw_kput C hc gw_1_185 (Or.inl rfl) dX2_worth_7 ?_
  refine zw_aload_n C 1 rfl dX2_worth_10 rfl ?_
  refine zw_iload_n C 2 rfl dX2_worth_11 rfl ?_
  obtain ⟨r2, M3, hq1, h⟩ := zbi_e h
  refine zw_callVi (As := [.int x2]) (st := []) C (m_X5_bulkOf C.2.2.2.2.2.2.2.1 hp1 hq1) kv_X5_bulkOf gw_3_169 (by decide) hp1.lt (hp1.c E) rfl rfl rfl rfl (Nat.le_of_ble_eq_true rfl) dX2_worth_12 ?_
  exact zw_ireturnE C h dX2_worth_15
def f_X2_worth (M : zM) (c : Nat) (p1 : Nat) (x2 : Int32) : Option (Int32 × zM) := f_X2_worth_0 c p1 x2 M
theorem m_X2_worth {l : Launch} {E : zE} (hI : zI E) {M M' : zM} {c : Nat} {p1 : Nat} {x2 : Int32} {r : Int32} (hc : zkd c) (hp1 : zmp p1) (h : f_X2_worth M c p1 x2 = some (r, M')) : zMet l E yX2_worth cX2_worth 3 (some .int) 2 [.ref (E.2.1 c), .ref (E.2.1 p1), .int x2] M M' (some (.int r)) := zm_of hI (by decide) (Nat.le_of_ble_eq_true rfl) (fun X _ C => p_X2_worth_0 C hc hp1 h)
theorem ku_X2_worth : zKU yX2_worth cX2_worth 3 (some .int) 2 := ⟨⟨gw_3_138, gw_3_140, gw_1_7, gw_3_168⟩, ⟨by decide, by decide +kernel⟩, by decide⟩
-- WingDoor$BankKind.worth(LWingDoor$Moment;I)I, 15 instructions, depth 3
def f_X0_worth_0 (c : Nat) (p1 : Nat) (x2 : Int32) (M : zM) : Option (Int32 × zM) := zbi (f_X2_worth (zsL M c 0 ((M.2 c 0) + (10 : Int64))) c p1 x2) (fun r2 M3 => zbi (f_X5_pushOf M3 p1 x2) (fun r5 M6 => some (r2 + r5, M6)))
set_option maxRecDepth 20000 in
set_option maxHeartbeats 2000000 in
theorem p_X0_worth_0 {X : zX} {E : zE} {c : Nat} {p1 : Nat} {x2 : Int32} {r : Int32} {M' : zM} (C : zC X E cX0_worth 3 RX0 (some .int) 3) (hc : zkd c) (hp1 : zmp p1) {M : zM} (h : f_X0_worth_0 c p1 x2 M = some (r, M')) : zW X E (zRQ X E (some (.int r)) M') M 0 [(0, .ref (E.2.1 c)), (1, .ref (E.2.1 p1)), (2, .int x2)] [] := by
  have h : (zbi (f_X2_worth (zsL M c 0 ((M.2 c 0) + (10 : Int64))) c p1 x2) (fun r2 M3 => zbi (f_X5_pushOf M3 p1 x2) (fun r5 M6 => some (r2 + r5, M6)))) = some (r, M') := h
  refine zw_aload_n C 0 rfl dX0_worth_0 rfl ?_
  refine zw_dup C rfl dX0_worth_1 ?_
  refine zw_kget C hc gw_1_186 (Or.inr gw_1_187) dX0_worth_2 ?_
  refine zw_ldc2 (v := (10 : Int64)) C gw_3_144 dX0_worth_5 ?_
  refine zw_ladd C dX0_worth_8 ?_
  refine zw_kput C hc gw_1_186 (Or.inr gw_1_187) dX0_worth_9 ?_
  refine zw_aload_n C 0 rfl dX0_worth_12 rfl ?_
  refine zw_aload_n C 1 rfl dX0_worth_13 rfl ?_
  refine zw_iload_n C 2 rfl dX0_worth_14 rfl ?_
  obtain ⟨r2, M3, hq1, h⟩ := zbi_e h
  refine zw_callSU (As := [.ref (E.2.1 p1), .int x2]) (st := []) C (m_X2_worth C.2.2.2.2.2.2.2.1 hc hp1 hq1) ku_X2_worth gw_3_145 gw_1_208 (by decide) hc rfl rfl (Nat.le_of_ble_eq_true rfl) dX0_worth_15 ?_
  refine zw_aload_n C 1 rfl dX0_worth_18 rfl ?_
  refine zw_iload_n C 2 rfl dX0_worth_19 rfl ?_
  obtain ⟨r5, M6, hq4, h⟩ := zbi_e h
  refine zw_callVi (As := [.int x2]) (st := [.int r2]) C (m_X5_pushOf C.2.2.2.2.2.2.2.1 hp1 hq4) kv_X5_pushOf gw_3_146 (by decide) hp1.lt (hp1.c E) rfl rfl rfl rfl (Nat.le_of_ble_eq_true rfl) dX0_worth_20 ?_
  refine zw_iadd C dX0_worth_23 ?_
  exact zw_ireturnE C h dX0_worth_24
def f_X0_worth (M : zM) (c : Nat) (p1 : Nat) (x2 : Int32) : Option (Int32 × zM) := f_X0_worth_0 c p1 x2 M
theorem m_X0_worth {l : Launch} {E : zE} (hI : zI E) {M M' : zM} {c : Nat} {p1 : Nat} {x2 : Int32} {r : Int32} (hc : zkd c) (hp1 : zmp p1) (h : f_X0_worth M c p1 x2 = some (r, M')) : zMet l E yX0_worth cX0_worth 3 (some .int) 3 [.ref (E.2.1 c), .ref (E.2.1 p1), .int x2] M M' (some (.int r)) := zm_of hI (by decide) (Nat.le_of_ble_eq_true rfl) (fun X _ C => p_X0_worth_0 C hc hp1 h)
theorem ku_X0_worth : zKU yX0_worth cX0_worth 3 (some .int) 2 := ⟨⟨gw_3_142, gw_5_61, gw_1_8, gw_3_143⟩, ⟨by decide, by decide +kernel⟩, by decide⟩
-- WingDoor$HotelKind.worth(LWingDoor$Moment;I)I, 15 instructions, depth 3
def f_X4_worth_0 (c : Nat) (p1 : Nat) (x2 : Int32) (M : zM) : Option (Int32 × zM) := zbi (f_X2_worth (zsL M c 0 ((M.2 c 0) + (100 : Int64))) c p1 x2) (fun r2 M3 => zbi (f_X5_howManyAre M3 p1 (0 : Int32)) (fun r5 M6 => some (r2 - r5, M6)))
set_option maxRecDepth 20000 in
set_option maxHeartbeats 2000000 in
theorem p_X4_worth_0 {X : zX} {E : zE} {c : Nat} {p1 : Nat} {x2 : Int32} {r : Int32} {M' : zM} (C : zC X E cX4_worth 3 RX4 (some .int) 3) (hc : zkd c) (hp1 : zmp p1) {M : zM} (h : f_X4_worth_0 c p1 x2 M = some (r, M')) : zW X E (zRQ X E (some (.int r)) M') M 0 [(0, .ref (E.2.1 c)), (1, .ref (E.2.1 p1)), (2, .int x2)] [] := by
  have h : (zbi (f_X2_worth (zsL M c 0 ((M.2 c 0) + (100 : Int64))) c p1 x2) (fun r2 M3 => zbi (f_X5_howManyAre M3 p1 (0 : Int32)) (fun r5 M6 => some (r2 - r5, M6)))) = some (r, M') := h
  refine zw_aload_n C 0 rfl dX4_worth_0 rfl ?_
  refine zw_dup C rfl dX4_worth_1 ?_
  refine zw_kget C hc gw_1_192 (Or.inr gw_1_193) dX4_worth_2 ?_
  refine zw_ldc2 (v := (100 : Int64)) C gw_3_159 dX4_worth_5 ?_
  refine zw_ladd C dX4_worth_8 ?_
  refine zw_kput C hc gw_1_192 (Or.inr gw_1_193) dX4_worth_9 ?_
  refine zw_aload_n C 0 rfl dX4_worth_12 rfl ?_
  refine zw_aload_n C 1 rfl dX4_worth_13 rfl ?_
  refine zw_iload_n C 2 rfl dX4_worth_14 rfl ?_
  obtain ⟨r2, M3, hq1, h⟩ := zbi_e h
  refine zw_callSU (As := [.ref (E.2.1 p1), .int x2]) (st := []) C (m_X2_worth C.2.2.2.2.2.2.2.1 hc hp1 hq1) ku_X2_worth gw_3_160 gw_1_216 (by decide) hc rfl rfl (Nat.le_of_ble_eq_true rfl) dX4_worth_15 ?_
  refine zw_aload_n C 1 rfl dX4_worth_18 rfl ?_
  refine zw_iconst (v := (0 : Int32)) C dX4_worth_19 ct_i_0 ?_
  obtain ⟨r5, M6, hq4, h⟩ := zbi_e h
  refine zw_callVi (As := [.int (0 : Int32)]) (st := [.int r2]) C (m_X5_howManyAre C.2.2.2.2.2.2.2.1 hp1 hq4) kv_X5_howManyAre gw_3_161 (by decide) hp1.lt (hp1.c E) rfl rfl rfl rfl (Nat.le_of_ble_eq_true rfl) dX4_worth_20 ?_
  refine zw_isub C dX4_worth_23 ?_
  exact zw_ireturnE C h dX4_worth_24
def f_X4_worth (M : zM) (c : Nat) (p1 : Nat) (x2 : Int32) : Option (Int32 × zM) := f_X4_worth_0 c p1 x2 M
theorem m_X4_worth {l : Launch} {E : zE} (hI : zI E) {M M' : zM} {c : Nat} {p1 : Nat} {x2 : Int32} {r : Int32} (hc : zkd c) (hp1 : zmp p1) (h : f_X4_worth M c p1 x2 = some (r, M')) : zMet l E yX4_worth cX4_worth 3 (some .int) 3 [.ref (E.2.1 c), .ref (E.2.1 p1), .int x2] M M' (some (.int r)) := zm_of hI (by decide) (Nat.le_of_ble_eq_true rfl) (fun X _ C => p_X4_worth_0 C hc hp1 h)
theorem ku_X4_worth : zKU yX4_worth cX4_worth 3 (some .int) 2 := ⟨⟨gw_3_157, gw_5_62, gw_1_9, gw_3_158⟩, ⟨by decide, by decide +kernel⟩, by decide⟩
-- WingDoor$CourtKind.worth(LWingDoor$Moment;I)I, 13 instructions, depth 4
def f_X1_worth_0 (c : Nat) (p1 : Nat) (x2 : Int32) (M : zM) : Option (Int32 × zM) := zbi (f_X0_worth (zsL M c 0 ((M.2 c 0) + (1000 : Int64))) c p1 x2) (fun r2 M3 => some ((2 : Int32) * r2, M3))
set_option maxRecDepth 20000 in
set_option maxHeartbeats 2000000 in
theorem p_X1_worth_0 {X : zX} {E : zE} {c : Nat} {p1 : Nat} {x2 : Int32} {r : Int32} {M' : zM} (C : zC X E cX1_worth 3 RX1 (some .int) 4) (hc : zkd c) (hp1 : zmp p1) {M : zM} (h : f_X1_worth_0 c p1 x2 M = some (r, M')) : zW X E (zRQ X E (some (.int r)) M') M 0 [(0, .ref (E.2.1 c)), (1, .ref (E.2.1 p1)), (2, .int x2)] [] := by
  have h : (zbi (f_X0_worth (zsL M c 0 ((M.2 c 0) + (1000 : Int64))) c p1 x2) (fun r2 M3 => some ((2 : Int32) * r2, M3))) = some (r, M') := h
  refine zw_aload_n C 0 rfl dX1_worth_0 rfl ?_
  refine zw_dup C rfl dX1_worth_1 ?_
  refine zw_kget C hc gw_1_188 (Or.inr gw_1_189) dX1_worth_2 ?_
  refine zw_ldc2 (v := (1000 : Int64)) C gw_3_150 dX1_worth_5 ?_
  refine zw_ladd C dX1_worth_8 ?_
  refine zw_kput C hc gw_1_188 (Or.inr gw_1_189) dX1_worth_9 ?_
  refine zw_iconst (v := (2 : Int32)) C dX1_worth_12 ct_i_2 ?_
  refine zw_aload_n C 0 rfl dX1_worth_13 rfl ?_
  refine zw_aload_n C 1 rfl dX1_worth_14 rfl ?_
  refine zw_iload_n C 2 rfl dX1_worth_15 rfl ?_
  obtain ⟨r2, M3, hq1, h⟩ := zbi_e h
  refine zw_callSU (As := [.ref (E.2.1 p1), .int x2]) (st := [.int (2 : Int32)]) C (m_X0_worth C.2.2.2.2.2.2.2.1 hc hp1 hq1) ku_X0_worth gw_3_151 gw_1_224 (by decide) hc rfl rfl (Nat.le_of_ble_eq_true rfl) dX1_worth_16 ?_
  refine zw_imul C dX1_worth_19 ?_
  exact zw_ireturnE C h dX1_worth_20
def f_X1_worth (M : zM) (c : Nat) (p1 : Nat) (x2 : Int32) : Option (Int32 × zM) := f_X1_worth_0 c p1 x2 M
theorem m_X1_worth {l : Launch} {E : zE} (hI : zI E) {M M' : zM} {c : Nat} {p1 : Nat} {x2 : Int32} {r : Int32} (hc : zkd c) (hp1 : zmp p1) (h : f_X1_worth M c p1 x2 = some (r, M')) : zMet l E yX1_worth cX1_worth 3 (some .int) 4 [.ref (E.2.1 c), .ref (E.2.1 p1), .int x2] M M' (some (.int r)) := zm_of hI (by decide) (Nat.le_of_ble_eq_true rfl) (fun X _ C => p_X1_worth_0 C hc hp1 h)
-- WingDoor$GrandKind.worth(LWingDoor$Moment;I)I, 13 instructions, depth 4
def f_X3_worth_0 (c : Nat) (p1 : Nat) (x2 : Int32) (M : zM) : Option (Int32 × zM) := zbi (f_X4_worth (zsL M c 0 ((M.2 c 0) + (10000 : Int64))) c p1 x2) (fun r2 M3 => some (r2 + x2, M3))
set_option maxRecDepth 20000 in
set_option maxHeartbeats 2000000 in
theorem p_X3_worth_0 {X : zX} {E : zE} {c : Nat} {p1 : Nat} {x2 : Int32} {r : Int32} {M' : zM} (C : zC X E cX3_worth 3 RX3 (some .int) 4) (hc : zkd c) (hp1 : zmp p1) {M : zM} (h : f_X3_worth_0 c p1 x2 M = some (r, M')) : zW X E (zRQ X E (some (.int r)) M') M 0 [(0, .ref (E.2.1 c)), (1, .ref (E.2.1 p1)), (2, .int x2)] [] := by
  have h : (zbi (f_X4_worth (zsL M c 0 ((M.2 c 0) + (10000 : Int64))) c p1 x2) (fun r2 M3 => some (r2 + x2, M3))) = some (r, M') := h
  refine zw_aload_n C 0 rfl dX3_worth_0 rfl ?_
  refine zw_dup C rfl dX3_worth_1 ?_
  refine zw_kget C hc gw_1_190 (Or.inr gw_1_191) dX3_worth_2 ?_
  refine zw_ldc2 (v := (10000 : Int64)) C gw_3_155 dX3_worth_5 ?_
  refine zw_ladd C dX3_worth_8 ?_
  refine zw_kput C hc gw_1_190 (Or.inr gw_1_191) dX3_worth_9 ?_
  refine zw_aload_n C 0 rfl dX3_worth_12 rfl ?_
  refine zw_aload_n C 1 rfl dX3_worth_13 rfl ?_
  refine zw_iload_n C 2 rfl dX3_worth_14 rfl ?_
  obtain ⟨r2, M3, hq1, h⟩ := zbi_e h
  refine zw_callSU (As := [.ref (E.2.1 p1), .int x2]) (st := []) C (m_X4_worth C.2.2.2.2.2.2.2.1 hc hp1 hq1) ku_X4_worth gw_3_156 gw_1_232 (by decide) hc rfl rfl (Nat.le_of_ble_eq_true rfl) dX3_worth_15 ?_
  refine zw_iload_n C 2 rfl dX3_worth_18 rfl ?_
  refine zw_iadd C dX3_worth_19 ?_
  exact zw_ireturnE C h dX3_worth_20
def f_X3_worth (M : zM) (c : Nat) (p1 : Nat) (x2 : Int32) : Option (Int32 × zM) := f_X3_worth_0 c p1 x2 M
theorem m_X3_worth {l : Launch} {E : zE} (hI : zI E) {M M' : zM} {c : Nat} {p1 : Nat} {x2 : Int32} {r : Int32} (hc : zkd c) (hp1 : zmp p1) (h : f_X3_worth M c p1 x2 = some (r, M')) : zMet l E yX3_worth cX3_worth 3 (some .int) 4 [.ref (E.2.1 c), .ref (E.2.1 p1), .int x2] M M' (some (.int r)) := zm_of hI (by decide) (Nat.le_of_ble_eq_true rfl) (fun X _ C => p_X3_worth_0 C hc hp1 h)
-- WingDoor$StoreKind.worth(LWingDoor$Moment;I)I, 14 instructions, depth 3
def f_X9_worth_0 (c : Nat) (p1 : Nat) (x2 : Int32) (M : zM) : Option (Int32 × zM) := zbi (f_X2_worth (zsL M c 0 ((M.2 c 0) + (100000 : Int64))) c p1 x2) (fun r2 M3 => some (r2 + (M3.1 p1 1), M3))
set_option maxRecDepth 20000 in
set_option maxHeartbeats 2000000 in
theorem p_X9_worth_0 {X : zX} {E : zE} {c : Nat} {p1 : Nat} {x2 : Int32} {r : Int32} {M' : zM} (C : zC X E cX9_worth 3 RX9 (some .int) 3) (hc : zkd c) (hp1 : zmp p1) {M : zM} (h : f_X9_worth_0 c p1 x2 M = some (r, M')) : zW X E (zRQ X E (some (.int r)) M') M 0 [(0, .ref (E.2.1 c)), (1, .ref (E.2.1 p1)), (2, .int x2)] [] := by
  have h : (zbi (f_X2_worth (zsL M c 0 ((M.2 c 0) + (100000 : Int64))) c p1 x2) (fun r2 M3 => some (r2 + (M3.1 p1 1), M3))) = some (r, M') := h
  refine zw_aload_n C 0 rfl dX9_worth_0 rfl ?_
  refine zw_dup C rfl dX9_worth_1 ?_
  refine zw_kget C hc gw_1_194 (Or.inr gw_1_195) dX9_worth_2 ?_
  refine zw_ldc2 (v := (100000 : Int64)) C gw_3_166 dX9_worth_5 ?_
  refine zw_ladd C dX9_worth_8 ?_
  refine zw_kput C hc gw_1_194 (Or.inr gw_1_195) dX9_worth_9 ?_
  refine zw_aload_n C 0 rfl dX9_worth_12 rfl ?_
  refine zw_aload_n C 1 rfl dX9_worth_13 rfl ?_
  refine zw_iload_n C 2 rfl dX9_worth_14 rfl ?_
  obtain ⟨r2, M3, hq1, h⟩ := zbi_e h
  refine zw_callSU (As := [.ref (E.2.1 p1), .int x2]) (st := []) C (m_X2_worth C.2.2.2.2.2.2.2.1 hc hp1 hq1) ku_X2_worth gw_3_167 gw_2_0 (by decide) hc rfl rfl (Nat.le_of_ble_eq_true rfl) dX9_worth_15 ?_
  refine zw_aload_n C 1 rfl dX9_worth_18 rfl ?_
  refine zw_getN (v := .int (M3.1 p1 1)) C hp1.lt (hp1.c E) rfl zin_X5 1 (by decide) (List.mem_of_getElem? (i := 12) rfl) rfl dX9_worth_19 ?_
  refine zw_iadd C dX9_worth_22 ?_
  exact zw_ireturnE C h dX9_worth_23
def f_X9_worth (M : zM) (c : Nat) (p1 : Nat) (x2 : Int32) : Option (Int32 × zM) := f_X9_worth_0 c p1 x2 M
theorem m_X9_worth {l : Launch} {E : zE} (hI : zI E) {M M' : zM} {c : Nat} {p1 : Nat} {x2 : Int32} {r : Int32} (hc : zkd c) (hp1 : zmp p1) (h : f_X9_worth M c p1 x2 = some (r, M')) : zMet l E yX9_worth cX9_worth 3 (some .int) 3 [.ref (E.2.1 c), .ref (E.2.1 p1), .int x2] M M' (some (.int r)) := zm_of hI (by decide) (Nat.le_of_ble_eq_true rfl) (fun X _ C => p_X9_worth_0 C hc hp1 h)
def f_worth (M : zM) (j p : Nat) (g : Int32) : Option (Int32 × zM) := match j with
  | 0 => f_X2_worth M 19 p g
  | 1 => f_X0_worth M 20 p g
  | 2 => f_X4_worth M 21 p g
  | 3 => f_X1_worth M 22 p g
  | 4 => f_X3_worth M 23 p g
  | _ => f_X9_worth M 24 p g
set_option maxRecDepth 20000 in
theorem zw_worth {X : zX} {E : zE} {cc : ByteArray} {nL : Nat} {rt : Option FieldType} {d : Nat} {Q : State → Prop} {M M1 : zM} {pc idx j p : Nat} {g r : Int32} {lv : List (Nat × Value)} {st : List Value} (C : zC X E cc nL RX11 rt d) (hj : j < 6) (hp : zmp p) (hq : f_worth M j p g = some (r, M1)) (hlink : Cond.methodLink RX11 idx yX2_worth ∈ zG) (hdd : 4 < d) (hst : (st.map fun v => v.category).sum ≤ 8) (hd : decode cc pc = .ok (.invokevirtual idx, 3)) (k : zW X E Q M1 (pc + 3) lv (.int r :: st)) : zW X E Q M pc lv (.int g :: .ref (E.2.1 p) :: .ref (E.2.1 (19 + j)) :: st) := by
  rcases (show j = 0 ∨ j = 1 ∨ j = 2 ∨ j = 3 ∨ j = 4 ∨ j = 5 by omega) with rfl | rfl | rfl | rfl | rfl | rfl
  · exact zw_callU (n := 2) (x := yX2_worth) (owner := RX2) (As := [.ref (E.2.1 p), .int g]) (st := st) C (m_X2_worth C.2.2.2.2.2.2.2.1 zkk_19.d hp hq) hlink gw_3_140 gw_3_138 gw_3_168 gw_3_139 gw_3_138 gw_1_7 gw_3_168 ⟨by decide, by decide, by decide +kernel⟩ (by decide) (by omega) zkk_19 rfl rfl hst hd k
  · exact zw_callU (n := 2) (x := yX2_worth) (owner := RX2) (As := [.ref (E.2.1 p), .int g]) (st := st) C (m_X0_worth C.2.2.2.2.2.2.2.1 zkk_20.d hp hq) hlink gw_3_140 gw_3_138 gw_3_168 gw_3_141 gw_3_142 gw_1_8 gw_3_143 ⟨by decide, by decide, by decide +kernel⟩ (by decide) (by omega) zkk_20 rfl rfl hst hd k
  · exact zw_callU (n := 2) (x := yX2_worth) (owner := RX2) (As := [.ref (E.2.1 p), .int g]) (st := st) C (m_X4_worth C.2.2.2.2.2.2.2.1 zkk_21.d hp hq) hlink gw_3_140 gw_3_138 gw_3_168 gw_3_162 gw_3_157 gw_1_9 gw_3_158 ⟨by decide, by decide, by decide +kernel⟩ (by decide) (by omega) zkk_21 rfl rfl hst hd k
  · exact zw_callU (n := 2) (x := yX2_worth) (owner := RX2) (As := [.ref (E.2.1 p), .int g]) (st := st) C (m_X1_worth C.2.2.2.2.2.2.2.1 zkk_22.d hp hq) hlink gw_3_140 gw_3_138 gw_3_168 gw_3_147 gw_3_148 gw_1_10 gw_3_149 ⟨by decide, by decide, by decide +kernel⟩ (by decide) (by omega) zkk_22 rfl rfl hst hd k
  · exact zw_callU (n := 2) (x := yX2_worth) (owner := RX2) (As := [.ref (E.2.1 p), .int g]) (st := st) C (m_X3_worth C.2.2.2.2.2.2.2.1 zkk_23.d hp hq) hlink gw_3_140 gw_3_138 gw_3_168 gw_3_152 gw_3_153 gw_1_11 gw_3_154 ⟨by decide, by decide, by decide +kernel⟩ (by decide) (by omega) zkk_23 rfl rfl hst hd k
  · exact zw_callU (n := 2) (x := yX2_worth) (owner := RX2) (As := [.ref (E.2.1 p), .int g]) (st := st) C (m_X9_worth C.2.2.2.2.2.2.2.1 zkk_24.d hp hq) hlink gw_3_140 gw_3_138 gw_3_168 gw_3_163 gw_3_164 gw_1_12 gw_3_165 ⟨by decide, by decide, by decide +kernel⟩ (by decide) (by omega) zkk_24 rfl rfl hst hd k
-- WingDoor.rate(II)I, 23 instructions, depth 5
def f_X11_rate_24 (x1 : Int32) (x2 : Int32) (M : zM) : Option (Int32 × zM) := some ((-1000000 : Int32), M)
set_option maxRecDepth 20000 in
set_option maxHeartbeats 2000000 in
theorem p_X11_rate_24 {X : zX} {E : zE} {x1 : Int32} {x2 : Int32} {r : Int32} {M' : zM} (C : zC X E cX11_rate 3 RX11 (some .int) 5) {M : zM} (h : f_X11_rate_24 x1 x2 M = some (r, M')) : zW X E (zRQ X E (some (.int r)) M') M 24 [(0, .ref (E.2.1 0)), (1, .int x1), (2, .int x2)] [] := by
  have h : (some ((-1000000 : Int32), M)) = some (r, M') := h
  refine zw_ldc (v := (-1000000 : Int32)) C gw_3_136 dX11_rate_24 ?_
  exact zw_ireturnE C h dX11_rate_26
def f_X11_rate_0 (x1 : Int32) (x2 : Int32) (M : zM) : Option (Int32 × zM) := if x1 < 0 then (f_X11_rate_24 x1 x2 M) else (if (Int32.ofNat 6) ≤ x1 then (f_X11_rate_24 x1 x2 M) else (zbi (f_X5_hasGoer M 37 x2) (fun r4 M5 => if r4 = 0 then (f_X11_rate_24 x1 x2 M5) else (zg (zin x1 6) (zbi (f_worth M5 x1.toNatClampNeg 37 x2) (fun r9 M10 => some (r9, M10)))))))
set_option maxRecDepth 20000 in
set_option maxHeartbeats 2000000 in
theorem p_X11_rate_0 {X : zX} {E : zE} {x1 : Int32} {x2 : Int32} {r : Int32} {M' : zM} (C : zC X E cX11_rate 3 RX11 (some .int) 5) {M : zM} (h : f_X11_rate_0 x1 x2 M = some (r, M')) : zW X E (zRQ X E (some (.int r)) M') M 0 [(0, .ref (E.2.1 0)), (1, .int x1), (2, .int x2)] [] := by
  have h : (if x1 < 0 then (f_X11_rate_24 x1 x2 M) else (if (Int32.ofNat 6) ≤ x1 then (f_X11_rate_24 x1 x2 M) else (zbi (f_X5_hasGoer M 37 x2) (fun r4 M5 => if r4 = 0 then (f_X11_rate_24 x1 x2 M5) else (zg (zin x1 6) (zbi (f_worth M5 x1.toNatClampNeg 37 x2) (fun r9 M10 => some (r9, M10)))))))) = some (r, M') := h
  refine zw_iload_n C 1 rfl dX11_rate_0 rfl ?_
  refine zw_if_lt (tgt := 24) C dX11_rate_1 (by decide) (fun hb1 => ?_) (fun hb1 => ?_)
  · have h := zt_ hb1 h
    exact p_X11_rate_24 C h
  · have h := zf_ hb1 h
    refine zw_iload_n C 1 rfl dX11_rate_4 rfl ?_
    refine zw_aload_n C 0 rfl dX11_rate_5 rfl ?_
    refine zw_get (v := .ref (E.2.1 18)) C (by decide) (zc_0 E) rfl zin_X11 10 (by decide) gw_2_11 rfl dX11_rate_6 ?_
    refine zw_alen (t := 4) (ty := .object "WingDoor$DoorKind") C zqa_18.1 (zqa_18.2.2 _ _ _) rfl rfl dX11_rate_9 ?_
    refine zw_icmp_ge (tgt := 24) C dX11_rate_10 (by decide) (fun hb2 => ?_) (fun hb2 => ?_)
    · have h := zt_ hb2 h
      exact p_X11_rate_24 C h
    · have h := zf_ hb2 h
      refine zw_aload_n C 0 rfl dX11_rate_13 rfl ?_
      refine zw_get (v := .ref (E.2.1 37)) C (by decide) (zc_0 E) rfl zin_X11 3 (by decide) gw_2_4 rfl dX11_rate_14 ?_
      refine zw_iload_n C 2 rfl dX11_rate_17 rfl ?_
      obtain ⟨r4, M5, hq3, h⟩ := zbi_e h
      refine zw_callVi (As := [.int x2]) (st := []) C (m_X5_hasGoer C.2.2.2.2.2.2.2.1 zmp_37 hq3) kv_X5_hasGoer gw_2_127 (by decide) zmp_37.lt (zmp_37.c E) rfl rfl rfl rfl (Nat.le_of_ble_eq_true rfl) dX11_rate_18 ?_
      refine zw_if_ne (tgt := 27) C dX11_rate_21 (by decide) (fun hb6 => ?_) (fun hb6 => ?_)
      · have h := zt_ hb6 h
        exact p_X11_rate_24 C h
      · have h := zf_ hb6 h
        refine zw_aload_n C 0 rfl dX11_rate_27 rfl ?_
        refine zw_get (v := .ref (E.2.1 18)) C (by decide) (zc_0 E) rfl zin_X11 10 (by decide) gw_2_11 rfl dX11_rate_28 ?_
        refine zw_iload_n C 1 rfl dX11_rate_31 rfl ?_
        obtain ⟨hi7, h⟩ := zg_e h
        refine zw_aald C zqa_18 (zin_e hi7) dX11_rate_32 ?_
        have hi7l := zin_lt hi7
        refine zw_aload_n C 0 rfl dX11_rate_33 rfl ?_
        refine zw_get (v := .ref (E.2.1 37)) C (by decide) (zc_0 E) rfl zin_X11 3 (by decide) gw_2_4 rfl dX11_rate_34 ?_
        refine zw_iload_n C 2 rfl dX11_rate_37 rfl ?_
        obtain ⟨r9, M10, hq8, h⟩ := zbi_e h
        refine zw_worth (st := []) C hi7l zmp_37 hq8 gw_3_137 (by decide) (Nat.le_of_ble_eq_true rfl) dX11_rate_38 ?_
        exact zw_ireturnE C h dX11_rate_41
def f_X11_rate (M : zM) (x1 : Int32) (x2 : Int32) : Option (Int32 × zM) := f_X11_rate_0 x1 x2 M
theorem m_X11_rate {l : Launch} {E : zE} (hI : zI E) {M M' : zM} {x1 : Int32} {x2 : Int32} {r : Int32} (h : f_X11_rate M x1 x2 = some (r, M')) : zMet l E yX11_rate cX11_rate 3 (some .int) 5 [.ref (E.2.1 0), .int x1, .int x2] M M' (some (.int r)) := zm_of hI (by decide) (Nat.le_of_ble_eq_true rfl) (fun X _ C => p_X11_rate_0 C h)
theorem kv_X11_rate : zKV yX11_rate cX11_rate 3 (some .int) 2 := ⟨⟨gw_3_133, gw_3_134, gw_1_1, gw_3_135⟩, ⟨by decide, by decide, by decide +kernel⟩, by decide⟩
-- WingDoor.trace()J, 21 instructions, depth 0
def f_X11_trace_4 : Nat → zM → Int64 → Int32 → Option (Int64 × zM)
  | 0, _, _, _ => none
  | n + 1, M, x1, x3 => if (Int32.ofNat 6) ≤ x3 then (some (x1, M)) else (zg (zin x3 6) (f_X11_trace_4 n M (x1 + (M.2 (19 + x3.toNatClampNeg) 0)) (x3 + (1 : Int32))))
set_option maxRecDepth 20000 in
set_option maxHeartbeats 2000000 in
theorem p_X11_trace_4 {X : zX} {E : zE} {r : Int64} {M' : zM} (C : zC X E cX11_trace 4 RX11 (some .long) 0) : ∀ (n : Nat) (M : zM) (x1 : Int64) (x3 : Int32), f_X11_trace_4  n M x1 x3 = some (r, M') → zW X E (zRQ X E (some (.long r)) M') M 4 [(0, .ref (E.2.1 0)), (1, .long x1), (3, .int x3)] [] := by
  intro n
  induction n with
  | zero => intro M x1 x3 h; cases h
  | succ n ih =>
    intro M x1 x3 h
    have h : (if (Int32.ofNat 6) ≤ x3 then (some (x1, M)) else (zg (zin x3 6) (f_X11_trace_4 n M (x1 + (M.2 (19 + x3.toNatClampNeg) 0)) (x3 + (1 : Int32))))) = some (r, M') := h
    refine zw_iload_n C 2 rfl dX11_trace_4 rfl ?_
    refine zw_aload_n C 0 rfl dX11_trace_5 rfl ?_
    refine zw_get (v := .ref (E.2.1 18)) C (by decide) (zc_0 E) rfl zin_X11 10 (by decide) gw_2_11 rfl dX11_trace_6 ?_
    refine zw_alen (t := 4) (ty := .object "WingDoor$DoorKind") C zqa_18.1 (zqa_18.2.2 _ _ _) rfl rfl dX11_trace_9 ?_
    refine zw_icmp_ge (tgt := 31) C dX11_trace_10 (by decide) (fun hb1 => ?_) (fun hb1 => ?_)
    · have h := zt_ hb1 h
      refine zw_lload_n C 1 rfl dX11_trace_31 rfl ?_
      exact zw_lreturnE C h dX11_trace_32
    · have h := zf_ hb1 h
      refine zw_lload_n C 1 rfl dX11_trace_13 rfl ?_
      refine zw_aload_n C 0 rfl dX11_trace_14 rfl ?_
      refine zw_get (v := .ref (E.2.1 18)) C (by decide) (zc_0 E) rfl zin_X11 10 (by decide) gw_2_11 rfl dX11_trace_15 ?_
      refine zw_iload_n C 2 rfl dX11_trace_18 rfl ?_
      obtain ⟨hi2, h⟩ := zg_e h
      refine zw_aald C zqa_18 (zin_e hi2) dX11_trace_19 ?_
      have hi2l := zin_lt hi2
      refine zw_kget C (zkd_of hi2l) gw_1_196 (Or.inl rfl) dX11_trace_20 ?_
      refine zw_ladd C dX11_trace_23 ?_
      refine zw_lstore_n (lv' := [(1, .long (x1 + (M.2 (19 + x3.toNatClampNeg) 0))), (0, .ref (E.2.1 0)), (3, .int x3)]) C dX11_trace_24 rfl (by decide) rfl ?_
      refine zw_iinc (lv' := [(3, .int (x3 + (1 : Int32))), (1, .long (x1 + (M.2 (19 + x3.toNatClampNeg) 0))), (0, .ref (E.2.1 0))]) C 2 rfl dX11_trace_25 (ct_n_1 _) (by decide) rfl ?_
      refine zw_goto (tgt := 4) C dX11_trace_28 (by decide) ?_
      refine zw_sb [2, 1, 0] rfl ?_
      exact ih _ _ _ h
def f_X11_trace_0 (M : zM) : Option (Int64 × zM) := f_X11_trace_4 zFU M (0 : Int64) (0 : Int32)
set_option maxRecDepth 20000 in
set_option maxHeartbeats 2000000 in
theorem p_X11_trace_0 {X : zX} {E : zE} {r : Int64} {M' : zM} (C : zC X E cX11_trace 4 RX11 (some .long) 0) {M : zM} (h : f_X11_trace_0  M = some (r, M')) : zW X E (zRQ X E (some (.long r)) M') M 0 [(0, .ref (E.2.1 0))] [] := by
  have h : (f_X11_trace_4 zFU M (0 : Int64) (0 : Int32)) = some (r, M') := h
  refine zw_lconst (v := (0 : Int64)) C dX11_trace_0 rfl ?_
  refine zw_lstore_n (lv' := [(1, .long (0 : Int64)), (0, .ref (E.2.1 0))]) C dX11_trace_1 rfl (by decide) rfl ?_
  refine zw_iconst (v := (0 : Int32)) C dX11_trace_2 ct_i_0 ?_
  refine zw_istore_n (lv' := [(3, .int (0 : Int32)), (1, .long (0 : Int64)), (0, .ref (E.2.1 0))]) C dX11_trace_3 rfl (by decide) rfl ?_
  refine zw_sb [2, 1, 0] rfl ?_
  exact p_X11_trace_4 C zFU _ _ _ h
def f_X11_trace (M : zM) : Option (Int64 × zM) := f_X11_trace_0 M
theorem m_X11_trace {l : Launch} {E : zE} (hI : zI E) {M M' : zM} {r : Int64} (h : f_X11_trace M = some (r, M')) : zMet l E yX11_trace cX11_trace 4 (some .long) 0 [.ref (E.2.1 0)] M M' (some (.long r)) := zm_of hI (by decide) (Nat.le_of_ble_eq_true rfl) (fun X _ C => p_X11_trace_0 C h)
theorem kv_X11_trace : zKV yX11_trace cX11_trace 4 (some .long) 0 := ⟨⟨gw_3_186, gw_3_187, gw_1_1, gw_3_188⟩, ⟨by decide, by decide, by decide +kernel⟩, by decide⟩
