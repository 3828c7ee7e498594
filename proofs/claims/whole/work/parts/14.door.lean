-- java/util/Arrays.fill([JJ)V, 15 instructions, depth 0
def f_J7_fill_d0a16_6 (p0 n0 : Nat) (x1 : Int64) : Nat → zM → Int32 → Int32 → Option zM
  | 0, _, _, _ => none
  | n + 1, M, x3, x4 => if x4 ≤ x3 then (some M) else (zg (zin x3 n0) (f_J7_fill_d0a16_6 p0 n0 x1 n (zsL M p0 x3.toNatClampNeg x1) (x3 + (1 : Int32)) x4))
set_option maxRecDepth 20000 in
set_option maxHeartbeats 2000000 in
theorem p_J7_fill_d0a16_6 {X : zX} {E : zE} {p0 n0 : Nat} {x1 : Int64} {M' : zM} (C : zC X E cJ7_fill_d0a16 5 RJ7 none 0) (hp0 : zja p0 n0) : ∀ (n : Nat) (M : zM) (x3 : Int32) (x4 : Int32), f_J7_fill_d0a16_6 p0 n0 x1 n M x3 x4 = some M' → zW X E (zRQ X E none M') M 6 [(0, .ref (E.2.1 p0)), (1, .long x1), (3, .int x3), (4, .int x4)] [] := by
  intro n
  induction n with
  | zero => intro M x3 x4 h; cases h
  | succ n ih =>
    intro M x3 x4 h
    have h : (if x4 ≤ x3 then (some M) else (zg (zin x3 n0) (f_J7_fill_d0a16_6 p0 n0 x1 n (zsL M p0 x3.toNatClampNeg x1) (x3 + (1 : Int32)) x4))) = some M' := h
    refine zw_iload_n C 2 rfl dJ7_fill_d0a16_6 rfl ?_
    refine zw_iload C 3 rfl dJ7_fill_d0a16_7 ?_
    refine zw_icmp_ge (tgt := 22) C dJ7_fill_d0a16_9 (by decide) (fun hb1 => ?_) (fun hb1 => ?_)
    · have h := zt_ hb1 h
      exact zw_returnE C h dJ7_fill_d0a16_22
    · have h := zf_ hb1 h
      refine zw_aload_n C 0 rfl dJ7_fill_d0a16_12 rfl ?_
      refine zw_iload_n C 2 rfl dJ7_fill_d0a16_13 rfl ?_
      refine zw_lload_n C 1 rfl dJ7_fill_d0a16_14 rfl ?_
      obtain ⟨hi2, h⟩ := zg_e h
      refine zw_last C hp0 (zin_e hi2) dJ7_fill_d0a16_15 ?_
      refine zw_iinc (lv' := [(3, .int (x3 + (1 : Int32))), (0, .ref (E.2.1 p0)), (1, .long x1), (4, .int x4)]) C 2 rfl dJ7_fill_d0a16_16 (ct_n_1 _) (by decide) rfl ?_
      refine zw_goto (tgt := 6) C dJ7_fill_d0a16_19 (by decide) ?_
      refine zw_sb [1, 2, 0, 3] rfl ?_
      exact ih _ _ _ h
def f_J7_fill_d0a16_0 (p0 n0 : Nat) (x1 : Int64) (M : zM) : Option zM := f_J7_fill_d0a16_6 p0 n0 x1 zFU M (0 : Int32) (Int32.ofNat n0)
set_option maxRecDepth 20000 in
set_option maxHeartbeats 2000000 in
theorem p_J7_fill_d0a16_0 {X : zX} {E : zE} {p0 n0 : Nat} {x1 : Int64} {M' : zM} (C : zC X E cJ7_fill_d0a16 5 RJ7 none 0) (hp0 : zja p0 n0) {M : zM} (h : f_J7_fill_d0a16_0 p0 n0 x1 M = some M') : zW X E (zRQ X E none M') M 0 [(0, .ref (E.2.1 p0)), (1, .long x1)] [] := by
  have h : (f_J7_fill_d0a16_6 p0 n0 x1 zFU M (0 : Int32) (Int32.ofNat n0)) = some M' := h
  refine zw_iconst (v := (0 : Int32)) C dJ7_fill_d0a16_0 ct_i_0 ?_
  refine zw_istore_n (lv' := [(3, .int (0 : Int32)), (0, .ref (E.2.1 p0)), (1, .long x1)]) C dJ7_fill_d0a16_1 rfl (by decide) rfl ?_
  refine zw_aload_n C 1 rfl dJ7_fill_d0a16_2 rfl ?_
  refine zw_alen (t := 1) (ty := .long) C hp0.1 (hp0.2 _ _ _) rfl rfl dJ7_fill_d0a16_3 ?_
  refine zw_istore (lv' := [(4, .int (Int32.ofNat n0)), (3, .int (0 : Int32)), (0, .ref (E.2.1 p0)), (1, .long x1)]) C dJ7_fill_d0a16_4 (by decide) rfl ?_
  refine zw_sb [2, 3, 1, 0] rfl ?_
  exact p_J7_fill_d0a16_6 C hp0 zFU _ _ _ h
def f_J7_fill_d0a16 (M : zM) (p0 n0 : Nat) (x1 : Int64) : Option zM := f_J7_fill_d0a16_0 p0 n0 x1 M
theorem m_J7_fill_d0a16 {l : Launch} {E : zE} (hI : zI E) {M M' : zM} {p0 n0 : Nat} {x1 : Int64} (hp0 : zja p0 n0) (h : f_J7_fill_d0a16 M p0 n0 x1 = some M') : zMet l E yJ7_fill_d0a16 cJ7_fill_d0a16 5 none 0 [.ref (E.2.1 p0), .long x1] M M' none := zm_of hI (by decide) (Nat.le_of_ble_eq_true rfl) (fun X _ C => p_J7_fill_d0a16_0 C hp0 h)
theorem ks_J7_fill_d0a16 : zKS yJ7_fill_d0a16 cJ7_fill_d0a16 5 none 2 := ⟨⟨gw_3_64, gw_1_16, gw_3_65⟩, ⟨by decide, by decide, by decide +kernel⟩, by decide⟩
-- WingDoor.orNone(I)I, 7 instructions, depth 0
def f_X11_orNone_0 (x0 : Int32) (M : zM) : Option (Int32 × zM) := if x0 ≤ (60 : Int32) then (some (x0, M)) else (some ((-9 : Int32), M))
set_option maxRecDepth 20000 in
set_option maxHeartbeats 2000000 in
theorem p_X11_orNone_0 {X : zX} {E : zE} {x0 : Int32} {r : Int32} {M' : zM} (C : zC X E cX11_orNone 1 RX11 (some .int) 0) {M : zM} (h : f_X11_orNone_0 x0 M = some (r, M')) : zW X E (zRQ X E (some (.int r)) M') M 0 [(0, .int x0)] [] := by
  have h : (if x0 ≤ (60 : Int32) then (some (x0, M)) else (some ((-9 : Int32), M))) = some (r, M') := h
  refine zw_iload_n C 0 rfl dX11_orNone_0 rfl ?_
  refine zw_bipush (v := (60 : Int32)) C dX11_orNone_1 ct_b_60 ?_
  refine zw_icmp_le (tgt := 11) C dX11_orNone_3 (by decide) (fun hb1 => ?_) (fun hb1 => ?_)
  · have h := zt_ hb1 h
    refine zw_iload_n C 0 rfl dX11_orNone_11 rfl ?_
    exact zw_ireturnE C h dX11_orNone_12
  · have h := zf_ hb1 h
    refine zw_bipush (v := (-9 : Int32)) C dX11_orNone_6 ct_b_m9 ?_
    refine zw_goto (tgt := 12) C dX11_orNone_8 (by decide) ?_
    exact zw_ireturnE C h dX11_orNone_12
def f_X11_orNone (M : zM) (x0 : Int32) : Option (Int32 × zM) := f_X11_orNone_0 x0 M
theorem m_X11_orNone {l : Launch} {E : zE} (hI : zI E) {M M' : zM} {x0 : Int32} {r : Int32} (h : f_X11_orNone M x0 = some (r, M')) : zMet l E yX11_orNone cX11_orNone 1 (some .int) 0 [.int x0] M M' (some (.int r)) := zm_of hI (by decide) (Nat.le_of_ble_eq_true rfl) (fun X _ C => p_X11_orNone_0 C h)
theorem ks_X11_orNone : zKS yX11_orNone cX11_orNone 1 (some .int) 1 := ⟨⟨gw_2_202, gw_1_1, gw_2_203⟩, ⟨by decide, by decide, by decide +kernel⟩, by decide⟩
-- WingDoor.whenNow(I)I, 10 instructions, depth 5
def f_X11_whenNow_0 (x1 : Int32) (M : zM) : Option (Int32 × zM) := zbv (f_X5_copy M 43 37) (fun M3 => zbi (f_X5_runUntilThrough M3 43 x1) (fun r5 M6 => some (r5, M6)))
set_option maxRecDepth 20000 in
set_option maxHeartbeats 2000000 in
theorem p_X11_whenNow_0 {X : zX} {E : zE} {x1 : Int32} {r : Int32} {M' : zM} (C : zC X E cX11_whenNow 2 RX11 (some .int) 5) {M : zM} (h : f_X11_whenNow_0 x1 M = some (r, M')) : zW X E (zRQ X E (some (.int r)) M') M 0 [(0, .ref (E.2.1 0)), (1, .int x1)] [] := by
  have h : (zbv (f_X5_copy M 43 37) (fun M3 => zbi (f_X5_runUntilThrough M3 43 x1) (fun r5 M6 => some (r5, M6)))) = some (r, M') := h
  refine zw_aload_n C 0 rfl dX11_whenNow_0 rfl ?_
  refine zw_get (v := .ref (E.2.1 43)) C (by decide) (zc_0 E) rfl zin_X11 4 (by decide) gw_2_5 rfl dX11_whenNow_1 ?_
  refine zw_aload_n C 0 rfl dX11_whenNow_4 rfl ?_
  refine zw_get (v := .ref (E.2.1 37)) C (by decide) (zc_0 E) rfl zin_X11 3 (by decide) gw_2_4 rfl dX11_whenNow_5 ?_
  obtain ⟨M3, hq1, h⟩ := zbv_e h
  refine zw_callVv (As := [.ref (E.2.1 37)]) (st := []) C (m_X5_copy C.2.2.2.2.2.2.2.1 zmp_43 zmp_37 hq1) kv_X5_copy gw_2_140 (by decide) zmp_43.lt (zmp_43.c E) rfl rfl rfl rfl (Nat.le_of_ble_eq_true rfl) dX11_whenNow_8 ?_
  refine zw_aload_n C 0 rfl dX11_whenNow_11 rfl ?_
  refine zw_get (v := .ref (E.2.1 43)) C (by decide) (zc_0 E) rfl zin_X11 4 (by decide) gw_2_5 rfl dX11_whenNow_12 ?_
  refine zw_iload_n C 1 rfl dX11_whenNow_15 rfl ?_
  obtain ⟨r5, M6, hq4, h⟩ := zbi_e h
  refine zw_callVi (As := [.int x1]) (st := []) C (m_X5_runUntilThrough C.2.2.2.2.2.2.2.1 zmp_43 hq4) kv_X5_runUntilThrough gw_2_145 (by decide) zmp_43.lt (zmp_43.c E) rfl rfl rfl rfl (Nat.le_of_ble_eq_true rfl) dX11_whenNow_16 ?_
  exact zw_ireturnE C h dX11_whenNow_19
def f_X11_whenNow (M : zM) (x1 : Int32) : Option (Int32 × zM) := f_X11_whenNow_0 x1 M
theorem m_X11_whenNow {l : Launch} {E : zE} (hI : zI E) {M M' : zM} {x1 : Int32} {r : Int32} (h : f_X11_whenNow M x1 = some (r, M')) : zMet l E yX11_whenNow cX11_whenNow 2 (some .int) 5 [.ref (E.2.1 0), .int x1] M M' (some (.int r)) := zm_of hI (by decide) (Nat.le_of_ble_eq_true rfl) (fun X _ C => p_X11_whenNow_0 C h)
theorem kv_X11_whenNow : zKV yX11_whenNow cX11_whenNow 2 (some .int) 1 := ⟨⟨gw_2_138, gs_8, gw_1_1, gw_2_139⟩, ⟨by decide, by decide, by decide +kernel⟩, by decide⟩
-- WingDoor.sticksNow()I, 9 instructions, depth 5
def f_X11_sticksNow_0 (M : zM) : Option (Int32 × zM) := zbv (f_X5_copy M 43 37) (fun M3 => zbi (f_X5_runUntilItSticks M3 43) (fun r5 M6 => some (r5, M6)))
set_option maxRecDepth 20000 in
set_option maxHeartbeats 2000000 in
theorem p_X11_sticksNow_0 {X : zX} {E : zE} {r : Int32} {M' : zM} (C : zC X E cX11_sticksNow 1 RX11 (some .int) 5) {M : zM} (h : f_X11_sticksNow_0  M = some (r, M')) : zW X E (zRQ X E (some (.int r)) M') M 0 [(0, .ref (E.2.1 0))] [] := by
  have h : (zbv (f_X5_copy M 43 37) (fun M3 => zbi (f_X5_runUntilItSticks M3 43) (fun r5 M6 => some (r5, M6)))) = some (r, M') := h
  refine zw_aload_n C 0 rfl dX11_sticksNow_0 rfl ?_
  refine zw_get (v := .ref (E.2.1 43)) C (by decide) (zc_0 E) rfl zin_X11 4 (by decide) gw_2_5 rfl dX11_sticksNow_1 ?_
  refine zw_aload_n C 0 rfl dX11_sticksNow_4 rfl ?_
  refine zw_get (v := .ref (E.2.1 37)) C (by decide) (zc_0 E) rfl zin_X11 3 (by decide) gw_2_4 rfl dX11_sticksNow_5 ?_
  obtain ⟨M3, hq1, h⟩ := zbv_e h
  refine zw_callVv (As := [.ref (E.2.1 37)]) (st := []) C (m_X5_copy C.2.2.2.2.2.2.2.1 zmp_43 zmp_37 hq1) kv_X5_copy gw_2_140 (by decide) zmp_43.lt (zmp_43.c E) rfl rfl rfl rfl (Nat.le_of_ble_eq_true rfl) dX11_sticksNow_8 ?_
  refine zw_aload_n C 0 rfl dX11_sticksNow_11 rfl ?_
  refine zw_get (v := .ref (E.2.1 43)) C (by decide) (zc_0 E) rfl zin_X11 4 (by decide) gw_2_5 rfl dX11_sticksNow_12 ?_
  obtain ⟨r5, M6, hq4, h⟩ := zbi_e h
  refine zw_callVi (As := []) (st := []) C (m_X5_runUntilItSticks C.2.2.2.2.2.2.2.1 zmp_43 hq4) kv_X5_runUntilItSticks gw_2_224 (by decide) zmp_43.lt (zmp_43.c E) rfl rfl rfl rfl (Nat.le_of_ble_eq_true rfl) dX11_sticksNow_15 ?_
  exact zw_ireturnE C h dX11_sticksNow_18
def f_X11_sticksNow (M : zM) : Option (Int32 × zM) := f_X11_sticksNow_0 M
theorem m_X11_sticksNow {l : Launch} {E : zE} (hI : zI E) {M M' : zM} {r : Int32} (h : f_X11_sticksNow M = some (r, M')) : zMet l E yX11_sticksNow cX11_sticksNow 1 (some .int) 5 [.ref (E.2.1 0)] M M' (some (.int r)) := zm_of hI (by decide) (Nat.le_of_ble_eq_true rfl) (fun X _ C => p_X11_sticksNow_0 C h)
theorem kv_X11_sticksNow : zKV yX11_sticksNow cX11_sticksNow 1 (some .int) 0 := ⟨⟨gw_2_222, gs_11, gw_1_1, gw_2_223⟩, ⟨by decide, by decide, by decide +kernel⟩, by decide⟩
-- WingDoor.allNow()I, 9 instructions, depth 5
def f_X11_allNow_0 (M : zM) : Option (Int32 × zM) := zbv (f_X5_copy M 43 37) (fun M3 => zbi (f_X5_runUntilEmpty M3 43) (fun r5 M6 => some (r5, M6)))
set_option maxRecDepth 20000 in
set_option maxHeartbeats 2000000 in
theorem p_X11_allNow_0 {X : zX} {E : zE} {r : Int32} {M' : zM} (C : zC X E cX11_allNow 1 RX11 (some .int) 5) {M : zM} (h : f_X11_allNow_0  M = some (r, M')) : zW X E (zRQ X E (some (.int r)) M') M 0 [(0, .ref (E.2.1 0))] [] := by
  have h : (zbv (f_X5_copy M 43 37) (fun M3 => zbi (f_X5_runUntilEmpty M3 43) (fun r5 M6 => some (r5, M6)))) = some (r, M') := h
  refine zw_aload_n C 0 rfl dX11_allNow_0 rfl ?_
  refine zw_get (v := .ref (E.2.1 43)) C (by decide) (zc_0 E) rfl zin_X11 4 (by decide) gw_2_5 rfl dX11_allNow_1 ?_
  refine zw_aload_n C 0 rfl dX11_allNow_4 rfl ?_
  refine zw_get (v := .ref (E.2.1 37)) C (by decide) (zc_0 E) rfl zin_X11 3 (by decide) gw_2_4 rfl dX11_allNow_5 ?_
  obtain ⟨M3, hq1, h⟩ := zbv_e h
  refine zw_callVv (As := [.ref (E.2.1 37)]) (st := []) C (m_X5_copy C.2.2.2.2.2.2.2.1 zmp_43 zmp_37 hq1) kv_X5_copy gw_2_140 (by decide) zmp_43.lt (zmp_43.c E) rfl rfl rfl rfl (Nat.le_of_ble_eq_true rfl) dX11_allNow_8 ?_
  refine zw_aload_n C 0 rfl dX11_allNow_11 rfl ?_
  refine zw_get (v := .ref (E.2.1 43)) C (by decide) (zc_0 E) rfl zin_X11 4 (by decide) gw_2_5 rfl dX11_allNow_12 ?_
  obtain ⟨r5, M6, hq4, h⟩ := zbi_e h
  refine zw_callVi (As := []) (st := []) C (m_X5_runUntilEmpty C.2.2.2.2.2.2.2.1 zmp_43 hq4) kv_X5_runUntilEmpty gw_2_232 (by decide) zmp_43.lt (zmp_43.c E) rfl rfl rfl rfl (Nat.le_of_ble_eq_true rfl) dX11_allNow_15 ?_
  exact zw_ireturnE C h dX11_allNow_18
def f_X11_allNow (M : zM) : Option (Int32 × zM) := f_X11_allNow_0 M
theorem m_X11_allNow {l : Launch} {E : zE} (hI : zI E) {M M' : zM} {r : Int32} (h : f_X11_allNow M = some (r, M')) : zMet l E yX11_allNow cX11_allNow 1 (some .int) 5 [.ref (E.2.1 0)] M M' (some (.int r)) := zm_of hI (by decide) (Nat.le_of_ble_eq_true rfl) (fun X _ C => p_X11_allNow_0 C h)
theorem kv_X11_allNow : zKV yX11_allNow cX11_allNow 1 (some .int) 0 := ⟨⟨gw_2_230, gs_12, gw_1_1, gw_2_231⟩, ⟨by decide, by decide, by decide +kernel⟩, by decide⟩
-- WingDoor.bestHelper(IZ)I, 61 instructions, depth 5
def f_X11_bestHelper_97 (x1 : Int32) (x2 : Int32) (k27 : zM → Int32 → Int32 → Int32 → Option (Int32 × zM)) (M : zM) (x3 : Int32) (x4 : Int32) (x5 : Int32) : Option (Int32 × zM) := zbi (f_X5_runUntilThrough M 43 x1) (fun r2 M3 => if x3 ≤ r2 then (k27 M3 x3 x4 (x5 + (1 : Int32))) else (k27 M3 r2 x5 (x5 + (1 : Int32))))
set_option maxRecDepth 20000 in
set_option maxHeartbeats 2000000 in
theorem p_X11_bestHelper_97 {X : zX} {E : zE} {x1 : Int32} {x2 : Int32} {r : Int32} {M' : zM} {k27 : zM → Int32 → Int32 → Int32 → Option (Int32 × zM)} (C : zC X E cX11_bestHelper 7 RX11 (some .int) 5) (hk27 : ∀ (M : zM) (y3 : Int32) (y4 : Int32) (y5 : Int32), k27 M y3 y4 y5 = some (r, M') → zW X E (zRQ X E (some (.int r)) M') M 27 [(0, .ref (E.2.1 0)), (1, .int x1), (2, .int x2), (3, .int y3), (4, .int y4), (5, .int y5)] []) {M : zM} {x3 : Int32} {x4 : Int32} {x5 : Int32} (h : f_X11_bestHelper_97 x1 x2 k27 M x3 x4 x5 = some (r, M')) : zW X E (zRQ X E (some (.int r)) M') M 97 [(0, .ref (E.2.1 0)), (1, .int x1), (2, .int x2), (3, .int x3), (4, .int x4), (5, .int x5)] [] := by
  have h : (zbi (f_X5_runUntilThrough M 43 x1) (fun r2 M3 => if x3 ≤ r2 then (k27 M3 x3 x4 (x5 + (1 : Int32))) else (k27 M3 r2 x5 (x5 + (1 : Int32))))) = some (r, M') := h
  refine zw_aload_n C 0 rfl dX11_bestHelper_97 rfl ?_
  refine zw_get (v := .ref (E.2.1 43)) C (by decide) (zc_0 E) rfl zin_X11 4 (by decide) gw_2_5 rfl dX11_bestHelper_98 ?_
  refine zw_iload_n C 1 rfl dX11_bestHelper_101 rfl ?_
  obtain ⟨r2, M3, hq1, h⟩ := zbi_e h
  refine zw_callVi (As := [.int x1]) (st := []) C (m_X5_runUntilThrough C.2.2.2.2.2.2.2.1 zmp_43 hq1) kv_X5_runUntilThrough gw_2_145 (by decide) zmp_43.lt (zmp_43.c E) rfl rfl rfl rfl (Nat.le_of_ble_eq_true rfl) dX11_bestHelper_102 ?_
  refine zw_istore (lv' := [(6, .int r2), (0, .ref (E.2.1 0)), (1, .int x1), (2, .int x2), (3, .int x3), (4, .int x4), (5, .int x5)]) C dX11_bestHelper_105 (by decide) rfl ?_
  refine zw_iload C 0 rfl dX11_bestHelper_107 ?_
  refine zw_iload_n C 4 rfl dX11_bestHelper_109 rfl ?_
  refine zw_icmp_ge (tgt := 120) C dX11_bestHelper_110 (by decide) (fun hb4 => ?_) (fun hb4 => ?_)
  · have h := zt_ hb4 h
    refine zw_iinc (lv' := [(5, .int (x5 + (1 : Int32))), (6, .int r2), (0, .ref (E.2.1 0)), (1, .int x1), (2, .int x2), (3, .int x3), (4, .int x4)]) C 6 rfl dX11_bestHelper_120 (ct_n_1 _) (by decide) rfl ?_
    refine zw_goto (tgt := 27) C dX11_bestHelper_123 (by decide) ?_
    refine zw_sb [2, 3, 4, 5, 6, 0] rfl ?_
    exact hk27 _ _ _ _ h
  · have h := zf_ hb4 h
    refine zw_iload C 0 rfl dX11_bestHelper_113 ?_
    refine zw_istore_n (lv' := [(3, .int r2), (6, .int r2), (0, .ref (E.2.1 0)), (1, .int x1), (2, .int x2), (4, .int x4), (5, .int x5)]) C dX11_bestHelper_115 rfl (by decide) rfl ?_
    refine zw_iload C 6 rfl dX11_bestHelper_116 ?_
    refine zw_istore (lv' := [(4, .int x5), (3, .int r2), (6, .int r2), (0, .ref (E.2.1 0)), (1, .int x1), (2, .int x2), (5, .int x5)]) C dX11_bestHelper_118 (by decide) rfl ?_
    refine zw_iinc (lv' := [(5, .int (x5 + (1 : Int32))), (4, .int x5), (3, .int r2), (6, .int r2), (0, .ref (E.2.1 0)), (1, .int x1), (2, .int x2)]) C 6 rfl dX11_bestHelper_120 (ct_n_1 _) (by decide) rfl ?_
    refine zw_goto (tgt := 27) C dX11_bestHelper_123 (by decide) ?_
    refine zw_sb [4, 5, 6, 2, 1, 0] rfl ?_
    exact hk27 _ _ _ _ h
def f_X11_bestHelper_27 (x1 : Int32) (x2 : Int32) : Nat → zM → Int32 → Int32 → Int32 → Option (Int32 × zM)
  | 0, _, _, _, _ => none
  | n + 1, M, x3, x4, x5 => if (M.1 37 2) ≤ x5 then (some (x4, M)) else (if x5 = x1 then (f_X11_bestHelper_27 x1 x2 n M x3 x4 (x5 + (1 : Int32))) else (zg (zin x5 9) (if (M.1 (37 + 3) x5.toNatClampNeg) = 0 then (zbv (f_X5_copy M 43 37) (fun M7 => if x2 = 0 then (zbv (f_X5_giveUp M7 43 x5) (fun M11 => f_X11_bestHelper_97 x1 x2 (f_X11_bestHelper_27 x1 x2 n) M11 x3 x4 x5)) else (zbv (f_X5_letAhead M7 43 x5) (fun M14 => f_X11_bestHelper_97 x1 x2 (f_X11_bestHelper_27 x1 x2 n) M14 x3 x4 x5)))) else (f_X11_bestHelper_27 x1 x2 n M x3 x4 (x5 + (1 : Int32))))))
set_option maxRecDepth 20000 in
set_option maxHeartbeats 2000000 in
theorem p_X11_bestHelper_27 {X : zX} {E : zE} {x1 : Int32} {x2 : Int32} {r : Int32} {M' : zM} (C : zC X E cX11_bestHelper 7 RX11 (some .int) 5) : ∀ (n : Nat) (M : zM) (x3 : Int32) (x4 : Int32) (x5 : Int32), f_X11_bestHelper_27 x1 x2 n M x3 x4 x5 = some (r, M') → zW X E (zRQ X E (some (.int r)) M') M 27 [(0, .ref (E.2.1 0)), (1, .int x1), (2, .int x2), (3, .int x3), (4, .int x4), (5, .int x5)] [] := by
  intro n
  induction n with
  | zero => intro M x3 x4 x5 h; cases h
  | succ n ih =>
    intro M x3 x4 x5 h
    have h : (if (M.1 37 2) ≤ x5 then (some (x4, M)) else (if x5 = x1 then (f_X11_bestHelper_27 x1 x2 n M x3 x4 (x5 + (1 : Int32))) else (zg (zin x5 9) (if (M.1 (37 + 3) x5.toNatClampNeg) = 0 then (zbv (f_X5_copy M 43 37) (fun M7 => if x2 = 0 then (zbv (f_X5_giveUp M7 43 x5) (fun M11 => f_X11_bestHelper_97 x1 x2 (f_X11_bestHelper_27 x1 x2 n) M11 x3 x4 x5)) else (zbv (f_X5_letAhead M7 43 x5) (fun M14 => f_X11_bestHelper_97 x1 x2 (f_X11_bestHelper_27 x1 x2 n) M14 x3 x4 x5)))) else (f_X11_bestHelper_27 x1 x2 n M x3 x4 (x5 + (1 : Int32))))))) = some (r, M') := h
    refine zw_iload C 5 rfl dX11_bestHelper_27 ?_
    refine zw_aload_n C 0 rfl dX11_bestHelper_29 rfl ?_
    refine zw_get (v := .ref (E.2.1 37)) C (by decide) (zc_0 E) rfl zin_X11 3 (by decide) gw_2_4 rfl dX11_bestHelper_30 ?_
    refine zw_getN (v := .int (M.1 37 2)) C zmp_37.lt (zmp_37.c E) rfl zin_X5 2 (by decide) (List.mem_of_getElem? (i := 14) rfl) rfl dX11_bestHelper_33 ?_
    refine zw_icmp_ge (tgt := 126) C dX11_bestHelper_36 (by decide) (fun hb1 => ?_) (fun hb1 => ?_)
    · have h := zt_ hb1 h
      refine zw_iload C 4 rfl dX11_bestHelper_126 ?_
      exact zw_ireturnE C h dX11_bestHelper_128
    · have h := zf_ hb1 h
      refine zw_iload C 5 rfl dX11_bestHelper_39 ?_
      refine zw_iload_n C 1 rfl dX11_bestHelper_41 rfl ?_
      refine zw_icmp_eq (tgt := 120) C dX11_bestHelper_42 (by decide) (fun hb2 => ?_) (fun hb2 => ?_)
      · have h := zt_ hb2 h
        refine zw_iinc (lv' := [(5, .int (x5 + (1 : Int32))), (0, .ref (E.2.1 0)), (1, .int x1), (2, .int x2), (3, .int x3), (4, .int x4)]) C 5 rfl dX11_bestHelper_120 (ct_n_1 _) (by decide) rfl ?_
        refine zw_goto (tgt := 27) C dX11_bestHelper_123 (by decide) ?_
        refine zw_sb [1, 2, 3, 4, 5, 0] rfl ?_
        exact ih _ _ _ _ h
      · have h := zf_ hb2 h
        refine zw_aload_n C 0 rfl dX11_bestHelper_45 rfl ?_
        refine zw_get (v := .ref (E.2.1 37)) C (by decide) (zc_0 E) rfl zin_X11 3 (by decide) gw_2_4 rfl dX11_bestHelper_46 ?_
        refine zw_getN (v := .ref (E.2.1 (37 + 3))) C zmp_37.lt (zmp_37.c E) rfl zin_X5 5 (by decide) (List.mem_of_getElem? (i := 17) rfl) rfl dX11_bestHelper_49 ?_
        refine zw_iload C 5 rfl dX11_bestHelper_52 ?_
        obtain ⟨hi3, h⟩ := zg_e h
        refine zw_iald C (zmp_37.ia (j := 3) (by decide) (by decide)) (zin_e hi3) dX11_bestHelper_54 ?_
        refine zw_if_eq (tgt := 61) C dX11_bestHelper_55 (by decide) (fun hb4 => ?_) (fun hb4 => ?_)
        · have h := zt_ hb4 h
          refine zw_aload_n C 0 rfl dX11_bestHelper_61 rfl ?_
          refine zw_get (v := .ref (E.2.1 43)) C (by decide) (zc_0 E) rfl zin_X11 4 (by decide) gw_2_5 rfl dX11_bestHelper_62 ?_
          refine zw_aload_n C 0 rfl dX11_bestHelper_65 rfl ?_
          refine zw_get (v := .ref (E.2.1 37)) C (by decide) (zc_0 E) rfl zin_X11 3 (by decide) gw_2_4 rfl dX11_bestHelper_66 ?_
          obtain ⟨M7, hq5, h⟩ := zbv_e h
          refine zw_callVv (As := [.ref (E.2.1 37)]) (st := []) C (m_X5_copy C.2.2.2.2.2.2.2.1 zmp_43 zmp_37 hq5) kv_X5_copy gw_2_140 (by decide) zmp_43.lt (zmp_43.c E) rfl rfl rfl rfl (Nat.le_of_ble_eq_true rfl) dX11_bestHelper_69 ?_
          refine zw_iload_n C 2 rfl dX11_bestHelper_72 rfl ?_
          refine zw_if_eq (tgt := 88) C dX11_bestHelper_73 (by decide) (fun hb8 => ?_) (fun hb8 => ?_)
          · have h := zt_ hb8 h
            refine zw_aload_n C 0 rfl dX11_bestHelper_88 rfl ?_
            refine zw_get (v := .ref (E.2.1 43)) C (by decide) (zc_0 E) rfl zin_X11 4 (by decide) gw_2_5 rfl dX11_bestHelper_89 ?_
            refine zw_iload C 5 rfl dX11_bestHelper_92 ?_
            obtain ⟨M11, hq9, h⟩ := zbv_e h
            refine zw_callVv (As := [.int x5]) (st := []) C (m_X5_giveUp C.2.2.2.2.2.2.2.1 zmp_43 hq9) kv_X5_giveUp gw_3_18 (by decide) zmp_43.lt (zmp_43.c E) rfl rfl rfl rfl (Nat.le_of_ble_eq_true rfl) dX11_bestHelper_94 ?_
            exact p_X11_bestHelper_97 C (fun _ _ _ _ h => ih _ _ _ _ h) h
          · have h := zf_ hb8 h
            refine zw_aload_n C 0 rfl dX11_bestHelper_76 rfl ?_
            refine zw_get (v := .ref (E.2.1 43)) C (by decide) (zc_0 E) rfl zin_X11 4 (by decide) gw_2_5 rfl dX11_bestHelper_77 ?_
            refine zw_iload C 5 rfl dX11_bestHelper_80 ?_
            obtain ⟨M14, hq12, h⟩ := zbv_e h
            refine zw_callVv (As := [.int x5]) (st := []) C (m_X5_letAhead C.2.2.2.2.2.2.2.1 zmp_43 hq12) kv_X5_letAhead gw_3_30 (by decide) zmp_43.lt (zmp_43.c E) rfl rfl rfl rfl (Nat.le_of_ble_eq_true rfl) dX11_bestHelper_82 ?_
            refine zw_goto (tgt := 97) C dX11_bestHelper_85 (by decide) ?_
            exact p_X11_bestHelper_97 C (fun _ _ _ _ h => ih _ _ _ _ h) h
        · have h := zf_ hb4 h
          refine zw_goto (tgt := 120) C dX11_bestHelper_58 (by decide) ?_
          refine zw_iinc (lv' := [(5, .int (x5 + (1 : Int32))), (0, .ref (E.2.1 0)), (1, .int x1), (2, .int x2), (3, .int x3), (4, .int x4)]) C 5 rfl dX11_bestHelper_120 (ct_n_1 _) (by decide) rfl ?_
          refine zw_goto (tgt := 27) C dX11_bestHelper_123 (by decide) ?_
          refine zw_sb [1, 2, 3, 4, 5, 0] rfl ?_
          exact ih _ _ _ _ h
def f_X11_bestHelper_0 (x1 : Int32) (x2 : Int32) (M : zM) : Option (Int32 × zM) := zbv (f_X5_copy M 43 37) (fun M3 => zbi (f_X5_runUntilThrough M3 43 x1) (fun r5 M6 => f_X11_bestHelper_27 x1 x2 zFU M6 r5 (-9 : Int32) (0 : Int32)))
set_option maxRecDepth 20000 in
set_option maxHeartbeats 2000000 in
theorem p_X11_bestHelper_0 {X : zX} {E : zE} {x1 : Int32} {x2 : Int32} {r : Int32} {M' : zM} (C : zC X E cX11_bestHelper 7 RX11 (some .int) 5) {M : zM} (h : f_X11_bestHelper_0 x1 x2 M = some (r, M')) : zW X E (zRQ X E (some (.int r)) M') M 0 [(0, .ref (E.2.1 0)), (1, .int x1), (2, .int x2)] [] := by
  have h : (zbv (f_X5_copy M 43 37) (fun M3 => zbi (f_X5_runUntilThrough M3 43 x1) (fun r5 M6 => f_X11_bestHelper_27 x1 x2 zFU M6 r5 (-9 : Int32) (0 : Int32)))) = some (r, M') := h
  refine zw_aload_n C 0 rfl dX11_bestHelper_0 rfl ?_
  refine zw_get (v := .ref (E.2.1 43)) C (by decide) (zc_0 E) rfl zin_X11 4 (by decide) gw_2_5 rfl dX11_bestHelper_1 ?_
  refine zw_aload_n C 0 rfl dX11_bestHelper_4 rfl ?_
  refine zw_get (v := .ref (E.2.1 37)) C (by decide) (zc_0 E) rfl zin_X11 3 (by decide) gw_2_4 rfl dX11_bestHelper_5 ?_
  obtain ⟨M3, hq1, h⟩ := zbv_e h
  refine zw_callVv (As := [.ref (E.2.1 37)]) (st := []) C (m_X5_copy C.2.2.2.2.2.2.2.1 zmp_43 zmp_37 hq1) kv_X5_copy gw_2_140 (by decide) zmp_43.lt (zmp_43.c E) rfl rfl rfl rfl (Nat.le_of_ble_eq_true rfl) dX11_bestHelper_8 ?_
  refine zw_aload_n C 0 rfl dX11_bestHelper_11 rfl ?_
  refine zw_get (v := .ref (E.2.1 43)) C (by decide) (zc_0 E) rfl zin_X11 4 (by decide) gw_2_5 rfl dX11_bestHelper_12 ?_
  refine zw_iload_n C 1 rfl dX11_bestHelper_15 rfl ?_
  obtain ⟨r5, M6, hq4, h⟩ := zbi_e h
  refine zw_callVi (As := [.int x1]) (st := []) C (m_X5_runUntilThrough C.2.2.2.2.2.2.2.1 zmp_43 hq4) kv_X5_runUntilThrough gw_2_145 (by decide) zmp_43.lt (zmp_43.c E) rfl rfl rfl rfl (Nat.le_of_ble_eq_true rfl) dX11_bestHelper_16 ?_
  refine zw_istore_n (lv' := [(3, .int r5), (0, .ref (E.2.1 0)), (1, .int x1), (2, .int x2)]) C dX11_bestHelper_19 rfl (by decide) rfl ?_
  refine zw_bipush (v := (-9 : Int32)) C dX11_bestHelper_20 ct_b_m9 ?_
  refine zw_istore (lv' := [(4, .int (-9 : Int32)), (3, .int r5), (0, .ref (E.2.1 0)), (1, .int x1), (2, .int x2)]) C dX11_bestHelper_22 (by decide) rfl ?_
  refine zw_iconst (v := (0 : Int32)) C dX11_bestHelper_24 ct_i_0 ?_
  refine zw_istore (lv' := [(5, .int (0 : Int32)), (4, .int (-9 : Int32)), (3, .int r5), (0, .ref (E.2.1 0)), (1, .int x1), (2, .int x2)]) C dX11_bestHelper_25 (by decide) rfl ?_
  refine zw_sb [3, 4, 5, 2, 1, 0] rfl ?_
  exact p_X11_bestHelper_27 C zFU _ _ _ _ h
def f_X11_bestHelper (M : zM) (x1 : Int32) (x2 : Int32) : Option (Int32 × zM) := f_X11_bestHelper_0 x1 x2 M
theorem m_X11_bestHelper {l : Launch} {E : zE} (hI : zI E) {M M' : zM} {x1 : Int32} {x2 : Int32} {r : Int32} (h : f_X11_bestHelper M x1 x2 = some (r, M')) : zMet l E yX11_bestHelper cX11_bestHelper 7 (some .int) 5 [.ref (E.2.1 0), .int x1, .int x2] M M' (some (.int r)) := zm_of hI (by decide) (Nat.le_of_ble_eq_true rfl) (fun X _ C => p_X11_bestHelper_0 C h)
theorem kv_X11_bestHelper : zKV yX11_bestHelper cX11_bestHelper 7 (some .int) 2 := ⟨⟨gw_3_48, gs_13, gw_1_1, gw_3_49⟩, ⟨by decide, by decide, by decide +kernel⟩, by decide⟩
-- WingDoor.addPusher(III)I, 48 instructions, depth 1
def f_X11_addPusher_67 (x1 : Int32) (x2 : Int32) (x3 : Int32) (k21 : zM → Int32 → Int32 → Option (Int32 × zM)) (M : zM) (x4 : Int32) (x5 : Int32) : Option (Int32 × zM) := k21 M x4 (x5 + (-1 : Int32))
set_option maxRecDepth 20000 in
set_option maxHeartbeats 2000000 in
theorem p_X11_addPusher_67 {X : zX} {E : zE} {x1 : Int32} {x2 : Int32} {x3 : Int32} {r : Int32} {M' : zM} {k21 : zM → Int32 → Int32 → Option (Int32 × zM)} (C : zC X E cX11_addPusher 8 RX11 (some .int) 1) (hk21 : ∀ (M : zM) (y4 : Int32) (y5 : Int32), k21 M y4 y5 = some (r, M') → zW X E (zRQ X E (some (.int r)) M') M 21 [(0, .ref (E.2.1 0)), (1, .int x1), (2, .int x2), (3, .int x3), (4, .int y4), (5, .int y5)] []) {M : zM} {x4 : Int32} {x5 : Int32} (h : f_X11_addPusher_67 x1 x2 x3 k21 M x4 x5 = some (r, M')) : zW X E (zRQ X E (some (.int r)) M') M 67 [(0, .ref (E.2.1 0)), (1, .int x1), (2, .int x2), (3, .int x3), (4, .int x4), (5, .int x5)] [] := by
  have h : (k21 M x4 (x5 + (-1 : Int32))) = some (r, M') := h
  refine zw_iinc (lv' := [(5, .int (x5 + (-1 : Int32))), (0, .ref (E.2.1 0)), (1, .int x1), (2, .int x2), (3, .int x3), (4, .int x4)]) C 5 rfl dX11_addPusher_67 (ct_n_m1 _) (by decide) rfl ?_
  refine zw_goto (tgt := 21) C dX11_addPusher_70 (by decide) ?_
  refine zw_sb [1, 2, 3, 4, 5, 0] rfl ?_
  exact hk21 _ _ _ h
def f_X11_addPusher_21 (x1 : Int32) (x2 : Int32) (x3 : Int32) : Nat → zM → Int32 → Int32 → Option (Int32 × zM)
  | 0, _, _, _ => none
  | n + 1, M, x4, x5 => if x5 < 0 then (some (x4, M)) else (zg (zin x5 82) (zg (zin x5 82) (zg (zin (x5 + x1) 82) (zg (zin (x5 + x1) 82) (f_X11_addPusher_67 x1 x2 x3 (f_X11_addPusher_21 x1 x2 x3 n) (zsL (zsL M 17 x5.toNatClampNeg ((M.2 17 x5.toNatClampNeg) * (x2.toInt64))) 17 (x5 + x1).toNatClampNeg (((zsL M 17 x5.toNatClampNeg ((M.2 17 x5.toNatClampNeg) * (x2.toInt64))).2 17 (x5 + x1).toNatClampNeg) + ((M.2 17 x5.toNatClampNeg) * (((10 : Int32) - x2).toInt64)))) x4 x5)))))
set_option maxRecDepth 20000 in
set_option maxHeartbeats 2000000 in
theorem p_X11_addPusher_21 {X : zX} {E : zE} {x1 : Int32} {x2 : Int32} {x3 : Int32} {r : Int32} {M' : zM} (C : zC X E cX11_addPusher 8 RX11 (some .int) 1) : ∀ (n : Nat) (M : zM) (x4 : Int32) (x5 : Int32), f_X11_addPusher_21 x1 x2 x3 n M x4 x5 = some (r, M') → zW X E (zRQ X E (some (.int r)) M') M 21 [(0, .ref (E.2.1 0)), (1, .int x1), (2, .int x2), (3, .int x3), (4, .int x4), (5, .int x5)] [] := by
  intro n
  induction n with
  | zero => intro M x4 x5 h; cases h
  | succ n ih =>
    intro M x4 x5 h
    have h : (if x5 < 0 then (some (x4, M)) else (zg (zin x5 82) (zg (zin x5 82) (zg (zin (x5 + x1) 82) (zg (zin (x5 + x1) 82) (f_X11_addPusher_67 x1 x2 x3 (f_X11_addPusher_21 x1 x2 x3 n) (zsL (zsL M 17 x5.toNatClampNeg ((M.2 17 x5.toNatClampNeg) * (x2.toInt64))) 17 (x5 + x1).toNatClampNeg (((zsL M 17 x5.toNatClampNeg ((M.2 17 x5.toNatClampNeg) * (x2.toInt64))).2 17 (x5 + x1).toNatClampNeg) + ((M.2 17 x5.toNatClampNeg) * (((10 : Int32) - x2).toInt64)))) x4 x5)))))) = some (r, M') := h
    refine zw_iload C 5 rfl dX11_addPusher_21 ?_
    refine zw_if_lt (tgt := 73) C dX11_addPusher_23 (by decide) (fun hb1 => ?_) (fun hb1 => ?_)
    · have h := zt_ hb1 h
      refine zw_iload C 4 rfl dX11_addPusher_73 ?_
      exact zw_ireturnE C h dX11_addPusher_75
    · have h := zf_ hb1 h
      refine zw_aload_n C 0 rfl dX11_addPusher_26 rfl ?_
      refine zw_get (v := .ref (E.2.1 17)) C (by decide) (zc_0 E) rfl zin_X11 9 (by decide) gw_2_10 rfl dX11_addPusher_27 ?_
      refine zw_iload C 5 rfl dX11_addPusher_30 ?_
      obtain ⟨hi2, h⟩ := zg_e h
      refine zw_lald C zja_17 (zin_e hi2) dX11_addPusher_32 ?_
      refine zw_lstore (lv' := [(6, .long (M.2 17 x5.toNatClampNeg)), (0, .ref (E.2.1 0)), (1, .int x1), (2, .int x2), (3, .int x3), (4, .int x4), (5, .int x5)]) C dX11_addPusher_33 (by decide) rfl ?_
      refine zw_aload_n C 1 rfl dX11_addPusher_35 rfl ?_
      refine zw_get (v := .ref (E.2.1 17)) C (by decide) (zc_0 E) rfl zin_X11 9 (by decide) gw_2_10 rfl dX11_addPusher_36 ?_
      refine zw_iload C 6 rfl dX11_addPusher_39 ?_
      refine zw_lload C 0 rfl dX11_addPusher_41 ?_
      refine zw_iload_n C 3 rfl dX11_addPusher_43 rfl ?_
      refine zw_i2l C dX11_addPusher_44 ?_
      refine zw_lmul C dX11_addPusher_45 ?_
      obtain ⟨hi3, h⟩ := zg_e h
      refine zw_last C zja_17 (zin_e hi3) dX11_addPusher_46 ?_
      refine zw_aload_n C 1 rfl dX11_addPusher_47 rfl ?_
      refine zw_get (v := .ref (E.2.1 17)) C (by decide) (zc_0 E) rfl zin_X11 9 (by decide) gw_2_10 rfl dX11_addPusher_48 ?_
      refine zw_iload C 6 rfl dX11_addPusher_51 ?_
      refine zw_iload_n C 2 rfl dX11_addPusher_53 rfl ?_
      refine zw_iadd C dX11_addPusher_54 ?_
      refine zw_dup2 C rfl rfl dX11_addPusher_55 ?_
      obtain ⟨hi4, h⟩ := zg_e h
      refine zw_lald C zja_17 (zin_e hi4) dX11_addPusher_56 ?_
      refine zw_lload C 0 rfl dX11_addPusher_57 ?_
      refine zw_bipush (v := (10 : Int32)) C dX11_addPusher_59 ct_b_10 ?_
      refine zw_iload_n C 3 rfl dX11_addPusher_61 rfl ?_
      refine zw_isub C dX11_addPusher_62 ?_
      refine zw_i2l C dX11_addPusher_63 ?_
      refine zw_lmul C dX11_addPusher_64 ?_
      refine zw_ladd C dX11_addPusher_65 ?_
      obtain ⟨hi5, h⟩ := zg_e h
      refine zw_last C zja_17 (zin_e hi5) dX11_addPusher_66 ?_
      refine zw_sb [1, 2, 3, 4, 5, 6] rfl ?_
      exact p_X11_addPusher_67 C (fun _ _ _ h => ih _ _ _ h) h
def f_X11_addPusher_0 (x1 : Int32) (x2 : Int32) (x3 : Int32) (M : zM) : Option (Int32 × zM) := f_X11_addPusher_21 x1 x2 x3 zFU M (if ((Int32.ofNat 82) - (1 : Int32)) < (x3 + x1) then ((Int32.ofNat 82) - (1 : Int32)) else (x3 + x1)) ((if ((Int32.ofNat 82) - (1 : Int32)) < (x3 + x1) then ((Int32.ofNat 82) - (1 : Int32)) else (x3 + x1)) - x1)
set_option maxRecDepth 20000 in
set_option maxHeartbeats 2000000 in
theorem p_X11_addPusher_0 {X : zX} {E : zE} {x1 : Int32} {x2 : Int32} {x3 : Int32} {r : Int32} {M' : zM} (C : zC X E cX11_addPusher 8 RX11 (some .int) 1) {M : zM} (h : f_X11_addPusher_0 x1 x2 x3 M = some (r, M')) : zW X E (zRQ X E (some (.int r)) M') M 0 [(0, .ref (E.2.1 0)), (1, .int x1), (2, .int x2), (3, .int x3)] [] := by
  have h : (f_X11_addPusher_21 x1 x2 x3 zFU M (if ((Int32.ofNat 82) - (1 : Int32)) < (x3 + x1) then ((Int32.ofNat 82) - (1 : Int32)) else (x3 + x1)) ((if ((Int32.ofNat 82) - (1 : Int32)) < (x3 + x1) then ((Int32.ofNat 82) - (1 : Int32)) else (x3 + x1)) - x1)) = some (r, M') := h
  refine zw_iload_n C 3 rfl dX11_addPusher_0 rfl ?_
  refine zw_iload_n C 1 rfl dX11_addPusher_1 rfl ?_
  refine zw_iadd C dX11_addPusher_2 ?_
  refine zw_aload_n C 0 rfl dX11_addPusher_3 rfl ?_
  refine zw_get (v := .ref (E.2.1 17)) C (by decide) (zc_0 E) rfl zin_X11 9 (by decide) gw_2_10 rfl dX11_addPusher_4 ?_
  refine zw_alen (t := 1) (ty := .long) C zja_17.1 (zja_17.2 _ _ _) rfl rfl dX11_addPusher_7 ?_
  refine zw_iconst (v := (1 : Int32)) C dX11_addPusher_8 ct_i_1 ?_
  refine zw_isub C dX11_addPusher_9 ?_
  refine zw_mmin C gw_3_74 gw_3_75 gw_1_17 gw_3_76 (by decide) (Nat.le_of_ble_eq_true rfl) dX11_addPusher_10 ?_
  refine zw_istore (lv' := [(4, .int (if ((Int32.ofNat 82) - (1 : Int32)) < (x3 + x1) then ((Int32.ofNat 82) - (1 : Int32)) else (x3 + x1))), (0, .ref (E.2.1 0)), (1, .int x1), (2, .int x2), (3, .int x3)]) C dX11_addPusher_13 (by decide) rfl ?_
  refine zw_iload C 0 rfl dX11_addPusher_15 ?_
  refine zw_iload_n C 2 rfl dX11_addPusher_17 rfl ?_
  refine zw_isub C dX11_addPusher_18 ?_
  refine zw_istore (lv' := [(5, .int ((if ((Int32.ofNat 82) - (1 : Int32)) < (x3 + x1) then ((Int32.ofNat 82) - (1 : Int32)) else (x3 + x1)) - x1)), (4, .int (if ((Int32.ofNat 82) - (1 : Int32)) < (x3 + x1) then ((Int32.ofNat 82) - (1 : Int32)) else (x3 + x1))), (0, .ref (E.2.1 0)), (1, .int x1), (2, .int x2), (3, .int x3)]) C dX11_addPusher_19 (by decide) rfl ?_
  refine zw_sb [2, 3, 4, 5, 1, 0] rfl ?_
  exact p_X11_addPusher_21 C zFU _ _ _ h
def f_X11_addPusher (M : zM) (x1 : Int32) (x2 : Int32) (x3 : Int32) : Option (Int32 × zM) := f_X11_addPusher_0 x1 x2 x3 M
theorem m_X11_addPusher {l : Launch} {E : zE} (hI : zI E) {M M' : zM} {x1 : Int32} {x2 : Int32} {x3 : Int32} {r : Int32} (h : f_X11_addPusher M x1 x2 x3 = some (r, M')) : zMet l E yX11_addPusher cX11_addPusher 8 (some .int) 1 [.ref (E.2.1 0), .int x1, .int x2, .int x3] M M' (some (.int r)) := zm_of hI (by decide) (Nat.le_of_ble_eq_true rfl) (fun X _ C => p_X11_addPusher_0 C h)
theorem kv_X11_addPusher : zKV yX11_addPusher cX11_addPusher 8 (some .int) 3 := ⟨⟨gw_3_72, gs_15, gw_1_1, gw_3_73⟩, ⟨by decide, by decide, by decide +kernel⟩, by decide⟩
-- WingDoor.waysToGo(I)J, 63 instructions, depth 2
def f_X11_waysToGo_88 (x1 : Int32) : Nat → zM → Int32 → Int64 → Int32 → Option (Int64 × zM)
  | 0, _, _, _, _ => none
  | n + 1, M, x2, x3, x5 => if x2 < x5 then (some (x3, M)) else (zg (zin x5 82) (f_X11_waysToGo_88 x1 n M x2 (x3 + (M.2 17 x5.toNatClampNeg)) (x5 + (1 : Int32))))
set_option maxRecDepth 20000 in
set_option maxHeartbeats 2000000 in
theorem p_X11_waysToGo_88 {X : zX} {E : zE} {x1 : Int32} {r : Int64} {M' : zM} (C : zC X E cX11_waysToGo 6 RX11 (some .long) 2) : ∀ (n : Nat) (M : zM) (x2 : Int32) (x3 : Int64) (x5 : Int32), f_X11_waysToGo_88 x1 n M x2 x3 x5 = some (r, M') → zW X E (zRQ X E (some (.long r)) M') M 88 [(0, .ref (E.2.1 0)), (1, .int x1), (2, .int x2), (3, .long x3), (5, .int x5)] [] := by
  intro n
  induction n with
  | zero => intro M x2 x3 x5 h; cases h
  | succ n ih =>
    intro M x2 x3 x5 h
    have h : (if x2 < x5 then (some (x3, M)) else (zg (zin x5 82) (f_X11_waysToGo_88 x1 n M x2 (x3 + (M.2 17 x5.toNatClampNeg)) (x5 + (1 : Int32))))) = some (r, M') := h
    refine zw_iload C 4 rfl dX11_waysToGo_88 ?_
    refine zw_iload_n C 2 rfl dX11_waysToGo_90 rfl ?_
    refine zw_icmp_gt (tgt := 110) C dX11_waysToGo_91 (by decide) (fun hb1 => ?_) (fun hb1 => ?_)
    · have h := zt_ hb1 h
      refine zw_lload_n C 3 rfl dX11_waysToGo_110 rfl ?_
      exact zw_lreturnE C h dX11_waysToGo_111
    · have h := zf_ hb1 h
      refine zw_lload_n C 3 rfl dX11_waysToGo_94 rfl ?_
      refine zw_aload_n C 0 rfl dX11_waysToGo_95 rfl ?_
      refine zw_get (v := .ref (E.2.1 17)) C (by decide) (zc_0 E) rfl zin_X11 9 (by decide) gw_2_10 rfl dX11_waysToGo_96 ?_
      refine zw_iload C 4 rfl dX11_waysToGo_99 ?_
      obtain ⟨hi2, h⟩ := zg_e h
      refine zw_lald C zja_17 (zin_e hi2) dX11_waysToGo_101 ?_
      refine zw_ladd C dX11_waysToGo_102 ?_
      refine zw_lstore_n (lv' := [(3, .long (x3 + (M.2 17 x5.toNatClampNeg))), (0, .ref (E.2.1 0)), (1, .int x1), (2, .int x2), (5, .int x5)]) C dX11_waysToGo_103 rfl (by decide) rfl ?_
      refine zw_iinc (lv' := [(5, .int (x5 + (1 : Int32))), (3, .long (x3 + (M.2 17 x5.toNatClampNeg))), (0, .ref (E.2.1 0)), (1, .int x1), (2, .int x2)]) C 4 rfl dX11_waysToGo_104 (ct_n_1 _) (by decide) rfl ?_
      refine zw_goto (tgt := 88) C dX11_waysToGo_107 (by decide) ?_
      refine zw_sb [2, 3, 4, 1, 0] rfl ?_
      exact ih _ _ _ _ h
def f_X11_waysToGo_32 (x1 : Int32) : Nat → zM → Int32 → Int32 → Option (Int64 × zM)
  | 0, _, _, _ => none
  | n + 1, M, x2, x3 => if (M.1 37 2) ≤ x3 then (zbi (f_X5_drag M 37) (fun r3 M4 => f_X11_waysToGo_88 x1 zFU M4 x2 (0 : Int64) r3)) else (zg (zin x3 9) (if (M.1 (37 + 3) x3.toNatClampNeg) = (1 : Int32) then (zbi (f_X5_pushOf M 37 x3) (fun r8 M9 => zbi (f_X11_addPusher M9 r8 x1 x2) (fun r11 M12 => f_X11_waysToGo_32 x1 n M12 r11 (x3 + (1 : Int32))))) else (f_X11_waysToGo_32 x1 n M x2 (x3 + (1 : Int32)))))
set_option maxRecDepth 20000 in
set_option maxHeartbeats 2000000 in
theorem p_X11_waysToGo_32 {X : zX} {E : zE} {x1 : Int32} {r : Int64} {M' : zM} (C : zC X E cX11_waysToGo 6 RX11 (some .long) 2) : ∀ (n : Nat) (M : zM) (x2 : Int32) (x3 : Int32), f_X11_waysToGo_32 x1 n M x2 x3 = some (r, M') → zW X E (zRQ X E (some (.long r)) M') M 32 [(0, .ref (E.2.1 0)), (1, .int x1), (2, .int x2), (3, .int x3)] [] := by
  intro n
  induction n with
  | zero => intro M x2 x3 h; cases h
  | succ n ih =>
    intro M x2 x3 h
    have h : (if (M.1 37 2) ≤ x3 then (zbi (f_X5_drag M 37) (fun r3 M4 => f_X11_waysToGo_88 x1 zFU M4 x2 (0 : Int64) r3)) else (zg (zin x3 9) (if (M.1 (37 + 3) x3.toNatClampNeg) = (1 : Int32) then (zbi (f_X5_pushOf M 37 x3) (fun r8 M9 => zbi (f_X11_addPusher M9 r8 x1 x2) (fun r11 M12 => f_X11_waysToGo_32 x1 n M12 r11 (x3 + (1 : Int32))))) else (f_X11_waysToGo_32 x1 n M x2 (x3 + (1 : Int32)))))) = some (r, M') := h
    refine zw_iload_n C 3 rfl dX11_waysToGo_32 rfl ?_
    refine zw_aload_n C 0 rfl dX11_waysToGo_33 rfl ?_
    refine zw_get (v := .ref (E.2.1 37)) C (by decide) (zc_0 E) rfl zin_X11 3 (by decide) gw_2_4 rfl dX11_waysToGo_34 ?_
    refine zw_getN (v := .int (M.1 37 2)) C zmp_37.lt (zmp_37.c E) rfl zin_X5 2 (by decide) (List.mem_of_getElem? (i := 14) rfl) rfl dX11_waysToGo_37 ?_
    refine zw_icmp_ge (tgt := 77) C dX11_waysToGo_40 (by decide) (fun hb1 => ?_) (fun hb1 => ?_)
    · have h := zt_ hb1 h
      refine zw_lconst (v := (0 : Int64)) C dX11_waysToGo_77 rfl ?_
      refine zw_lstore_n (lv' := [(3, .long (0 : Int64)), (0, .ref (E.2.1 0)), (1, .int x1), (2, .int x2)]) C dX11_waysToGo_78 rfl (by decide) rfl ?_
      refine zw_aload_n C 1 rfl dX11_waysToGo_79 rfl ?_
      refine zw_get (v := .ref (E.2.1 37)) C (by decide) (zc_0 E) rfl zin_X11 3 (by decide) gw_2_4 rfl dX11_waysToGo_80 ?_
      obtain ⟨r3, M4, hq2, h⟩ := zbi_e h
      refine zw_callVi (As := []) (st := []) C (m_X5_drag C.2.2.2.2.2.2.2.1 zmp_37 hq2) kv_X5_drag gw_2_218 (by decide) zmp_37.lt (zmp_37.c E) rfl rfl rfl rfl (Nat.le_of_ble_eq_true rfl) dX11_waysToGo_83 ?_
      refine zw_istore (lv' := [(5, .int r3), (3, .long (0 : Int64)), (0, .ref (E.2.1 0)), (1, .int x1), (2, .int x2)]) C dX11_waysToGo_86 (by decide) rfl ?_
      refine zw_sb [2, 3, 4, 1, 0] rfl ?_
      exact p_X11_waysToGo_88 C zFU _ _ _ _ h
    · have h := zf_ hb1 h
      refine zw_aload_n C 0 rfl dX11_waysToGo_43 rfl ?_
      refine zw_get (v := .ref (E.2.1 37)) C (by decide) (zc_0 E) rfl zin_X11 3 (by decide) gw_2_4 rfl dX11_waysToGo_44 ?_
      refine zw_getN (v := .ref (E.2.1 (37 + 3))) C zmp_37.lt (zmp_37.c E) rfl zin_X5 5 (by decide) (List.mem_of_getElem? (i := 17) rfl) rfl dX11_waysToGo_47 ?_
      refine zw_iload_n C 3 rfl dX11_waysToGo_50 rfl ?_
      obtain ⟨hi5, h⟩ := zg_e h
      refine zw_iald C (zmp_37.ia (j := 3) (by decide) (by decide)) (zin_e hi5) dX11_waysToGo_51 ?_
      refine zw_iconst (v := (1 : Int32)) C dX11_waysToGo_52 ct_i_1 ?_
      refine zw_icmp_ne (tgt := 71) C dX11_waysToGo_53 (by decide) (fun hb6 => ?_) (fun hb6 => ?_)
      · have h := zt_ hb6 h
        refine zw_aload_n C 0 rfl dX11_waysToGo_56 rfl ?_
        refine zw_aload_n C 0 rfl dX11_waysToGo_57 rfl ?_
        refine zw_get (v := .ref (E.2.1 37)) C (by decide) (zc_0 E) rfl zin_X11 3 (by decide) gw_2_4 rfl dX11_waysToGo_58 ?_
        refine zw_iload_n C 3 rfl dX11_waysToGo_61 rfl ?_
        obtain ⟨r8, M9, hq7, h⟩ := zbi_e h
        refine zw_callVi (As := [.int x3]) (st := [.ref (E.2.1 0)]) C (m_X5_pushOf C.2.2.2.2.2.2.2.1 zmp_37 hq7) kv_X5_pushOf gw_3_66 (by decide) zmp_37.lt (zmp_37.c E) rfl rfl rfl rfl (Nat.le_of_ble_eq_true rfl) dX11_waysToGo_62 ?_
        refine zw_iload_n C 1 rfl dX11_waysToGo_65 rfl ?_
        refine zw_iload_n C 2 rfl dX11_waysToGo_66 rfl ?_
        obtain ⟨r11, M12, hq10, h⟩ := zbi_e h
        refine zw_callVi (As := [.int r8, .int x1, .int x2]) (st := []) C (m_X11_addPusher C.2.2.2.2.2.2.2.1 hq10) kv_X11_addPusher gw_3_70 (by decide) (by decide) (zc_0 E) rfl rfl rfl rfl (Nat.le_of_ble_eq_true rfl) dX11_waysToGo_67 ?_
        refine zw_istore_n (lv' := [(2, .int r11), (0, .ref (E.2.1 0)), (1, .int x1), (3, .int x3)]) C dX11_waysToGo_70 rfl (by decide) rfl ?_
        refine zw_iinc (lv' := [(3, .int (x3 + (1 : Int32))), (2, .int r11), (0, .ref (E.2.1 0)), (1, .int x1)]) C 3 rfl dX11_waysToGo_71 (ct_n_1 _) (by decide) rfl ?_
        refine zw_goto (tgt := 32) C dX11_waysToGo_74 (by decide) ?_
        refine zw_sb [2, 3, 1, 0] rfl ?_
        exact ih _ _ _ h
      · have h := zf_ hb6 h
        refine zw_iinc (lv' := [(3, .int (x3 + (1 : Int32))), (0, .ref (E.2.1 0)), (1, .int x1), (2, .int x2)]) C 3 rfl dX11_waysToGo_71 (ct_n_1 _) (by decide) rfl ?_
        refine zw_goto (tgt := 32) C dX11_waysToGo_74 (by decide) ?_
        refine zw_sb [1, 2, 3, 0] rfl ?_
        exact ih _ _ _ h
def f_X11_waysToGo_0 (x1 : Int32) (M : zM) : Option (Int64 × zM) := zbi (f_X5_whoIs M 37 (1 : Int32)) (fun r2 M3 => if r2 = 0 then (some ((0 : Int64), M3)) else (zbv (f_J7_fill_d0a16 M3 17 82 (0 : Int64)) (fun M7 => zg (zin (0 : Int32) 82) (f_X11_waysToGo_32 x1 zFU (zsL M7 17 (0 : Int32).toNatClampNeg (1 : Int64)) (0 : Int32) (0 : Int32)))))
set_option maxRecDepth 20000 in
set_option maxHeartbeats 2000000 in
theorem p_X11_waysToGo_0 {X : zX} {E : zE} {x1 : Int32} {r : Int64} {M' : zM} (C : zC X E cX11_waysToGo 6 RX11 (some .long) 2) {M : zM} (h : f_X11_waysToGo_0 x1 M = some (r, M')) : zW X E (zRQ X E (some (.long r)) M') M 0 [(0, .ref (E.2.1 0)), (1, .int x1)] [] := by
  have h : (zbi (f_X5_whoIs M 37 (1 : Int32)) (fun r2 M3 => if r2 = 0 then (some ((0 : Int64), M3)) else (zbv (f_J7_fill_d0a16 M3 17 82 (0 : Int64)) (fun M7 => zg (zin (0 : Int32) 82) (f_X11_waysToGo_32 x1 zFU (zsL M7 17 (0 : Int32).toNatClampNeg (1 : Int64)) (0 : Int32) (0 : Int32)))))) = some (r, M') := h
  refine zw_aload_n C 0 rfl dX11_waysToGo_0 rfl ?_
  refine zw_get (v := .ref (E.2.1 37)) C (by decide) (zc_0 E) rfl zin_X11 3 (by decide) gw_2_4 rfl dX11_waysToGo_1 ?_
  refine zw_iconst (v := (1 : Int32)) C dX11_waysToGo_4 ct_i_1 ?_
  obtain ⟨r2, M3, hq1, h⟩ := zbi_e h
  refine zw_callVi (As := [.int (1 : Int32)]) (st := []) C (m_X5_whoIs C.2.2.2.2.2.2.2.1 zmp_37 hq1) kv_X5_whoIs gw_2_219 (by decide) zmp_37.lt (zmp_37.c E) rfl rfl rfl rfl (Nat.le_of_ble_eq_true rfl) dX11_waysToGo_5 ?_
  refine zw_if_ne (tgt := 13) C dX11_waysToGo_8 (by decide) (fun hb4 => ?_) (fun hb4 => ?_)
  · have h := zt_ hb4 h
    refine zw_lconst (v := (0 : Int64)) C dX11_waysToGo_11 rfl ?_
    exact zw_lreturnE C h dX11_waysToGo_12
  · have h := zf_ hb4 h
    refine zw_aload_n C 0 rfl dX11_waysToGo_13 rfl ?_
    refine zw_get (v := .ref (E.2.1 17)) C (by decide) (zc_0 E) rfl zin_X11 9 (by decide) gw_2_10 rfl dX11_waysToGo_14 ?_
    refine zw_lconst (v := (0 : Int64)) C dX11_waysToGo_17 rfl ?_
    obtain ⟨M7, hq5, h⟩ := zbv_e h
    refine zw_callSv (As := [.ref (E.2.1 17), .long (0 : Int64)]) (st := []) C (m_J7_fill_d0a16 C.2.2.2.2.2.2.2.1 zja_17 hq5) ks_J7_fill_d0a16 gw_3_63 (by decide) rfl rfl (Nat.le_of_ble_eq_true rfl) dX11_waysToGo_18 ?_
    refine zw_aload_n C 0 rfl dX11_waysToGo_21 rfl ?_
    refine zw_get (v := .ref (E.2.1 17)) C (by decide) (zc_0 E) rfl zin_X11 9 (by decide) gw_2_10 rfl dX11_waysToGo_22 ?_
    refine zw_iconst (v := (0 : Int32)) C dX11_waysToGo_25 ct_i_0 ?_
    refine zw_lconst (v := (1 : Int64)) C dX11_waysToGo_26 rfl ?_
    obtain ⟨hi8, h⟩ := zg_e h
    refine zw_last C zja_17 (zin_e hi8) dX11_waysToGo_27 ?_
    refine zw_iconst (v := (0 : Int32)) C dX11_waysToGo_28 ct_i_0 ?_
    refine zw_istore_n (lv' := [(2, .int (0 : Int32)), (0, .ref (E.2.1 0)), (1, .int x1)]) C dX11_waysToGo_29 rfl (by decide) rfl ?_
    refine zw_iconst (v := (0 : Int32)) C dX11_waysToGo_30 ct_i_0 ?_
    refine zw_istore_n (lv' := [(3, .int (0 : Int32)), (2, .int (0 : Int32)), (0, .ref (E.2.1 0)), (1, .int x1)]) C dX11_waysToGo_31 rfl (by decide) rfl ?_
    refine zw_sb [2, 3, 1, 0] rfl ?_
    exact p_X11_waysToGo_32 C zFU _ _ _ h
def f_X11_waysToGo (M : zM) (x1 : Int32) : Option (Int64 × zM) := f_X11_waysToGo_0 x1 M
theorem m_X11_waysToGo {l : Launch} {E : zE} (hI : zI E) {M M' : zM} {x1 : Int32} {r : Int64} (h : f_X11_waysToGo M x1 = some (r, M')) : zMet l E yX11_waysToGo cX11_waysToGo 6 (some .long) 2 [.ref (E.2.1 0), .int x1] M M' (some (.long r)) := zm_of hI (by decide) (Nat.le_of_ble_eq_true rfl) (fun X _ C => p_X11_waysToGo_0 C h)
theorem kv_X11_waysToGo : zKV yX11_waysToGo cX11_waysToGo 6 (some .long) 1 := ⟨⟨gw_3_61, gs_14, gw_1_1, gw_3_62⟩, ⟨by decide, by decide, by decide +kernel⟩, by decide⟩
-- WingDoor.greatestDivisor(JJ)J, 25 instructions, depth 0
def f_X11_greatestDivisor_9 (x0 : Int64) (x2 : Int64) : Nat → zM → Int64 → Int64 → Int32 → Option (Int64 × zM)
  | 0, _, _, _, _ => none
  | n + 1, M, x4, x6, x8 => if (100 : Int32) ≤ x8 then (some (x4, M)) else (if (lg_cmp x6 (0 : Int64)) = 0 then (some (x4, M)) else (zg (znL x6) (f_X11_greatestDivisor_9 x0 x2 n M x6 (x4 - x4 / x6 * x6) (x8 + (1 : Int32)))))
set_option maxRecDepth 20000 in
set_option maxHeartbeats 2000000 in
theorem p_X11_greatestDivisor_9 {X : zX} {E : zE} {x0 : Int64} {x2 : Int64} {r : Int64} {M' : zM} (C : zC X E cX11_greatestDivisor 11 RX11 (some .long) 0) : ∀ (n : Nat) (M : zM) (x4 : Int64) (x6 : Int64) (x8 : Int32), f_X11_greatestDivisor_9 x0 x2 n M x4 x6 x8 = some (r, M') → zW X E (zRQ X E (some (.long r)) M') M 9 [(0, .long x0), (2, .long x2), (4, .long x4), (6, .long x6), (8, .int x8)] [] := by
  intro n
  induction n with
  | zero => intro M x4 x6 x8 h; cases h
  | succ n ih =>
    intro M x4 x6 x8 h
    have h : (if (100 : Int32) ≤ x8 then (some (x4, M)) else (if (lg_cmp x6 (0 : Int64)) = 0 then (some (x4, M)) else (zg (znL x6) (f_X11_greatestDivisor_9 x0 x2 n M x6 (x4 - x4 / x6 * x6) (x8 + (1 : Int32)))))) = some (r, M') := h
    refine zw_iload C 4 rfl dX11_greatestDivisor_9 ?_
    refine zw_bipush (v := (100 : Int32)) C dX11_greatestDivisor_11 ct_b_100 ?_
    refine zw_icmp_ge (tgt := 44) C dX11_greatestDivisor_13 (by decide) (fun hb1 => ?_) (fun hb1 => ?_)
    · have h := zt_ hb1 h
      refine zw_lload C 2 rfl dX11_greatestDivisor_44 ?_
      exact zw_lreturnE C h dX11_greatestDivisor_46
    · have h := zf_ hb1 h
      refine zw_lload C 3 rfl dX11_greatestDivisor_16 ?_
      refine zw_lconst (v := (0 : Int64)) C dX11_greatestDivisor_18 rfl ?_
      refine zw_lcmp C dX11_greatestDivisor_19 ?_
      refine zw_if_eq (tgt := 44) C dX11_greatestDivisor_20 (by decide) (fun hb2 => ?_) (fun hb2 => ?_)
      · have h := zt_ hb2 h
        refine zw_lload C 2 rfl dX11_greatestDivisor_44 ?_
        exact zw_lreturnE C h dX11_greatestDivisor_46
      · have h := zf_ hb2 h
        refine zw_lload C 2 rfl dX11_greatestDivisor_23 ?_
        refine zw_lload C 3 rfl dX11_greatestDivisor_25 ?_
        obtain ⟨hz3, h⟩ := zg_e h
        refine zw_lrem C (znL_e hz3) dX11_greatestDivisor_27 ?_
        refine zw_lstore (lv' := [(9, .long (x4 - x4 / x6 * x6)), (0, .long x0), (2, .long x2), (4, .long x4), (6, .long x6), (8, .int x8)]) C dX11_greatestDivisor_28 (by decide) rfl ?_
        refine zw_lload C 4 rfl dX11_greatestDivisor_30 ?_
        refine zw_lstore (lv' := [(4, .long x6), (9, .long (x4 - x4 / x6 * x6)), (0, .long x0), (2, .long x2), (6, .long x6), (8, .int x8)]) C dX11_greatestDivisor_32 (by decide) rfl ?_
        refine zw_lload C 1 rfl dX11_greatestDivisor_34 ?_
        refine zw_lstore (lv' := [(6, .long (x4 - x4 / x6 * x6)), (4, .long x6), (9, .long (x4 - x4 / x6 * x6)), (0, .long x0), (2, .long x2), (8, .int x8)]) C dX11_greatestDivisor_36 (by decide) rfl ?_
        refine zw_iinc (lv' := [(8, .int (x8 + (1 : Int32))), (6, .long (x4 - x4 / x6 * x6)), (4, .long x6), (9, .long (x4 - x4 / x6 * x6)), (0, .long x0), (2, .long x2)]) C 5 rfl dX11_greatestDivisor_38 (ct_n_1 _) (by decide) rfl ?_
        refine zw_goto (tgt := 9) C dX11_greatestDivisor_41 (by decide) ?_
        refine zw_sb [4, 5, 2, 1, 0] rfl ?_
        exact ih _ _ _ _ h
def f_X11_greatestDivisor_0 (x0 : Int64) (x2 : Int64) (M : zM) : Option (Int64 × zM) := f_X11_greatestDivisor_9 x0 x2 zFU M x0 x2 (0 : Int32)
set_option maxRecDepth 20000 in
set_option maxHeartbeats 2000000 in
theorem p_X11_greatestDivisor_0 {X : zX} {E : zE} {x0 : Int64} {x2 : Int64} {r : Int64} {M' : zM} (C : zC X E cX11_greatestDivisor 11 RX11 (some .long) 0) {M : zM} (h : f_X11_greatestDivisor_0 x0 x2 M = some (r, M')) : zW X E (zRQ X E (some (.long r)) M') M 0 [(0, .long x0), (2, .long x2)] [] := by
  have h : (f_X11_greatestDivisor_9 x0 x2 zFU M x0 x2 (0 : Int32)) = some (r, M') := h
  refine zw_lload_n C 0 rfl dX11_greatestDivisor_0 rfl ?_
  refine zw_lstore (lv' := [(4, .long x0), (0, .long x0), (2, .long x2)]) C dX11_greatestDivisor_1 (by decide) rfl ?_
  refine zw_lload_n C 2 rfl dX11_greatestDivisor_3 rfl ?_
  refine zw_lstore (lv' := [(6, .long x2), (4, .long x0), (0, .long x0), (2, .long x2)]) C dX11_greatestDivisor_4 (by decide) rfl ?_
  refine zw_iconst (v := (0 : Int32)) C dX11_greatestDivisor_6 ct_i_0 ?_
  refine zw_istore (lv' := [(8, .int (0 : Int32)), (6, .long x2), (4, .long x0), (0, .long x0), (2, .long x2)]) C dX11_greatestDivisor_7 (by decide) rfl ?_
  refine zw_sb [3, 4, 2, 1, 0] rfl ?_
  exact p_X11_greatestDivisor_9 C zFU _ _ _ _ h
def f_X11_greatestDivisor (M : zM) (x0 : Int64) (x2 : Int64) : Option (Int64 × zM) := f_X11_greatestDivisor_0 x0 x2 M
theorem m_X11_greatestDivisor {l : Launch} {E : zE} (hI : zI E) {M M' : zM} {x0 : Int64} {x2 : Int64} {r : Int64} (h : f_X11_greatestDivisor M x0 x2 = some (r, M')) : zMet l E yX11_greatestDivisor cX11_greatestDivisor 11 (some .long) 0 [.long x0, .long x2] M M' (some (.long r)) := zm_of hI (by decide) (Nat.le_of_ble_eq_true rfl) (fun X _ C => p_X11_greatestDivisor_0 C h)
theorem ks_X11_greatestDivisor : zKS yX11_greatestDivisor cX11_greatestDivisor 11 (some .long) 2 := ⟨⟨gw_3_78, gw_1_1, gw_3_79⟩, ⟨by decide, by decide, by decide +kernel⟩, by decide⟩
-- WingDoor.leastOf(I)I, 6 instructions, depth 0
def f_X11_leastOf_0 (x0 : Int32) (M : zM) : Option (Int32 × zM) := if x0 = 0 then (some ((1 : Int32), M)) else (some ((0 : Int32), M))
set_option maxRecDepth 20000 in
set_option maxHeartbeats 2000000 in
theorem p_X11_leastOf_0 {X : zX} {E : zE} {x0 : Int32} {r : Int32} {M' : zM} (C : zC X E cX11_leastOf 1 RX11 (some .int) 0) {M : zM} (h : f_X11_leastOf_0 x0 M = some (r, M')) : zW X E (zRQ X E (some (.int r)) M') M 0 [(0, .int x0)] [] := by
  have h : (if x0 = 0 then (some ((1 : Int32), M)) else (some ((0 : Int32), M))) = some (r, M') := h
  refine zw_iload_n C 0 rfl dX11_leastOf_0 rfl ?_
  refine zw_if_ne (tgt := 8) C dX11_leastOf_1 (by decide) (fun hb1 => ?_) (fun hb1 => ?_)
  · have h := zt_ hb1 h
    refine zw_iconst (v := (1 : Int32)) C dX11_leastOf_4 ct_i_1 ?_
    refine zw_goto (tgt := 9) C dX11_leastOf_5 (by decide) ?_
    exact zw_ireturnE C h dX11_leastOf_9
  · have h := zf_ hb1 h
    refine zw_iconst (v := (0 : Int32)) C dX11_leastOf_8 ct_i_0 ?_
    exact zw_ireturnE C h dX11_leastOf_9
def f_X11_leastOf (M : zM) (x0 : Int32) : Option (Int32 × zM) := f_X11_leastOf_0 x0 M
theorem m_X11_leastOf {l : Launch} {E : zE} (hI : zI E) {M M' : zM} {x0 : Int32} {r : Int32} (h : f_X11_leastOf M x0 = some (r, M')) : zMet l E yX11_leastOf cX11_leastOf 1 (some .int) 0 [.int x0] M M' (some (.int r)) := zm_of hI (by decide) (Nat.le_of_ble_eq_true rfl) (fun X _ C => p_X11_leastOf_0 C h)
theorem ks_X11_leastOf : zKS yX11_leastOf cX11_leastOf 1 (some .int) 1 := ⟨⟨gw_3_88, gw_1_1, gw_3_89⟩, ⟨by decide, by decide, by decide +kernel⟩, by decide⟩
-- WingDoor.mostOf(I)I, 6 instructions, depth 0
def f_X11_mostOf_0 (x0 : Int32) (M : zM) : Option (Int32 × zM) := if x0 = 0 then (some ((5 : Int32), M)) else (some ((9 : Int32), M))
set_option maxRecDepth 20000 in
set_option maxHeartbeats 2000000 in
theorem p_X11_mostOf_0 {X : zX} {E : zE} {x0 : Int32} {r : Int32} {M' : zM} (C : zC X E cX11_mostOf 1 RX11 (some .int) 0) {M : zM} (h : f_X11_mostOf_0 x0 M = some (r, M')) : zW X E (zRQ X E (some (.int r)) M') M 0 [(0, .int x0)] [] := by
  have h : (if x0 = 0 then (some ((5 : Int32), M)) else (some ((9 : Int32), M))) = some (r, M') := h
  refine zw_iload_n C 0 rfl dX11_mostOf_0 rfl ?_
  refine zw_if_ne (tgt := 8) C dX11_mostOf_1 (by decide) (fun hb1 => ?_) (fun hb1 => ?_)
  · have h := zt_ hb1 h
    refine zw_iconst (v := (5 : Int32)) C dX11_mostOf_4 ct_i_5 ?_
    refine zw_goto (tgt := 10) C dX11_mostOf_5 (by decide) ?_
    exact zw_ireturnE C h dX11_mostOf_10
  · have h := zf_ hb1 h
    refine zw_bipush (v := (9 : Int32)) C dX11_mostOf_8 ct_b_9 ?_
    exact zw_ireturnE C h dX11_mostOf_10
def f_X11_mostOf (M : zM) (x0 : Int32) : Option (Int32 × zM) := f_X11_mostOf_0 x0 M
theorem m_X11_mostOf {l : Launch} {E : zE} (hI : zI E) {M M' : zM} {x0 : Int32} {r : Int32} (h : f_X11_mostOf M x0 = some (r, M')) : zMet l E yX11_mostOf cX11_mostOf 1 (some .int) 0 [.int x0] M M' (some (.int r)) := zm_of hI (by decide) (Nat.le_of_ble_eq_true rfl) (fun X _ C => p_X11_mostOf_0 C h)
theorem ks_X11_mostOf : zKS yX11_mostOf cX11_mostOf 1 (some .int) 1 := ⟨⟨gw_3_91, gw_1_1, gw_3_92⟩, ⟨by decide, by decide, by decide +kernel⟩, by decide⟩
-- WingDoor.type(I)I, 18 instructions, depth 1
def f_X11_type_0 (x1 : Int32) (M : zM) : Option (Int32 × zM) := if x1 < 0 then (some ((-1 : Int32), M)) else (if x1 ≤ (255 : Int32) then (zbi (f_X10_add M x1) (fun r4 M5 => if r4 = 0 then (some ((-3 : Int32), M5)) else (some (M5.1 1 1, M5)))) else (some ((-1 : Int32), M)))
set_option maxRecDepth 20000 in
set_option maxHeartbeats 2000000 in
theorem p_X11_type_0 {X : zX} {E : zE} {x1 : Int32} {r : Int32} {M' : zM} (C : zC X E cX11_type 2 RX11 (some .int) 1) {M : zM} (h : f_X11_type_0 x1 M = some (r, M')) : zW X E (zRQ X E (some (.int r)) M') M 0 [(0, .ref (E.2.1 0)), (1, .int x1)] [] := by
  have h : (if x1 < 0 then (some ((-1 : Int32), M)) else (if x1 ≤ (255 : Int32) then (zbi (f_X10_add M x1) (fun r4 M5 => if r4 = 0 then (some ((-3 : Int32), M5)) else (some (M5.1 1 1, M5)))) else (some ((-1 : Int32), M)))) = some (r, M') := h
  refine zw_iload_n C 1 rfl dX11_type_0 rfl ?_
  refine zw_if_lt (tgt := 11) C dX11_type_1 (by decide) (fun hb1 => ?_) (fun hb1 => ?_)
  · have h := zt_ hb1 h
    refine zw_iconst (v := (-1 : Int32)) C dX11_type_11 ct_i_m1 ?_
    exact zw_ireturnE C h dX11_type_12
  · have h := zf_ hb1 h
    refine zw_iload_n C 1 rfl dX11_type_4 rfl ?_
    refine zw_sipush (v := (255 : Int32)) C dX11_type_5 ct_s_255 ?_
    refine zw_icmp_le (tgt := 13) C dX11_type_8 (by decide) (fun hb2 => ?_) (fun hb2 => ?_)
    · have h := zt_ hb2 h
      refine zw_aload_n C 0 rfl dX11_type_13 rfl ?_
      refine zw_get (v := .ref (E.2.1 1)) C (by decide) (zc_0 E) rfl zin_X11 0 (by decide) gw_2_1 rfl dX11_type_14 ?_
      refine zw_iload_n C 1 rfl dX11_type_17 rfl ?_
      obtain ⟨r4, M5, hq3, h⟩ := zbi_e h
      refine zw_callVi (As := [.int x1]) (st := []) C (m_X10_add C.2.2.2.2.2.2.2.1 hq3) kv_X10_add gw_2_39 (by decide) (by decide) (zc_1 E) rfl rfl rfl rfl (Nat.le_of_ble_eq_true rfl) dX11_type_18 ?_
      refine zw_if_eq (tgt := 34) C dX11_type_21 (by decide) (fun hb6 => ?_) (fun hb6 => ?_)
      · have h := zt_ hb6 h
        refine zw_bipush (v := (-3 : Int32)) C dX11_type_34 ct_b_m3 ?_
        exact zw_ireturnE C h dX11_type_36
      · have h := zf_ hb6 h
        refine zw_aload_n C 0 rfl dX11_type_24 rfl ?_
        refine zw_get (v := .ref (E.2.1 1)) C (by decide) (zc_0 E) rfl zin_X11 0 (by decide) gw_2_1 rfl dX11_type_25 ?_
        refine zw_getN (v := .int (M5.1 1 1)) C (by decide) (zc_1 E) rfl zin_X10 1 (by decide) (List.mem_of_getElem? (i := 0) rfl) rfl dX11_type_28 ?_
        refine zw_goto (tgt := 36) C dX11_type_31 (by decide) ?_
        exact zw_ireturnE C h dX11_type_36
    · have h := zf_ hb2 h
      refine zw_iconst (v := (-1 : Int32)) C dX11_type_11 ct_i_m1 ?_
      exact zw_ireturnE C h dX11_type_12
def f_X11_type (M : zM) (x1 : Int32) : Option (Int32 × zM) := f_X11_type_0 x1 M
theorem m_X11_type {l : Launch} {E : zE} (hI : zI E) {M M' : zM} {x1 : Int32} {r : Int32} (h : f_X11_type M x1 = some (r, M')) : zMet l E yX11_type cX11_type 2 (some .int) 1 [.ref (E.2.1 0), .int x1] M M' (some (.int r)) := zm_of hI (by decide) (Nat.le_of_ble_eq_true rfl) (fun X _ C => p_X11_type_0 C h)
theorem kv_X11_type : zKV yX11_type cX11_type 2 (some .int) 1 := ⟨⟨gw_2_36, gw_2_37, gw_1_1, gw_2_38⟩, ⟨by decide, by decide, by decide +kernel⟩, by decide⟩
-- WingDoor.clear()I, 10 instructions, depth 0
def f_X11_clear_0 (M : zM) : Option (Int32 × zM) := some (M.1 1 1, zs M 1 1 (0 : Int32))
set_option maxRecDepth 20000 in
set_option maxHeartbeats 2000000 in
theorem p_X11_clear_0 {X : zX} {E : zE} {r : Int32} {M' : zM} (C : zC X E cX11_clear 2 RX11 (some .int) 0) {M : zM} (h : f_X11_clear_0  M = some (r, M')) : zW X E (zRQ X E (some (.int r)) M') M 0 [(0, .ref (E.2.1 0))] [] := by
  have h : (some (M.1 1 1, zs M 1 1 (0 : Int32))) = some (r, M') := h
  refine zw_aload_n C 0 rfl dX11_clear_0 rfl ?_
  refine zw_get (v := .ref (E.2.1 1)) C (by decide) (zc_0 E) rfl zin_X11 0 (by decide) gw_2_1 rfl dX11_clear_1 ?_
  refine zw_getN (v := .int (M.1 1 1)) C (by decide) (zc_1 E) rfl zin_X10 1 (by decide) (List.mem_of_getElem? (i := 0) rfl) rfl dX11_clear_4 ?_
  refine zw_istore_n (lv' := [(1, .int (M.1 1 1)), (0, .ref (E.2.1 0))]) C dX11_clear_7 rfl (by decide) rfl ?_
  refine zw_aload_n C 1 rfl dX11_clear_8 rfl ?_
  refine zw_get (v := .ref (E.2.1 1)) C (by decide) (zc_0 E) rfl zin_X11 0 (by decide) gw_2_1 rfl dX11_clear_9 ?_
  refine zw_iconst (v := (0 : Int32)) C dX11_clear_12 ct_i_0 ?_
  refine zw_putN (ty := .int) C (by decide) (zc_1 E) rfl zin_X10 tyX10 tyX10_ok nmX10 1 (by decide) (List.mem_of_getElem? (i := 0) rfl) rfl rfl rfl rfl (fun _ _ => Nat.le_of_ble_eq_true rfl) (fun _ _ => rfl) dX11_clear_13 ?_
  refine zw_iload_n C 0 rfl dX11_clear_16 rfl ?_
  exact zw_ireturnE C h dX11_clear_17
def f_X11_clear (M : zM) : Option (Int32 × zM) := f_X11_clear_0 M
theorem m_X11_clear {l : Launch} {E : zE} (hI : zI E) {M M' : zM} {r : Int32} (h : f_X11_clear M = some (r, M')) : zMet l E yX11_clear cX11_clear 2 (some .int) 0 [.ref (E.2.1 0)] M M' (some (.int r)) := zm_of hI (by decide) (Nat.le_of_ble_eq_true rfl) (fun X _ C => p_X11_clear_0 C h)
theorem kv_X11_clear : zKV yX11_clear cX11_clear 2 (some .int) 0 := ⟨⟨gw_2_44, gw_2_45, gw_1_1, gw_2_46⟩, ⟨by decide, by decide, by decide +kernel⟩, by decide⟩
-- WingDoor.door()I, 44 instructions, depth 6
def f_X11_door_62 : Nat → zM → Int32 → Int32 → Option (Int32 × zM)
  | 0, _, _, _ => none
  | n + 1, M, x1, x2 => if (2 : Int32) ≤ x2 then (some (x1, M)) else (zg (zin x2 2) (f_X11_door_62 n (zs M 12 x2.toNatClampNeg (0 : Int32)) x1 (x2 + (1 : Int32))))
set_option maxRecDepth 20000 in
set_option maxHeartbeats 2000000 in
theorem p_X11_door_62 {X : zX} {E : zE} {r : Int32} {M' : zM} (C : zC X E cX11_door 3 RX11 (some .int) 6) : ∀ (n : Nat) (M : zM) (x1 : Int32) (x2 : Int32), f_X11_door_62  n M x1 x2 = some (r, M') → zW X E (zRQ X E (some (.int r)) M') M 62 [(0, .ref (E.2.1 0)), (1, .int x1), (2, .int x2)] [] := by
  intro n
  induction n with
  | zero => intro M x1 x2 h; cases h
  | succ n ih =>
    intro M x1 x2 h
    have h : (if (2 : Int32) ≤ x2 then (some (x1, M)) else (zg (zin x2 2) (f_X11_door_62 n (zs M 12 x2.toNatClampNeg (0 : Int32)) x1 (x2 + (1 : Int32))))) = some (r, M') := h
    refine zw_iload_n C 2 rfl dX11_door_62 rfl ?_
    refine zw_iconst (v := (2 : Int32)) C dX11_door_63 ct_i_2 ?_
    refine zw_icmp_ge (tgt := 80) C dX11_door_64 (by decide) (fun hb1 => ?_) (fun hb1 => ?_)
    · have h := zt_ hb1 h
      refine zw_iload_n C 1 rfl dX11_door_80 rfl ?_
      exact zw_ireturnE C h dX11_door_81
    · have h := zf_ hb1 h
      refine zw_aload_n C 0 rfl dX11_door_67 rfl ?_
      refine zw_get (v := .ref (E.2.1 12)) C (by decide) (zc_0 E) rfl zin_X11 7 (by decide) gw_2_8 rfl dX11_door_68 ?_
      refine zw_iload_n C 2 rfl dX11_door_71 rfl ?_
      refine zw_iconst (v := (0 : Int32)) C dX11_door_72 ct_i_0 ?_
      obtain ⟨hi2, h⟩ := zg_e h
      refine zw_zast C zza_12 rfl (zin_e hi2) dX11_door_73 ?_
      refine zw_iinc (lv' := [(2, .int (x2 + (1 : Int32))), (0, .ref (E.2.1 0)), (1, .int x1)]) C 2 rfl dX11_door_74 (ct_n_1 _) (by decide) rfl ?_
      refine zw_goto (tgt := 62) C dX11_door_77 (by decide) ?_
      refine zw_sb [1, 2, 0] rfl ?_
      exact ih _ _ _ h
def f_X11_door_0 (M : zM) : Option (Int32 × zM) := zbi (f_X10_tellTo M 6) (fun r2 M3 => if 0 ≤ r2 then (zbv (f_X7_copy M3 3 6) (fun M7 => zbv (f_X5_empty (zs M7 1 1 (0 : Int32)) 37) (fun M10 => f_X11_door_62 zFU (zs (zs M10 9 2 (0 : Int32)) 13 4 (0 : Int32)) r2 (0 : Int32)))) else (some (r2, M3)))
set_option maxRecDepth 20000 in
set_option maxHeartbeats 2000000 in
theorem p_X11_door_0 {X : zX} {E : zE} {r : Int32} {M' : zM} (C : zC X E cX11_door 3 RX11 (some .int) 6) {M : zM} (h : f_X11_door_0  M = some (r, M')) : zW X E (zRQ X E (some (.int r)) M') M 0 [(0, .ref (E.2.1 0))] [] := by
  have h : (zbi (f_X10_tellTo M 6) (fun r2 M3 => if 0 ≤ r2 then (zbv (f_X7_copy M3 3 6) (fun M7 => zbv (f_X5_empty (zs M7 1 1 (0 : Int32)) 37) (fun M10 => f_X11_door_62 zFU (zs (zs M10 9 2 (0 : Int32)) 13 4 (0 : Int32)) r2 (0 : Int32)))) else (some (r2, M3)))) = some (r, M') := h
  refine zw_aload_n C 0 rfl dX11_door_0 rfl ?_
  refine zw_get (v := .ref (E.2.1 1)) C (by decide) (zc_0 E) rfl zin_X11 0 (by decide) gw_2_1 rfl dX11_door_1 ?_
  refine zw_aload_n C 0 rfl dX11_door_4 rfl ?_
  refine zw_get (v := .ref (E.2.1 6)) C (by decide) (zc_0 E) rfl zin_X11 2 (by decide) gw_2_3 rfl dX11_door_5 ?_
  obtain ⟨r2, M3, hq1, h⟩ := zbi_e h
  refine zw_callVi (As := [.ref (E.2.1 6)]) (st := []) C (m_X10_tellTo C.2.2.2.2.2.2.2.1 zpp_6 hq1) kv_X10_tellTo gw_2_51 (by decide) (by decide) (zc_1 E) rfl rfl rfl rfl (Nat.le_of_ble_eq_true rfl) dX11_door_8 ?_
  refine zw_istore_n (lv' := [(1, .int r2), (0, .ref (E.2.1 0))]) C dX11_door_11 rfl (by decide) rfl ?_
  refine zw_iload_n C 0 rfl dX11_door_12 rfl ?_
  refine zw_if_ge (tgt := 18) C dX11_door_13 (by decide) (fun hb4 => ?_) (fun hb4 => ?_)
  · have h := zt_ hb4 h
    refine zw_aload_n C 1 rfl dX11_door_18 rfl ?_
    refine zw_get (v := .ref (E.2.1 3)) C (by decide) (zc_0 E) rfl zin_X11 1 (by decide) gw_2_2 rfl dX11_door_19 ?_
    refine zw_aload_n C 1 rfl dX11_door_22 rfl ?_
    refine zw_get (v := .ref (E.2.1 6)) C (by decide) (zc_0 E) rfl zin_X11 2 (by decide) gw_2_3 rfl dX11_door_23 ?_
    obtain ⟨M7, hq5, h⟩ := zbv_e h
    refine zw_callVv (As := [.ref (E.2.1 6)]) (st := []) C (m_X7_copy C.2.2.2.2.2.2.2.1 zpp_3 zpp_6 hq5) kv_X7_copy gw_2_92 (by decide) zpp_3.lt (zpp_3.c E) rfl rfl rfl rfl (Nat.le_of_ble_eq_true rfl) dX11_door_26 ?_
    refine zw_aload_n C 1 rfl dX11_door_29 rfl ?_
    refine zw_get (v := .ref (E.2.1 1)) C (by decide) (zc_0 E) rfl zin_X11 0 (by decide) gw_2_1 rfl dX11_door_30 ?_
    refine zw_iconst (v := (0 : Int32)) C dX11_door_33 ct_i_0 ?_
    refine zw_putN (ty := .int) C (by decide) (zc_1 E) rfl zin_X10 tyX10 tyX10_ok nmX10 1 (by decide) (List.mem_of_getElem? (i := 0) rfl) rfl rfl rfl rfl (fun _ _ => Nat.le_of_ble_eq_true rfl) (fun _ _ => rfl) dX11_door_34 ?_
    refine zw_aload_n C 1 rfl dX11_door_37 rfl ?_
    refine zw_get (v := .ref (E.2.1 37)) C (by decide) (zc_0 E) rfl zin_X11 3 (by decide) gw_2_4 rfl dX11_door_38 ?_
    obtain ⟨M10, hq8, h⟩ := zbv_e h
    refine zw_callVv (As := []) (st := []) C (m_X5_empty C.2.2.2.2.2.2.2.1 zmp_37 hq8) kv_X5_empty gw_2_99 (by decide) zmp_37.lt (zmp_37.c E) rfl rfl rfl rfl (Nat.le_of_ble_eq_true rfl) dX11_door_41 ?_
    refine zw_aload_n C 1 rfl dX11_door_44 rfl ?_
    refine zw_get (v := .ref (E.2.1 9)) C (by decide) (zc_0 E) rfl zin_X11 5 (by decide) gw_2_6 rfl dX11_door_45 ?_
    refine zw_iconst (v := (0 : Int32)) C dX11_door_48 ct_i_0 ?_
    refine zw_putN (ty := .int) C (by decide) (zc_9 E) rfl zin_X6 tyX6 tyX6_ok nmX6 2 (by decide) (List.mem_of_getElem? (i := 19) rfl) rfl rfl rfl rfl (fun _ _ => Nat.le_of_ble_eq_true rfl) (fun _ _ => rfl) dX11_door_49 ?_
    refine zw_aload_n C 1 rfl dX11_door_52 rfl ?_
    refine zw_get (v := .ref (E.2.1 13)) C (by decide) (zc_0 E) rfl zin_X11 8 (by decide) gw_2_9 rfl dX11_door_53 ?_
    refine zw_iconst (v := (0 : Int32)) C dX11_door_56 ct_i_0 ?_
    refine zw_putN (ty := .int) C (by decide) (zc_13 E) rfl zin_X8 tyX8 tyX8_ok nmX8 4 (by decide) (List.mem_of_getElem? (i := 20) rfl) rfl rfl rfl rfl (fun _ _ => Nat.le_of_ble_eq_true rfl) (fun _ _ => rfl) dX11_door_57 ?_
    refine zw_iconst (v := (0 : Int32)) C dX11_door_60 ct_i_0 ?_
    refine zw_istore_n (lv' := [(2, .int (0 : Int32)), (1, .int r2), (0, .ref (E.2.1 0))]) C dX11_door_61 rfl (by decide) rfl ?_
    refine zw_sb [2, 1, 0] rfl ?_
    exact p_X11_door_62 C zFU _ _ _ h
  · have h := zf_ hb4 h
    refine zw_iload_n C 0 rfl dX11_door_16 rfl ?_
    exact zw_ireturnE C h dX11_door_17
def f_X11_door (M : zM) : Option (Int32 × zM) := f_X11_door_0 M
theorem m_X11_door {l : Launch} {E : zE} (hI : zI E) {M M' : zM} {r : Int32} (h : f_X11_door M = some (r, M')) : zMet l E yX11_door cX11_door 3 (some .int) 6 [.ref (E.2.1 0)] M M' (some (.int r)) := zm_of hI (by decide) (Nat.le_of_ble_eq_true rfl) (fun X _ C => p_X11_door_0 C h)
theorem kv_X11_door : zKV yX11_door cX11_door 3 (some .int) 0 := ⟨⟨gw_2_48, gw_2_49, gw_1_1, gw_2_50⟩, ⟨by decide, by decide, by decide +kernel⟩, by decide⟩
-- WingDoor.sort(II)I, 26 instructions, depth 1
def f_X11_sort_0 (x1 : Int32) (x2 : Int32) (M : zM) : Option (Int32 × zM) := zbi (f_X7_hasSort M 3 x1) (fun r2 M3 => if r2 = 0 then (some ((-1 : Int32), M3)) else (if x2 = (0 : Int32) then (zbi (f_X7_bulkOf M3 3 x1) (fun r7 M8 => some (r7, M8))) else if x2 = (1 : Int32) then (zbi (f_X7_pushOf M3 3 x1) (fun r11 M12 => some (r11, M12))) else if x2 = (2 : Int32) then (zbi (f_X5_howManyOfSort M3 37 x1) (fun r15 M16 => some (r15, M16))) else (some ((-1 : Int32), M3))))
set_option maxRecDepth 20000 in
set_option maxHeartbeats 2000000 in
theorem p_X11_sort_0 {X : zX} {E : zE} {x1 : Int32} {x2 : Int32} {r : Int32} {M' : zM} (C : zC X E cX11_sort 3 RX11 (some .int) 1) {M : zM} (h : f_X11_sort_0 x1 x2 M = some (r, M')) : zW X E (zRQ X E (some (.int r)) M') M 0 [(0, .ref (E.2.1 0)), (1, .int x1), (2, .int x2)] [] := by
  have h : (zbi (f_X7_hasSort M 3 x1) (fun r2 M3 => if r2 = 0 then (some ((-1 : Int32), M3)) else (if x2 = (0 : Int32) then (zbi (f_X7_bulkOf M3 3 x1) (fun r7 M8 => some (r7, M8))) else if x2 = (1 : Int32) then (zbi (f_X7_pushOf M3 3 x1) (fun r11 M12 => some (r11, M12))) else if x2 = (2 : Int32) then (zbi (f_X5_howManyOfSort M3 37 x1) (fun r15 M16 => some (r15, M16))) else (some ((-1 : Int32), M3))))) = some (r, M') := h
  refine zw_aload_n C 0 rfl dX11_sort_0 rfl ?_
  refine zw_get (v := .ref (E.2.1 3)) C (by decide) (zc_0 E) rfl zin_X11 1 (by decide) gw_2_2 rfl dX11_sort_1 ?_
  refine zw_iload_n C 1 rfl dX11_sort_4 rfl ?_
  obtain ⟨r2, M3, hq1, h⟩ := zbi_e h
  refine zw_callVi (As := [.int x1]) (st := []) C (m_X7_hasSort C.2.2.2.2.2.2.2.1 zpp_3 hq1) kv_X7_hasSort gw_2_107 (by decide) zpp_3.lt (zpp_3.c E) rfl rfl rfl rfl (Nat.le_of_ble_eq_true rfl) dX11_sort_5 ?_
  refine zw_if_ne (tgt := 13) C dX11_sort_8 (by decide) (fun hb4 => ?_) (fun hb4 => ?_)
  · have h := zt_ hb4 h
    refine zw_iconst (v := (-1 : Int32)) C dX11_sort_11 ct_i_m1 ?_
    exact zw_ireturnE C h dX11_sort_12
  · have h := zf_ hb4 h
    refine zw_iload_n C 2 rfl dX11_sort_13 rfl ?_
    by_cases hb5 : x2 = (0 : Int32)
    · have h := zt_ hb5 h
      refine zw_tabIn (v := (0 : Int32)) (tgt := 40) C hb5 dX11_sort_14 (by decide) (by decide) rfl (by decide) ?_
      refine zw_aload_n C 0 rfl dX11_sort_40 rfl ?_
      refine zw_get (v := .ref (E.2.1 3)) C (by decide) (zc_0 E) rfl zin_X11 1 (by decide) gw_2_2 rfl dX11_sort_41 ?_
      refine zw_iload_n C 1 rfl dX11_sort_44 rfl ?_
      obtain ⟨r7, M8, hq6, h⟩ := zbi_e h
      refine zw_callVi (As := [.int x1]) (st := []) C (m_X7_bulkOf C.2.2.2.2.2.2.2.1 zpp_3 hq6) kv_X7_bulkOf gw_2_111 (by decide) zpp_3.lt (zpp_3.c E) rfl rfl rfl rfl (Nat.le_of_ble_eq_true rfl) dX11_sort_45 ?_
      exact zw_ireturnE C h dX11_sort_48
    have h := zf_ hb5 h
    by_cases hb9 : x2 = (1 : Int32)
    · have h := zt_ hb9 h
      refine zw_tabIn (v := (1 : Int32)) (tgt := 49) C hb9 dX11_sort_14 (by decide) (by decide) rfl (by decide) ?_
      refine zw_aload_n C 0 rfl dX11_sort_49 rfl ?_
      refine zw_get (v := .ref (E.2.1 3)) C (by decide) (zc_0 E) rfl zin_X11 1 (by decide) gw_2_2 rfl dX11_sort_50 ?_
      refine zw_iload_n C 1 rfl dX11_sort_53 rfl ?_
      obtain ⟨r11, M12, hq10, h⟩ := zbi_e h
      refine zw_callVi (As := [.int x1]) (st := []) C (m_X7_pushOf C.2.2.2.2.2.2.2.1 zpp_3 hq10) kv_X7_pushOf gw_2_115 (by decide) zpp_3.lt (zpp_3.c E) rfl rfl rfl rfl (Nat.le_of_ble_eq_true rfl) dX11_sort_54 ?_
      exact zw_ireturnE C h dX11_sort_57
    have h := zf_ hb9 h
    by_cases hb13 : x2 = (2 : Int32)
    · have h := zt_ hb13 h
      refine zw_tabIn (v := (2 : Int32)) (tgt := 58) C hb13 dX11_sort_14 (by decide) (by decide) rfl (by decide) ?_
      refine zw_aload_n C 0 rfl dX11_sort_58 rfl ?_
      refine zw_get (v := .ref (E.2.1 37)) C (by decide) (zc_0 E) rfl zin_X11 3 (by decide) gw_2_4 rfl dX11_sort_59 ?_
      refine zw_iload_n C 1 rfl dX11_sort_62 rfl ?_
      obtain ⟨r15, M16, hq14, h⟩ := zbi_e h
      refine zw_callVi (As := [.int x1]) (st := []) C (m_X5_howManyOfSort C.2.2.2.2.2.2.2.1 zmp_37 hq14) kv_X5_howManyOfSort gw_2_119 (by decide) zmp_37.lt (zmp_37.c E) rfl rfl rfl rfl (Nat.le_of_ble_eq_true rfl) dX11_sort_63 ?_
      exact zw_ireturnE C h dX11_sort_66
    have h := zf_ hb13 h
    refine zw_tabOut (tgt := 67) C (by have e0 := lv_neT hb5 (show (0 : Int32).toInt = 0 by decide); have e1 := lv_neT hb9 (show (1 : Int32).toInt = 1 by decide); have e2 := lv_neT hb13 (show (2 : Int32).toInt = 2 by decide); omega) dX11_sort_14 (by decide) ?_
    refine zw_iconst (v := (-1 : Int32)) C dX11_sort_67 ct_i_m1 ?_
    exact zw_ireturnE C h dX11_sort_68
def f_X11_sort (M : zM) (x1 : Int32) (x2 : Int32) : Option (Int32 × zM) := f_X11_sort_0 x1 x2 M
theorem m_X11_sort {l : Launch} {E : zE} (hI : zI E) {M M' : zM} {x1 : Int32} {x2 : Int32} {r : Int32} (h : f_X11_sort M x1 x2 = some (r, M')) : zMet l E yX11_sort cX11_sort 3 (some .int) 1 [.ref (E.2.1 0), .int x1, .int x2] M M' (some (.int r)) := zm_of hI (by decide) (Nat.le_of_ble_eq_true rfl) (fun X _ C => p_X11_sort_0 C h)
theorem kv_X11_sort : zKV yX11_sort cX11_sort 3 (some .int) 2 := ⟨⟨gw_2_104, gw_2_105, gw_1_1, gw_2_106⟩, ⟨by decide, by decide, by decide +kernel⟩, by decide⟩
-- WingDoor.goer(II)I, 62 instructions, depth 6
def f_X11_goer_0 (x1 : Int32) (x2 : Int32) (M : zM) : Option (Int32 × zM) := zbi (f_X5_hasGoer M 37 x1) (fun r2 M3 => if r2 = 0 then (some ((-1 : Int32), M3)) else (if x2 = (0 : Int32) then (zg (zin x1 9) (some (M3.1 (37 + 1) x1.toNatClampNeg, M3))) else if x2 = (1 : Int32) then (zg (zin x1 9) (some (M3.1 (37 + 2) x1.toNatClampNeg, M3))) else if x2 = (2 : Int32) then (zg (zin x1 9) (some (M3.1 (37 + 3) x1.toNatClampNeg, M3))) else if x2 = (3 : Int32) then (zg (zin x1 9) (if (M3.1 (37 + 3) x1.toNatClampNeg) = (1 : Int32) then (zg (zin x1 9) (some (M3.1 (37 + 4) x1.toNatClampNeg, M3))) else (some ((-9 : Int32), M3)))) else if x2 = (4 : Int32) then (zg (zin x1 9) (if (M3.1 (37 + 3) x1.toNatClampNeg) = 0 then (zbi (f_X5_howManyAheadOf M3 37 x1) (fun r19 M20 => some (r19, M20))) else (some ((-9 : Int32), M3)))) else if x2 = (5 : Int32) then (zbi (f_X11_whenNow M3 x1) (fun r23 M24 => zbi (f_X11_orNone M24 r23) (fun r26 M27 => some (r26, M27)))) else (some ((-1 : Int32), M3))))
set_option maxRecDepth 20000 in
set_option maxHeartbeats 2000000 in
theorem p_X11_goer_0 {X : zX} {E : zE} {x1 : Int32} {x2 : Int32} {r : Int32} {M' : zM} (C : zC X E cX11_goer 3 RX11 (some .int) 6) {M : zM} (h : f_X11_goer_0 x1 x2 M = some (r, M')) : zW X E (zRQ X E (some (.int r)) M') M 0 [(0, .ref (E.2.1 0)), (1, .int x1), (2, .int x2)] [] := by
  have h : (zbi (f_X5_hasGoer M 37 x1) (fun r2 M3 => if r2 = 0 then (some ((-1 : Int32), M3)) else (if x2 = (0 : Int32) then (zg (zin x1 9) (some (M3.1 (37 + 1) x1.toNatClampNeg, M3))) else if x2 = (1 : Int32) then (zg (zin x1 9) (some (M3.1 (37 + 2) x1.toNatClampNeg, M3))) else if x2 = (2 : Int32) then (zg (zin x1 9) (some (M3.1 (37 + 3) x1.toNatClampNeg, M3))) else if x2 = (3 : Int32) then (zg (zin x1 9) (if (M3.1 (37 + 3) x1.toNatClampNeg) = (1 : Int32) then (zg (zin x1 9) (some (M3.1 (37 + 4) x1.toNatClampNeg, M3))) else (some ((-9 : Int32), M3)))) else if x2 = (4 : Int32) then (zg (zin x1 9) (if (M3.1 (37 + 3) x1.toNatClampNeg) = 0 then (zbi (f_X5_howManyAheadOf M3 37 x1) (fun r19 M20 => some (r19, M20))) else (some ((-9 : Int32), M3)))) else if x2 = (5 : Int32) then (zbi (f_X11_whenNow M3 x1) (fun r23 M24 => zbi (f_X11_orNone M24 r23) (fun r26 M27 => some (r26, M27)))) else (some ((-1 : Int32), M3))))) = some (r, M') := h
  refine zw_aload_n C 0 rfl dX11_goer_0 rfl ?_
  refine zw_get (v := .ref (E.2.1 37)) C (by decide) (zc_0 E) rfl zin_X11 3 (by decide) gw_2_4 rfl dX11_goer_1 ?_
  refine zw_iload_n C 1 rfl dX11_goer_4 rfl ?_
  obtain ⟨r2, M3, hq1, h⟩ := zbi_e h
  refine zw_callVi (As := [.int x1]) (st := []) C (m_X5_hasGoer C.2.2.2.2.2.2.2.1 zmp_37 hq1) kv_X5_hasGoer gw_2_127 (by decide) zmp_37.lt (zmp_37.c E) rfl rfl rfl rfl (Nat.le_of_ble_eq_true rfl) dX11_goer_5 ?_
  refine zw_if_ne (tgt := 13) C dX11_goer_8 (by decide) (fun hb4 => ?_) (fun hb4 => ?_)
  · have h := zt_ hb4 h
    refine zw_iconst (v := (-1 : Int32)) C dX11_goer_11 ct_i_m1 ?_
    exact zw_ireturnE C h dX11_goer_12
  · have h := zf_ hb4 h
    refine zw_iload_n C 2 rfl dX11_goer_13 rfl ?_
    by_cases hb5 : x2 = (0 : Int32)
    · have h := zt_ hb5 h
      refine zw_tabIn (v := (0 : Int32)) (tgt := 52) C hb5 dX11_goer_14 (by decide) (by decide) rfl (by decide) ?_
      refine zw_aload_n C 0 rfl dX11_goer_52 rfl ?_
      refine zw_get (v := .ref (E.2.1 37)) C (by decide) (zc_0 E) rfl zin_X11 3 (by decide) gw_2_4 rfl dX11_goer_53 ?_
      refine zw_getN (v := .ref (E.2.1 (37 + 1))) C zmp_37.lt (zmp_37.c E) rfl zin_X5 3 (by decide) (List.mem_of_getElem? (i := 15) rfl) rfl dX11_goer_56 ?_
      refine zw_iload_n C 1 rfl dX11_goer_59 rfl ?_
      obtain ⟨hi6, h⟩ := zg_e h
      refine zw_iald C (zmp_37.ia (j := 1) (by decide) (by decide)) (zin_e hi6) dX11_goer_60 ?_
      exact zw_ireturnE C h dX11_goer_61
    have h := zf_ hb5 h
    by_cases hb7 : x2 = (1 : Int32)
    · have h := zt_ hb7 h
      refine zw_tabIn (v := (1 : Int32)) (tgt := 62) C hb7 dX11_goer_14 (by decide) (by decide) rfl (by decide) ?_
      refine zw_aload_n C 0 rfl dX11_goer_62 rfl ?_
      refine zw_get (v := .ref (E.2.1 37)) C (by decide) (zc_0 E) rfl zin_X11 3 (by decide) gw_2_4 rfl dX11_goer_63 ?_
      refine zw_getN (v := .ref (E.2.1 (37 + 2))) C zmp_37.lt (zmp_37.c E) rfl zin_X5 4 (by decide) (List.mem_of_getElem? (i := 16) rfl) rfl dX11_goer_66 ?_
      refine zw_iload_n C 1 rfl dX11_goer_69 rfl ?_
      obtain ⟨hi8, h⟩ := zg_e h
      refine zw_iald C (zmp_37.ia (j := 2) (by decide) (by decide)) (zin_e hi8) dX11_goer_70 ?_
      exact zw_ireturnE C h dX11_goer_71
    have h := zf_ hb7 h
    by_cases hb9 : x2 = (2 : Int32)
    · have h := zt_ hb9 h
      refine zw_tabIn (v := (2 : Int32)) (tgt := 72) C hb9 dX11_goer_14 (by decide) (by decide) rfl (by decide) ?_
      refine zw_aload_n C 0 rfl dX11_goer_72 rfl ?_
      refine zw_get (v := .ref (E.2.1 37)) C (by decide) (zc_0 E) rfl zin_X11 3 (by decide) gw_2_4 rfl dX11_goer_73 ?_
      refine zw_getN (v := .ref (E.2.1 (37 + 3))) C zmp_37.lt (zmp_37.c E) rfl zin_X5 5 (by decide) (List.mem_of_getElem? (i := 17) rfl) rfl dX11_goer_76 ?_
      refine zw_iload_n C 1 rfl dX11_goer_79 rfl ?_
      obtain ⟨hi10, h⟩ := zg_e h
      refine zw_iald C (zmp_37.ia (j := 3) (by decide) (by decide)) (zin_e hi10) dX11_goer_80 ?_
      exact zw_ireturnE C h dX11_goer_81
    have h := zf_ hb9 h
    by_cases hb11 : x2 = (3 : Int32)
    · have h := zt_ hb11 h
      refine zw_tabIn (v := (3 : Int32)) (tgt := 82) C hb11 dX11_goer_14 (by decide) (by decide) rfl (by decide) ?_
      refine zw_aload_n C 0 rfl dX11_goer_82 rfl ?_
      refine zw_get (v := .ref (E.2.1 37)) C (by decide) (zc_0 E) rfl zin_X11 3 (by decide) gw_2_4 rfl dX11_goer_83 ?_
      refine zw_getN (v := .ref (E.2.1 (37 + 3))) C zmp_37.lt (zmp_37.c E) rfl zin_X5 5 (by decide) (List.mem_of_getElem? (i := 17) rfl) rfl dX11_goer_86 ?_
      refine zw_iload_n C 1 rfl dX11_goer_89 rfl ?_
      obtain ⟨hi12, h⟩ := zg_e h
      refine zw_iald C (zmp_37.ia (j := 3) (by decide) (by decide)) (zin_e hi12) dX11_goer_90 ?_
      refine zw_iconst (v := (1 : Int32)) C dX11_goer_91 ct_i_1 ?_
      refine zw_icmp_ne (tgt := 107) C dX11_goer_92 (by decide) (fun hb13 => ?_) (fun hb13 => ?_)
      · have h := zt_ hb13 h
        refine zw_aload_n C 0 rfl dX11_goer_95 rfl ?_
        refine zw_get (v := .ref (E.2.1 37)) C (by decide) (zc_0 E) rfl zin_X11 3 (by decide) gw_2_4 rfl dX11_goer_96 ?_
        refine zw_getN (v := .ref (E.2.1 (37 + 4))) C zmp_37.lt (zmp_37.c E) rfl zin_X5 6 (by decide) (List.mem_of_getElem? (i := 18) rfl) rfl dX11_goer_99 ?_
        refine zw_iload_n C 1 rfl dX11_goer_102 rfl ?_
        obtain ⟨hi14, h⟩ := zg_e h
        refine zw_iald C (zmp_37.ia (j := 4) (by decide) (by decide)) (zin_e hi14) dX11_goer_103 ?_
        refine zw_goto (tgt := 109) C dX11_goer_104 (by decide) ?_
        exact zw_ireturnE C h dX11_goer_109
      · have h := zf_ hb13 h
        refine zw_bipush (v := (-9 : Int32)) C dX11_goer_107 ct_b_m9 ?_
        exact zw_ireturnE C h dX11_goer_109
    have h := zf_ hb11 h
    by_cases hb15 : x2 = (4 : Int32)
    · have h := zt_ hb15 h
      refine zw_tabIn (v := (4 : Int32)) (tgt := 110) C hb15 dX11_goer_14 (by decide) (by decide) rfl (by decide) ?_
      refine zw_aload_n C 0 rfl dX11_goer_110 rfl ?_
      refine zw_get (v := .ref (E.2.1 37)) C (by decide) (zc_0 E) rfl zin_X11 3 (by decide) gw_2_4 rfl dX11_goer_111 ?_
      refine zw_getN (v := .ref (E.2.1 (37 + 3))) C zmp_37.lt (zmp_37.c E) rfl zin_X5 5 (by decide) (List.mem_of_getElem? (i := 17) rfl) rfl dX11_goer_114 ?_
      refine zw_iload_n C 1 rfl dX11_goer_117 rfl ?_
      obtain ⟨hi16, h⟩ := zg_e h
      refine zw_iald C (zmp_37.ia (j := 3) (by decide) (by decide)) (zin_e hi16) dX11_goer_118 ?_
      refine zw_if_ne (tgt := 133) C dX11_goer_119 (by decide) (fun hb17 => ?_) (fun hb17 => ?_)
      · have h := zt_ hb17 h
        refine zw_aload_n C 0 rfl dX11_goer_122 rfl ?_
        refine zw_get (v := .ref (E.2.1 37)) C (by decide) (zc_0 E) rfl zin_X11 3 (by decide) gw_2_4 rfl dX11_goer_123 ?_
        refine zw_iload_n C 1 rfl dX11_goer_126 rfl ?_
        obtain ⟨r19, M20, hq18, h⟩ := zbi_e h
        refine zw_callVi (As := [.int x1]) (st := []) C (m_X5_howManyAheadOf C.2.2.2.2.2.2.2.1 zmp_37 hq18) kv_X5_howManyAheadOf gw_2_131 (by decide) zmp_37.lt (zmp_37.c E) rfl rfl rfl rfl (Nat.le_of_ble_eq_true rfl) dX11_goer_127 ?_
        refine zw_goto (tgt := 135) C dX11_goer_130 (by decide) ?_
        exact zw_ireturnE C h dX11_goer_135
      · have h := zf_ hb17 h
        refine zw_bipush (v := (-9 : Int32)) C dX11_goer_133 ct_b_m9 ?_
        exact zw_ireturnE C h dX11_goer_135
    have h := zf_ hb15 h
    by_cases hb21 : x2 = (5 : Int32)
    · have h := zt_ hb21 h
      refine zw_tabIn (v := (5 : Int32)) (tgt := 136) C hb21 dX11_goer_14 (by decide) (by decide) rfl (by decide) ?_
      refine zw_aload_n C 0 rfl dX11_goer_136 rfl ?_
      refine zw_iload_n C 1 rfl dX11_goer_137 rfl ?_
      obtain ⟨r23, M24, hq22, h⟩ := zbi_e h
      refine zw_callVi (As := [.int x1]) (st := []) C (m_X11_whenNow C.2.2.2.2.2.2.2.1 hq22) kv_X11_whenNow gw_2_136 (by decide) (by decide) (zc_0 E) rfl rfl rfl rfl (Nat.le_of_ble_eq_true rfl) dX11_goer_138 ?_
      obtain ⟨r26, M27, hq25, h⟩ := zbi_e h
      refine zw_callSi (As := [.int r23]) (st := []) C (m_X11_orNone C.2.2.2.2.2.2.2.1 hq25) ks_X11_orNone gw_2_201 (by decide) rfl rfl (Nat.le_of_ble_eq_true rfl) dX11_goer_141 ?_
      exact zw_ireturnE C h dX11_goer_144
    have h := zf_ hb21 h
    refine zw_tabOut (tgt := 145) C (by have e0 := lv_neT hb5 (show (0 : Int32).toInt = 0 by decide); have e1 := lv_neT hb7 (show (1 : Int32).toInt = 1 by decide); have e2 := lv_neT hb9 (show (2 : Int32).toInt = 2 by decide); have e3 := lv_neT hb11 (show (3 : Int32).toInt = 3 by decide); have e4 := lv_neT hb15 (show (4 : Int32).toInt = 4 by decide); have e5 := lv_neT hb21 (show (5 : Int32).toInt = 5 by decide); omega) dX11_goer_14 (by decide) ?_
    refine zw_iconst (v := (-1 : Int32)) C dX11_goer_145 ct_i_m1 ?_
    exact zw_ireturnE C h dX11_goer_146
def f_X11_goer (M : zM) (x1 : Int32) (x2 : Int32) : Option (Int32 × zM) := f_X11_goer_0 x1 x2 M
theorem m_X11_goer {l : Launch} {E : zE} (hI : zI E) {M M' : zM} {x1 : Int32} {x2 : Int32} {r : Int32} (h : f_X11_goer M x1 x2 = some (r, M')) : zMet l E yX11_goer cX11_goer 3 (some .int) 6 [.ref (E.2.1 0), .int x1, .int x2] M M' (some (.int r)) := zm_of hI (by decide) (Nat.le_of_ble_eq_true rfl) (fun X _ C => p_X11_goer_0 C h)
theorem kv_X11_goer : zKV yX11_goer cX11_goer 3 (some .int) 2 := ⟨⟨gw_2_124, gw_2_125, gw_1_1, gw_2_126⟩, ⟨by decide, by decide, by decide +kernel⟩, by decide⟩
-- WingDoor.room(II)I, 23 instructions, depth 2
def f_X11_room_0 (x1 : Int32) (x2 : Int32) (M : zM) : Option (Int32 × zM) := if x1 < 0 then (some ((-1 : Int32), M)) else (if x1 < (M.1 3 0) then (if x2 = (0 : Int32) then (zbi (f_X5_whoIsInRoomAt M 37 x1) (fun r5 M6 => some (r5, M6))) else if x2 = (1 : Int32) then (zbi (f_X5_bulkInRoomAt M 37 x1) (fun r9 M10 => some (r9, M10))) else (some ((-1 : Int32), M))) else (some ((-1 : Int32), M)))
set_option maxRecDepth 20000 in
set_option maxHeartbeats 2000000 in
theorem p_X11_room_0 {X : zX} {E : zE} {x1 : Int32} {x2 : Int32} {r : Int32} {M' : zM} (C : zC X E cX11_room 3 RX11 (some .int) 2) {M : zM} (h : f_X11_room_0 x1 x2 M = some (r, M')) : zW X E (zRQ X E (some (.int r)) M') M 0 [(0, .ref (E.2.1 0)), (1, .int x1), (2, .int x2)] [] := by
  have h : (if x1 < 0 then (some ((-1 : Int32), M)) else (if x1 < (M.1 3 0) then (if x2 = (0 : Int32) then (zbi (f_X5_whoIsInRoomAt M 37 x1) (fun r5 M6 => some (r5, M6))) else if x2 = (1 : Int32) then (zbi (f_X5_bulkInRoomAt M 37 x1) (fun r9 M10 => some (r9, M10))) else (some ((-1 : Int32), M))) else (some ((-1 : Int32), M)))) = some (r, M') := h
  refine zw_iload_n C 1 rfl dX11_room_0 rfl ?_
  refine zw_if_lt (tgt := 15) C dX11_room_1 (by decide) (fun hb1 => ?_) (fun hb1 => ?_)
  · have h := zt_ hb1 h
    refine zw_iconst (v := (-1 : Int32)) C dX11_room_15 ct_i_m1 ?_
    exact zw_ireturnE C h dX11_room_16
  · have h := zf_ hb1 h
    refine zw_iload_n C 1 rfl dX11_room_4 rfl ?_
    refine zw_aload_n C 0 rfl dX11_room_5 rfl ?_
    refine zw_get (v := .ref (E.2.1 3)) C (by decide) (zc_0 E) rfl zin_X11 1 (by decide) gw_2_2 rfl dX11_room_6 ?_
    refine zw_getN (v := .int (M.1 3 0)) C zpp_3.lt (zpp_3.c E) rfl zin_X7 0 (by decide) (List.mem_of_getElem? (i := 2) rfl) rfl dX11_room_9 ?_
    refine zw_icmp_lt (tgt := 17) C dX11_room_12 (by decide) (fun hb2 => ?_) (fun hb2 => ?_)
    · have h := zt_ hb2 h
      refine zw_iload_n C 2 rfl dX11_room_17 rfl ?_
      by_cases hb3 : x2 = (0 : Int32)
      · have h := zt_ hb3 h
        refine zw_look (off := 26) (tgt := 44) C dX11_room_18 (by decide) (by rw [hb3] <;> rfl) (by decide) ?_
        refine zw_aload_n C 0 rfl dX11_room_44 rfl ?_
        refine zw_get (v := .ref (E.2.1 37)) C (by decide) (zc_0 E) rfl zin_X11 3 (by decide) gw_2_4 rfl dX11_room_45 ?_
        refine zw_iload_n C 1 rfl dX11_room_48 rfl ?_
        obtain ⟨r5, M6, hq4, h⟩ := zbi_e h
        refine zw_callVi (As := [.int x1]) (st := []) C (m_X5_whoIsInRoomAt C.2.2.2.2.2.2.2.1 zmp_37 hq4) kv_X5_whoIsInRoomAt gw_2_208 (by decide) zmp_37.lt (zmp_37.c E) rfl rfl rfl rfl (Nat.le_of_ble_eq_true rfl) dX11_room_49 ?_
        exact zw_ireturnE C h dX11_room_52
      have h := zf_ hb3 h
      by_cases hb7 : x2 = (1 : Int32)
      · have h := zt_ hb7 h
        refine zw_look (off := 35) (tgt := 53) C dX11_room_18 (by decide) (by rw [hb7] <;> rfl) (by decide) ?_
        refine zw_aload_n C 0 rfl dX11_room_53 rfl ?_
        refine zw_get (v := .ref (E.2.1 37)) C (by decide) (zc_0 E) rfl zin_X11 3 (by decide) gw_2_4 rfl dX11_room_54 ?_
        refine zw_iload_n C 1 rfl dX11_room_57 rfl ?_
        obtain ⟨r9, M10, hq8, h⟩ := zbi_e h
        refine zw_callVi (As := [.int x1]) (st := []) C (m_X5_bulkInRoomAt C.2.2.2.2.2.2.2.1 zmp_37 hq8) kv_X5_bulkInRoomAt gw_2_212 (by decide) zmp_37.lt (zmp_37.c E) rfl rfl rfl rfl (Nat.le_of_ble_eq_true rfl) dX11_room_58 ?_
        exact zw_ireturnE C h dX11_room_61
      have h := zf_ hb7 h
      refine zw_look (off := 44) (tgt := 62) C dX11_room_18 (by decide) (by refine (lv_osw hb3 (show (0 : Int32).toInt = 0 by decide)).trans ?_; refine (lv_osw hb7 (show (1 : Int32).toInt = 1 by decide)).trans ?_; rfl) (by decide) ?_
      refine zw_iconst (v := (-1 : Int32)) C dX11_room_62 ct_i_m1 ?_
      exact zw_ireturnE C h dX11_room_63
    · have h := zf_ hb2 h
      refine zw_iconst (v := (-1 : Int32)) C dX11_room_15 ct_i_m1 ?_
      exact zw_ireturnE C h dX11_room_16
def f_X11_room (M : zM) (x1 : Int32) (x2 : Int32) : Option (Int32 × zM) := f_X11_room_0 x1 x2 M
theorem m_X11_room {l : Launch} {E : zE} (hI : zI E) {M M' : zM} {x1 : Int32} {x2 : Int32} {r : Int32} (h : f_X11_room M x1 x2 = some (r, M')) : zMet l E yX11_room cX11_room 3 (some .int) 2 [.ref (E.2.1 0), .int x1, .int x2] M M' (some (.int r)) := zm_of hI (by decide) (Nat.le_of_ble_eq_true rfl) (fun X _ C => p_X11_room_0 C h)
theorem kv_X11_room : zKV yX11_room cX11_room 3 (some .int) 2 := ⟨⟨gw_2_205, gw_2_206, gw_1_1, gw_2_207⟩, ⟨by decide, by decide, by decide +kernel⟩, by decide⟩
-- WingDoor.now(I)I, 38 instructions, depth 6
def f_X11_now_0 (x1 : Int32) (M : zM) : Option (Int32 × zM) := if x1 = (0 : Int32) then (some (M.1 37 1, M)) else if x1 = (1 : Int32) then (zbi (f_X5_load M 37) (fun r4 M5 => some (r4, M5))) else if x1 = (2 : Int32) then (zbi (f_X5_drag M 37) (fun r8 M9 => some (r8, M9))) else if x1 = (3 : Int32) then (zbi (f_X5_whoIs M 37 (0 : Int32)) (fun r12 M13 => some (r12, M13))) else if x1 = (4 : Int32) then (zbi (f_X5_whoIs M 37 (2 : Int32)) (fun r16 M17 => some (r16, M17))) else if x1 = (5 : Int32) then (zbi (f_X11_sticksNow M) (fun r20 M21 => zbi (f_X11_orNone M21 r20) (fun r23 M24 => some (r23, M24)))) else if x1 = (6 : Int32) then (zbi (f_X11_allNow M) (fun r27 M28 => zbi (f_X11_orNone M28 r27) (fun r30 M31 => some (r30, M31)))) else if x1 = (7 : Int32) then (some (M.1 9 2, M)) else (some ((-1 : Int32), M))
set_option maxRecDepth 20000 in
set_option maxHeartbeats 2000000 in
theorem p_X11_now_0 {X : zX} {E : zE} {x1 : Int32} {r : Int32} {M' : zM} (C : zC X E cX11_now 2 RX11 (some .int) 6) {M : zM} (h : f_X11_now_0 x1 M = some (r, M')) : zW X E (zRQ X E (some (.int r)) M') M 0 [(0, .ref (E.2.1 0)), (1, .int x1)] [] := by
  have h : (if x1 = (0 : Int32) then (some (M.1 37 1, M)) else if x1 = (1 : Int32) then (zbi (f_X5_load M 37) (fun r4 M5 => some (r4, M5))) else if x1 = (2 : Int32) then (zbi (f_X5_drag M 37) (fun r8 M9 => some (r8, M9))) else if x1 = (3 : Int32) then (zbi (f_X5_whoIs M 37 (0 : Int32)) (fun r12 M13 => some (r12, M13))) else if x1 = (4 : Int32) then (zbi (f_X5_whoIs M 37 (2 : Int32)) (fun r16 M17 => some (r16, M17))) else if x1 = (5 : Int32) then (zbi (f_X11_sticksNow M) (fun r20 M21 => zbi (f_X11_orNone M21 r20) (fun r23 M24 => some (r23, M24)))) else if x1 = (6 : Int32) then (zbi (f_X11_allNow M) (fun r27 M28 => zbi (f_X11_orNone M28 r27) (fun r30 M31 => some (r30, M31)))) else if x1 = (7 : Int32) then (some (M.1 9 2, M)) else (some ((-1 : Int32), M))) = some (r, M') := h
  refine zw_iload_n C 1 rfl dX11_now_0 rfl ?_
  by_cases hb1 : x1 = (0 : Int32)
  · have h := zt_ hb1 h
    refine zw_tabIn (v := (0 : Int32)) (tgt := 48) C hb1 dX11_now_1 (by decide) (by decide) rfl (by decide) ?_
    refine zw_aload_n C 0 rfl dX11_now_48 rfl ?_
    refine zw_get (v := .ref (E.2.1 37)) C (by decide) (zc_0 E) rfl zin_X11 3 (by decide) gw_2_4 rfl dX11_now_49 ?_
    refine zw_getN (v := .int (M.1 37 1)) C zmp_37.lt (zmp_37.c E) rfl zin_X5 1 (by decide) (List.mem_of_getElem? (i := 13) rfl) rfl dX11_now_52 ?_
    exact zw_ireturnE C h dX11_now_55
  have h := zf_ hb1 h
  by_cases hb2 : x1 = (1 : Int32)
  · have h := zt_ hb2 h
    refine zw_tabIn (v := (1 : Int32)) (tgt := 56) C hb2 dX11_now_1 (by decide) (by decide) rfl (by decide) ?_
    refine zw_aload_n C 0 rfl dX11_now_56 rfl ?_
    refine zw_get (v := .ref (E.2.1 37)) C (by decide) (zc_0 E) rfl zin_X11 3 (by decide) gw_2_4 rfl dX11_now_57 ?_
    obtain ⟨r4, M5, hq3, h⟩ := zbi_e h
    refine zw_callVi (As := []) (st := []) C (m_X5_load C.2.2.2.2.2.2.2.1 zmp_37 hq3) kv_X5_load gw_2_217 (by decide) zmp_37.lt (zmp_37.c E) rfl rfl rfl rfl (Nat.le_of_ble_eq_true rfl) dX11_now_60 ?_
    exact zw_ireturnE C h dX11_now_63
  have h := zf_ hb2 h
  by_cases hb6 : x1 = (2 : Int32)
  · have h := zt_ hb6 h
    refine zw_tabIn (v := (2 : Int32)) (tgt := 64) C hb6 dX11_now_1 (by decide) (by decide) rfl (by decide) ?_
    refine zw_aload_n C 0 rfl dX11_now_64 rfl ?_
    refine zw_get (v := .ref (E.2.1 37)) C (by decide) (zc_0 E) rfl zin_X11 3 (by decide) gw_2_4 rfl dX11_now_65 ?_
    obtain ⟨r8, M9, hq7, h⟩ := zbi_e h
    refine zw_callVi (As := []) (st := []) C (m_X5_drag C.2.2.2.2.2.2.2.1 zmp_37 hq7) kv_X5_drag gw_2_218 (by decide) zmp_37.lt (zmp_37.c E) rfl rfl rfl rfl (Nat.le_of_ble_eq_true rfl) dX11_now_68 ?_
    exact zw_ireturnE C h dX11_now_71
  have h := zf_ hb6 h
  by_cases hb10 : x1 = (3 : Int32)
  · have h := zt_ hb10 h
    refine zw_tabIn (v := (3 : Int32)) (tgt := 72) C hb10 dX11_now_1 (by decide) (by decide) rfl (by decide) ?_
    refine zw_aload_n C 0 rfl dX11_now_72 rfl ?_
    refine zw_get (v := .ref (E.2.1 37)) C (by decide) (zc_0 E) rfl zin_X11 3 (by decide) gw_2_4 rfl dX11_now_73 ?_
    refine zw_iconst (v := (0 : Int32)) C dX11_now_76 ct_i_0 ?_
    obtain ⟨r12, M13, hq11, h⟩ := zbi_e h
    refine zw_callVi (As := [.int (0 : Int32)]) (st := []) C (m_X5_whoIs C.2.2.2.2.2.2.2.1 zmp_37 hq11) kv_X5_whoIs gw_2_219 (by decide) zmp_37.lt (zmp_37.c E) rfl rfl rfl rfl (Nat.le_of_ble_eq_true rfl) dX11_now_77 ?_
    exact zw_ireturnE C h dX11_now_80
  have h := zf_ hb10 h
  by_cases hb14 : x1 = (4 : Int32)
  · have h := zt_ hb14 h
    refine zw_tabIn (v := (4 : Int32)) (tgt := 81) C hb14 dX11_now_1 (by decide) (by decide) rfl (by decide) ?_
    refine zw_aload_n C 0 rfl dX11_now_81 rfl ?_
    refine zw_get (v := .ref (E.2.1 37)) C (by decide) (zc_0 E) rfl zin_X11 3 (by decide) gw_2_4 rfl dX11_now_82 ?_
    refine zw_iconst (v := (2 : Int32)) C dX11_now_85 ct_i_2 ?_
    obtain ⟨r16, M17, hq15, h⟩ := zbi_e h
    refine zw_callVi (As := [.int (2 : Int32)]) (st := []) C (m_X5_whoIs C.2.2.2.2.2.2.2.1 zmp_37 hq15) kv_X5_whoIs gw_2_219 (by decide) zmp_37.lt (zmp_37.c E) rfl rfl rfl rfl (Nat.le_of_ble_eq_true rfl) dX11_now_86 ?_
    exact zw_ireturnE C h dX11_now_89
  have h := zf_ hb14 h
  by_cases hb18 : x1 = (5 : Int32)
  · have h := zt_ hb18 h
    refine zw_tabIn (v := (5 : Int32)) (tgt := 90) C hb18 dX11_now_1 (by decide) (by decide) rfl (by decide) ?_
    refine zw_aload_n C 0 rfl dX11_now_90 rfl ?_
    obtain ⟨r20, M21, hq19, h⟩ := zbi_e h
    refine zw_callVi (As := []) (st := []) C (m_X11_sticksNow C.2.2.2.2.2.2.2.1 hq19) kv_X11_sticksNow gw_2_220 (by decide) (by decide) (zc_0 E) rfl rfl rfl rfl (Nat.le_of_ble_eq_true rfl) dX11_now_91 ?_
    obtain ⟨r23, M24, hq22, h⟩ := zbi_e h
    refine zw_callSi (As := [.int r20]) (st := []) C (m_X11_orNone C.2.2.2.2.2.2.2.1 hq22) ks_X11_orNone gw_2_201 (by decide) rfl rfl (Nat.le_of_ble_eq_true rfl) dX11_now_94 ?_
    exact zw_ireturnE C h dX11_now_97
  have h := zf_ hb18 h
  by_cases hb25 : x1 = (6 : Int32)
  · have h := zt_ hb25 h
    refine zw_tabIn (v := (6 : Int32)) (tgt := 98) C hb25 dX11_now_1 (by decide) (by decide) rfl (by decide) ?_
    refine zw_aload_n C 0 rfl dX11_now_98 rfl ?_
    obtain ⟨r27, M28, hq26, h⟩ := zbi_e h
    refine zw_callVi (As := []) (st := []) C (m_X11_allNow C.2.2.2.2.2.2.2.1 hq26) kv_X11_allNow gw_2_228 (by decide) (by decide) (zc_0 E) rfl rfl rfl rfl (Nat.le_of_ble_eq_true rfl) dX11_now_99 ?_
    obtain ⟨r30, M31, hq29, h⟩ := zbi_e h
    refine zw_callSi (As := [.int r27]) (st := []) C (m_X11_orNone C.2.2.2.2.2.2.2.1 hq29) ks_X11_orNone gw_2_201 (by decide) rfl rfl (Nat.le_of_ble_eq_true rfl) dX11_now_102 ?_
    exact zw_ireturnE C h dX11_now_105
  have h := zf_ hb25 h
  by_cases hb32 : x1 = (7 : Int32)
  · have h := zt_ hb32 h
    refine zw_tabIn (v := (7 : Int32)) (tgt := 106) C hb32 dX11_now_1 (by decide) (by decide) rfl (by decide) ?_
    refine zw_aload_n C 0 rfl dX11_now_106 rfl ?_
    refine zw_get (v := .ref (E.2.1 9)) C (by decide) (zc_0 E) rfl zin_X11 5 (by decide) gw_2_6 rfl dX11_now_107 ?_
    refine zw_getN (v := .int (M.1 9 2)) C (by decide) (zc_9 E) rfl zin_X6 2 (by decide) (List.mem_of_getElem? (i := 19) rfl) rfl dX11_now_110 ?_
    exact zw_ireturnE C h dX11_now_113
  have h := zf_ hb32 h
  refine zw_tabOut (tgt := 114) C (by have e0 := lv_neT hb1 (show (0 : Int32).toInt = 0 by decide); have e1 := lv_neT hb2 (show (1 : Int32).toInt = 1 by decide); have e2 := lv_neT hb6 (show (2 : Int32).toInt = 2 by decide); have e3 := lv_neT hb10 (show (3 : Int32).toInt = 3 by decide); have e4 := lv_neT hb14 (show (4 : Int32).toInt = 4 by decide); have e5 := lv_neT hb18 (show (5 : Int32).toInt = 5 by decide); have e6 := lv_neT hb25 (show (6 : Int32).toInt = 6 by decide); have e7 := lv_neT hb32 (show (7 : Int32).toInt = 7 by decide); omega) dX11_now_1 (by decide) ?_
  refine zw_iconst (v := (-1 : Int32)) C dX11_now_114 ct_i_m1 ?_
  exact zw_ireturnE C h dX11_now_115
def f_X11_now (M : zM) (x1 : Int32) : Option (Int32 × zM) := f_X11_now_0 x1 M
theorem m_X11_now {l : Launch} {E : zE} (hI : zI E) {M M' : zM} {x1 : Int32} {r : Int32} (h : f_X11_now M x1 = some (r, M')) : zMet l E yX11_now cX11_now 2 (some .int) 6 [.ref (E.2.1 0), .int x1] M M' (some (.int r)) := zm_of hI (by decide) (Nat.le_of_ble_eq_true rfl) (fun X _ C => p_X11_now_0 C h)
theorem kv_X11_now : zKV yX11_now cX11_now 2 (some .int) 1 := ⟨⟨gw_2_214, gw_2_215, gw_1_1, gw_2_216⟩, ⟨by decide, by decide, by decide +kernel⟩, by decide⟩
-- WingDoor.comes(II)I, 30 instructions, depth 4
def f_X11_comes_0 (x1 : Int32) (x2 : Int32) (M : zM) : Option (Int32 × zM) := zbi (f_X7_hasSort M 3 x1) (fun r2 M3 => if r2 = 0 then (some ((-1 : Int32), M3)) else (if x2 < 0 then (some ((-1 : Int32), M3)) else (if x2 ≤ (1 : Int32) then (if (M3.1 37 2) < (9 : Int32) then (zbv (f_X6_remember M3 37) (fun M10 => zbi (f_X5_letCome M10 37 x1 x2) (fun r12 M13 => some (r12, M13)))) else (some ((-3 : Int32), M3))) else (some ((-1 : Int32), M3)))))
set_option maxRecDepth 20000 in
set_option maxHeartbeats 2000000 in
theorem p_X11_comes_0 {X : zX} {E : zE} {x1 : Int32} {x2 : Int32} {r : Int32} {M' : zM} (C : zC X E cX11_comes 3 RX11 (some .int) 4) {M : zM} (h : f_X11_comes_0 x1 x2 M = some (r, M')) : zW X E (zRQ X E (some (.int r)) M') M 0 [(0, .ref (E.2.1 0)), (1, .int x1), (2, .int x2)] [] := by
  have h : (zbi (f_X7_hasSort M 3 x1) (fun r2 M3 => if r2 = 0 then (some ((-1 : Int32), M3)) else (if x2 < 0 then (some ((-1 : Int32), M3)) else (if x2 ≤ (1 : Int32) then (if (M3.1 37 2) < (9 : Int32) then (zbv (f_X6_remember M3 37) (fun M10 => zbi (f_X5_letCome M10 37 x1 x2) (fun r12 M13 => some (r12, M13)))) else (some ((-3 : Int32), M3))) else (some ((-1 : Int32), M3)))))) = some (r, M') := h
  refine zw_aload_n C 0 rfl dX11_comes_0 rfl ?_
  refine zw_get (v := .ref (E.2.1 3)) C (by decide) (zc_0 E) rfl zin_X11 1 (by decide) gw_2_2 rfl dX11_comes_1 ?_
  refine zw_iload_n C 1 rfl dX11_comes_4 rfl ?_
  obtain ⟨r2, M3, hq1, h⟩ := zbi_e h
  refine zw_callVi (As := [.int x1]) (st := []) C (m_X7_hasSort C.2.2.2.2.2.2.2.1 zpp_3 hq1) kv_X7_hasSort gw_2_107 (by decide) zpp_3.lt (zpp_3.c E) rfl rfl rfl rfl (Nat.le_of_ble_eq_true rfl) dX11_comes_5 ?_
  refine zw_if_eq (tgt := 20) C dX11_comes_8 (by decide) (fun hb4 => ?_) (fun hb4 => ?_)
  · have h := zt_ hb4 h
    refine zw_iconst (v := (-1 : Int32)) C dX11_comes_20 ct_i_m1 ?_
    exact zw_ireturnE C h dX11_comes_21
  · have h := zf_ hb4 h
    refine zw_iload_n C 2 rfl dX11_comes_11 rfl ?_
    refine zw_if_lt (tgt := 20) C dX11_comes_12 (by decide) (fun hb5 => ?_) (fun hb5 => ?_)
    · have h := zt_ hb5 h
      refine zw_iconst (v := (-1 : Int32)) C dX11_comes_20 ct_i_m1 ?_
      exact zw_ireturnE C h dX11_comes_21
    · have h := zf_ hb5 h
      refine zw_iload_n C 2 rfl dX11_comes_15 rfl ?_
      refine zw_iconst (v := (1 : Int32)) C dX11_comes_16 ct_i_1 ?_
      refine zw_icmp_le (tgt := 22) C dX11_comes_17 (by decide) (fun hb6 => ?_) (fun hb6 => ?_)
      · have h := zt_ hb6 h
        refine zw_aload_n C 0 rfl dX11_comes_22 rfl ?_
        refine zw_get (v := .ref (E.2.1 37)) C (by decide) (zc_0 E) rfl zin_X11 3 (by decide) gw_2_4 rfl dX11_comes_23 ?_
        refine zw_getN (v := .int (M3.1 37 2)) C zmp_37.lt (zmp_37.c E) rfl zin_X5 2 (by decide) (List.mem_of_getElem? (i := 14) rfl) rfl dX11_comes_26 ?_
        refine zw_bipush (v := (9 : Int32)) C dX11_comes_29 ct_b_9 ?_
        refine zw_icmp_lt (tgt := 37) C dX11_comes_31 (by decide) (fun hb7 => ?_) (fun hb7 => ?_)
        · have h := zt_ hb7 h
          refine zw_aload_n C 0 rfl dX11_comes_37 rfl ?_
          refine zw_get (v := .ref (E.2.1 9)) C (by decide) (zc_0 E) rfl zin_X11 5 (by decide) gw_2_6 rfl dX11_comes_38 ?_
          refine zw_aload_n C 0 rfl dX11_comes_41 rfl ?_
          refine zw_get (v := .ref (E.2.1 37)) C (by decide) (zc_0 E) rfl zin_X11 3 (by decide) gw_2_4 rfl dX11_comes_42 ?_
          obtain ⟨M10, hq8, h⟩ := zbv_e h
          refine zw_callVv (As := [.ref (E.2.1 37)]) (st := []) C (m_X6_remember C.2.2.2.2.2.2.2.1 zmp_37 hq8) kv_X6_remember gw_3_0 (by decide) (by decide) (zc_9 E) rfl rfl rfl rfl (Nat.le_of_ble_eq_true rfl) dX11_comes_45 ?_
          refine zw_aload_n C 0 rfl dX11_comes_48 rfl ?_
          refine zw_get (v := .ref (E.2.1 37)) C (by decide) (zc_0 E) rfl zin_X11 3 (by decide) gw_2_4 rfl dX11_comes_49 ?_
          refine zw_iload_n C 1 rfl dX11_comes_52 rfl ?_
          refine zw_iload_n C 2 rfl dX11_comes_53 rfl ?_
          obtain ⟨r12, M13, hq11, h⟩ := zbi_e h
          refine zw_callVi (As := [.int x1, .int x2]) (st := []) C (m_X5_letCome C.2.2.2.2.2.2.2.1 zmp_37 hq11) kv_X5_letCome gw_3_5 (by decide) zmp_37.lt (zmp_37.c E) rfl rfl rfl rfl (Nat.le_of_ble_eq_true rfl) dX11_comes_54 ?_
          exact zw_ireturnE C h dX11_comes_57
        · have h := zf_ hb7 h
          refine zw_bipush (v := (-3 : Int32)) C dX11_comes_34 ct_b_m3 ?_
          exact zw_ireturnE C h dX11_comes_36
      · have h := zf_ hb6 h
        refine zw_iconst (v := (-1 : Int32)) C dX11_comes_20 ct_i_m1 ?_
        exact zw_ireturnE C h dX11_comes_21
def f_X11_comes (M : zM) (x1 : Int32) (x2 : Int32) : Option (Int32 × zM) := f_X11_comes_0 x1 x2 M
theorem m_X11_comes {l : Launch} {E : zE} (hI : zI E) {M M' : zM} {x1 : Int32} {x2 : Int32} {r : Int32} (h : f_X11_comes M x1 x2 = some (r, M')) : zMet l E yX11_comes cX11_comes 3 (some .int) 4 [.ref (E.2.1 0), .int x1, .int x2] M M' (some (.int r)) := zm_of hI (by decide) (Nat.le_of_ble_eq_true rfl) (fun X _ C => p_X11_comes_0 C h)
theorem kv_X11_comes : zKV yX11_comes cX11_comes 3 (some .int) 2 := ⟨⟨gw_2_237, gw_2_238, gw_1_1, gw_2_239⟩, ⟨by decide, by decide, by decide +kernel⟩, by decide⟩
-- WingDoor.steps()I, 16 instructions, depth 4
def f_X11_steps_0 (M : zM) : Option (Int32 × zM) := if (M.1 37 1) < (999 : Int32) then (zbv (f_X6_remember M 37) (fun M4 => zbi (f_X5_turn M4 37) (fun r6 M7 => some (r6, M7)))) else (some ((-2 : Int32), M))
set_option maxRecDepth 20000 in
set_option maxHeartbeats 2000000 in
theorem p_X11_steps_0 {X : zX} {E : zE} {r : Int32} {M' : zM} (C : zC X E cX11_steps 1 RX11 (some .int) 4) {M : zM} (h : f_X11_steps_0  M = some (r, M')) : zW X E (zRQ X E (some (.int r)) M') M 0 [(0, .ref (E.2.1 0))] [] := by
  have h : (if (M.1 37 1) < (999 : Int32) then (zbv (f_X6_remember M 37) (fun M4 => zbi (f_X5_turn M4 37) (fun r6 M7 => some (r6, M7)))) else (some ((-2 : Int32), M))) = some (r, M') := h
  refine zw_aload_n C 0 rfl dX11_steps_0 rfl ?_
  refine zw_get (v := .ref (E.2.1 37)) C (by decide) (zc_0 E) rfl zin_X11 3 (by decide) gw_2_4 rfl dX11_steps_1 ?_
  refine zw_getN (v := .int (M.1 37 1)) C zmp_37.lt (zmp_37.c E) rfl zin_X5 1 (by decide) (List.mem_of_getElem? (i := 13) rfl) rfl dX11_steps_4 ?_
  refine zw_sipush (v := (999 : Int32)) C dX11_steps_7 ct_s_999 ?_
  refine zw_icmp_lt (tgt := 16) C dX11_steps_10 (by decide) (fun hb1 => ?_) (fun hb1 => ?_)
  · have h := zt_ hb1 h
    refine zw_aload_n C 0 rfl dX11_steps_16 rfl ?_
    refine zw_get (v := .ref (E.2.1 9)) C (by decide) (zc_0 E) rfl zin_X11 5 (by decide) gw_2_6 rfl dX11_steps_17 ?_
    refine zw_aload_n C 0 rfl dX11_steps_20 rfl ?_
    refine zw_get (v := .ref (E.2.1 37)) C (by decide) (zc_0 E) rfl zin_X11 3 (by decide) gw_2_4 rfl dX11_steps_21 ?_
    obtain ⟨M4, hq2, h⟩ := zbv_e h
    refine zw_callVv (As := [.ref (E.2.1 37)]) (st := []) C (m_X6_remember C.2.2.2.2.2.2.2.1 zmp_37 hq2) kv_X6_remember gw_3_0 (by decide) (by decide) (zc_9 E) rfl rfl rfl rfl (Nat.le_of_ble_eq_true rfl) dX11_steps_24 ?_
    refine zw_aload_n C 0 rfl dX11_steps_27 rfl ?_
    refine zw_get (v := .ref (E.2.1 37)) C (by decide) (zc_0 E) rfl zin_X11 3 (by decide) gw_2_4 rfl dX11_steps_28 ?_
    obtain ⟨r6, M7, hq5, h⟩ := zbi_e h
    refine zw_callVi (As := []) (st := []) C (m_X5_turn C.2.2.2.2.2.2.2.1 zmp_37 hq5) kv_X5_turn gw_3_13 (by decide) zmp_37.lt (zmp_37.c E) rfl rfl rfl rfl (Nat.le_of_ble_eq_true rfl) dX11_steps_31 ?_
    exact zw_ireturnE C h dX11_steps_34
  · have h := zf_ hb1 h
    refine zw_bipush (v := (-2 : Int32)) C dX11_steps_13 ct_b_m2 ?_
    exact zw_ireturnE C h dX11_steps_15
def f_X11_steps (M : zM) : Option (Int32 × zM) := f_X11_steps_0 M
theorem m_X11_steps {l : Launch} {E : zE} (hI : zI E) {M M' : zM} {r : Int32} (h : f_X11_steps M = some (r, M')) : zMet l E yX11_steps cX11_steps 1 (some .int) 4 [.ref (E.2.1 0)] M M' (some (.int r)) := zm_of hI (by decide) (Nat.le_of_ble_eq_true rfl) (fun X _ C => p_X11_steps_0 C h)
theorem kv_X11_steps : zKV yX11_steps cX11_steps 1 (some .int) 0 := ⟨⟨gw_3_10, gw_3_11, gw_1_1, gw_3_12⟩, ⟨by decide, by decide, by decide +kernel⟩, by decide⟩
-- WingDoor.leaves(I)I, 29 instructions, depth 4
def f_X11_leaves_0 (x1 : Int32) (M : zM) : Option (Int32 × zM) := zbi (f_X5_hasGoer M 37 x1) (fun r2 M3 => if r2 = 0 then (some ((-1 : Int32), M3)) else (zg (zin x1 9) (if (M3.1 (37 + 3) x1.toNatClampNeg) = 0 then (zbv (f_X6_remember M3 37) (fun M9 => zbv (f_X5_giveUp M9 37 x1) (fun M12 => zbi (f_X5_howManyAre M12 37 (0 : Int32)) (fun r14 M15 => some (r14, M15))))) else (some ((-2 : Int32), M3)))))
set_option maxRecDepth 20000 in
set_option maxHeartbeats 2000000 in
theorem p_X11_leaves_0 {X : zX} {E : zE} {x1 : Int32} {r : Int32} {M' : zM} (C : zC X E cX11_leaves 2 RX11 (some .int) 4) {M : zM} (h : f_X11_leaves_0 x1 M = some (r, M')) : zW X E (zRQ X E (some (.int r)) M') M 0 [(0, .ref (E.2.1 0)), (1, .int x1)] [] := by
  have h : (zbi (f_X5_hasGoer M 37 x1) (fun r2 M3 => if r2 = 0 then (some ((-1 : Int32), M3)) else (zg (zin x1 9) (if (M3.1 (37 + 3) x1.toNatClampNeg) = 0 then (zbv (f_X6_remember M3 37) (fun M9 => zbv (f_X5_giveUp M9 37 x1) (fun M12 => zbi (f_X5_howManyAre M12 37 (0 : Int32)) (fun r14 M15 => some (r14, M15))))) else (some ((-2 : Int32), M3)))))) = some (r, M') := h
  refine zw_aload_n C 0 rfl dX11_leaves_0 rfl ?_
  refine zw_get (v := .ref (E.2.1 37)) C (by decide) (zc_0 E) rfl zin_X11 3 (by decide) gw_2_4 rfl dX11_leaves_1 ?_
  refine zw_iload_n C 1 rfl dX11_leaves_4 rfl ?_
  obtain ⟨r2, M3, hq1, h⟩ := zbi_e h
  refine zw_callVi (As := [.int x1]) (st := []) C (m_X5_hasGoer C.2.2.2.2.2.2.2.1 zmp_37 hq1) kv_X5_hasGoer gw_2_127 (by decide) zmp_37.lt (zmp_37.c E) rfl rfl rfl rfl (Nat.le_of_ble_eq_true rfl) dX11_leaves_5 ?_
  refine zw_if_ne (tgt := 13) C dX11_leaves_8 (by decide) (fun hb4 => ?_) (fun hb4 => ?_)
  · have h := zt_ hb4 h
    refine zw_iconst (v := (-1 : Int32)) C dX11_leaves_11 ct_i_m1 ?_
    exact zw_ireturnE C h dX11_leaves_12
  · have h := zf_ hb4 h
    refine zw_aload_n C 0 rfl dX11_leaves_13 rfl ?_
    refine zw_get (v := .ref (E.2.1 37)) C (by decide) (zc_0 E) rfl zin_X11 3 (by decide) gw_2_4 rfl dX11_leaves_14 ?_
    refine zw_getN (v := .ref (E.2.1 (37 + 3))) C zmp_37.lt (zmp_37.c E) rfl zin_X5 5 (by decide) (List.mem_of_getElem? (i := 17) rfl) rfl dX11_leaves_17 ?_
    refine zw_iload_n C 1 rfl dX11_leaves_20 rfl ?_
    obtain ⟨hi5, h⟩ := zg_e h
    refine zw_iald C (zmp_37.ia (j := 3) (by decide) (by decide)) (zin_e hi5) dX11_leaves_21 ?_
    refine zw_if_eq (tgt := 28) C dX11_leaves_22 (by decide) (fun hb6 => ?_) (fun hb6 => ?_)
    · have h := zt_ hb6 h
      refine zw_aload_n C 0 rfl dX11_leaves_28 rfl ?_
      refine zw_get (v := .ref (E.2.1 9)) C (by decide) (zc_0 E) rfl zin_X11 5 (by decide) gw_2_6 rfl dX11_leaves_29 ?_
      refine zw_aload_n C 0 rfl dX11_leaves_32 rfl ?_
      refine zw_get (v := .ref (E.2.1 37)) C (by decide) (zc_0 E) rfl zin_X11 3 (by decide) gw_2_4 rfl dX11_leaves_33 ?_
      obtain ⟨M9, hq7, h⟩ := zbv_e h
      refine zw_callVv (As := [.ref (E.2.1 37)]) (st := []) C (m_X6_remember C.2.2.2.2.2.2.2.1 zmp_37 hq7) kv_X6_remember gw_3_0 (by decide) (by decide) (zc_9 E) rfl rfl rfl rfl (Nat.le_of_ble_eq_true rfl) dX11_leaves_36 ?_
      refine zw_aload_n C 0 rfl dX11_leaves_39 rfl ?_
      refine zw_get (v := .ref (E.2.1 37)) C (by decide) (zc_0 E) rfl zin_X11 3 (by decide) gw_2_4 rfl dX11_leaves_40 ?_
      refine zw_iload_n C 1 rfl dX11_leaves_43 rfl ?_
      obtain ⟨M12, hq10, h⟩ := zbv_e h
      refine zw_callVv (As := [.int x1]) (st := []) C (m_X5_giveUp C.2.2.2.2.2.2.2.1 zmp_37 hq10) kv_X5_giveUp gw_3_18 (by decide) zmp_37.lt (zmp_37.c E) rfl rfl rfl rfl (Nat.le_of_ble_eq_true rfl) dX11_leaves_44 ?_
      refine zw_aload_n C 0 rfl dX11_leaves_47 rfl ?_
      refine zw_get (v := .ref (E.2.1 37)) C (by decide) (zc_0 E) rfl zin_X11 3 (by decide) gw_2_4 rfl dX11_leaves_48 ?_
      refine zw_iconst (v := (0 : Int32)) C dX11_leaves_51 ct_i_0 ?_
      obtain ⟨r14, M15, hq13, h⟩ := zbi_e h
      refine zw_callVi (As := [.int (0 : Int32)]) (st := []) C (m_X5_howManyAre C.2.2.2.2.2.2.2.1 zmp_37 hq13) kv_X5_howManyAre gw_3_22 (by decide) zmp_37.lt (zmp_37.c E) rfl rfl rfl rfl (Nat.le_of_ble_eq_true rfl) dX11_leaves_52 ?_
      exact zw_ireturnE C h dX11_leaves_55
    · have h := zf_ hb6 h
      refine zw_bipush (v := (-2 : Int32)) C dX11_leaves_25 ct_b_m2 ?_
      exact zw_ireturnE C h dX11_leaves_27
def f_X11_leaves (M : zM) (x1 : Int32) : Option (Int32 × zM) := f_X11_leaves_0 x1 M
theorem m_X11_leaves {l : Launch} {E : zE} (hI : zI E) {M M' : zM} {x1 : Int32} {r : Int32} (h : f_X11_leaves M x1 = some (r, M')) : zMet l E yX11_leaves cX11_leaves 2 (some .int) 4 [.ref (E.2.1 0), .int x1] M M' (some (.int r)) := zm_of hI (by decide) (Nat.le_of_ble_eq_true rfl) (fun X _ C => p_X11_leaves_0 C h)
theorem kv_X11_leaves : zKV yX11_leaves cX11_leaves 2 (some .int) 1 := ⟨⟨gw_3_15, gw_3_16, gw_1_1, gw_3_17⟩, ⟨by decide, by decide, by decide +kernel⟩, by decide⟩
-- WingDoor.lets(I)I, 35 instructions, depth 4
def f_X11_lets_0 (x1 : Int32) (M : zM) : Option (Int32 × zM) := zbi (f_X5_hasGoer M 37 x1) (fun r2 M3 => if r2 = 0 then (some ((-1 : Int32), M3)) else (zg (zin x1 9) (if (M3.1 (37 + 3) x1.toNatClampNeg) = 0 then (zbi (f_X5_howManyAheadOf M3 37 x1) (fun r8 M9 => if r8 = 0 then (some ((-2 : Int32), M9)) else (zbv (f_X6_remember M9 37) (fun M13 => zbv (f_X5_letAhead M13 37 x1) (fun M16 => some (r8, M16)))))) else (some ((-2 : Int32), M3)))))
set_option maxRecDepth 20000 in
set_option maxHeartbeats 2000000 in
theorem p_X11_lets_0 {X : zX} {E : zE} {x1 : Int32} {r : Int32} {M' : zM} (C : zC X E cX11_lets 3 RX11 (some .int) 4) {M : zM} (h : f_X11_lets_0 x1 M = some (r, M')) : zW X E (zRQ X E (some (.int r)) M') M 0 [(0, .ref (E.2.1 0)), (1, .int x1)] [] := by
  have h : (zbi (f_X5_hasGoer M 37 x1) (fun r2 M3 => if r2 = 0 then (some ((-1 : Int32), M3)) else (zg (zin x1 9) (if (M3.1 (37 + 3) x1.toNatClampNeg) = 0 then (zbi (f_X5_howManyAheadOf M3 37 x1) (fun r8 M9 => if r8 = 0 then (some ((-2 : Int32), M9)) else (zbv (f_X6_remember M9 37) (fun M13 => zbv (f_X5_letAhead M13 37 x1) (fun M16 => some (r8, M16)))))) else (some ((-2 : Int32), M3)))))) = some (r, M') := h
  refine zw_aload_n C 0 rfl dX11_lets_0 rfl ?_
  refine zw_get (v := .ref (E.2.1 37)) C (by decide) (zc_0 E) rfl zin_X11 3 (by decide) gw_2_4 rfl dX11_lets_1 ?_
  refine zw_iload_n C 1 rfl dX11_lets_4 rfl ?_
  obtain ⟨r2, M3, hq1, h⟩ := zbi_e h
  refine zw_callVi (As := [.int x1]) (st := []) C (m_X5_hasGoer C.2.2.2.2.2.2.2.1 zmp_37 hq1) kv_X5_hasGoer gw_2_127 (by decide) zmp_37.lt (zmp_37.c E) rfl rfl rfl rfl (Nat.le_of_ble_eq_true rfl) dX11_lets_5 ?_
  refine zw_if_ne (tgt := 13) C dX11_lets_8 (by decide) (fun hb4 => ?_) (fun hb4 => ?_)
  · have h := zt_ hb4 h
    refine zw_iconst (v := (-1 : Int32)) C dX11_lets_11 ct_i_m1 ?_
    exact zw_ireturnE C h dX11_lets_12
  · have h := zf_ hb4 h
    refine zw_aload_n C 0 rfl dX11_lets_13 rfl ?_
    refine zw_get (v := .ref (E.2.1 37)) C (by decide) (zc_0 E) rfl zin_X11 3 (by decide) gw_2_4 rfl dX11_lets_14 ?_
    refine zw_getN (v := .ref (E.2.1 (37 + 3))) C zmp_37.lt (zmp_37.c E) rfl zin_X5 5 (by decide) (List.mem_of_getElem? (i := 17) rfl) rfl dX11_lets_17 ?_
    refine zw_iload_n C 1 rfl dX11_lets_20 rfl ?_
    obtain ⟨hi5, h⟩ := zg_e h
    refine zw_iald C (zmp_37.ia (j := 3) (by decide) (by decide)) (zin_e hi5) dX11_lets_21 ?_
    refine zw_if_eq (tgt := 28) C dX11_lets_22 (by decide) (fun hb6 => ?_) (fun hb6 => ?_)
    · have h := zt_ hb6 h
      refine zw_aload_n C 0 rfl dX11_lets_28 rfl ?_
      refine zw_get (v := .ref (E.2.1 37)) C (by decide) (zc_0 E) rfl zin_X11 3 (by decide) gw_2_4 rfl dX11_lets_29 ?_
      refine zw_iload_n C 1 rfl dX11_lets_32 rfl ?_
      obtain ⟨r8, M9, hq7, h⟩ := zbi_e h
      refine zw_callVi (As := [.int x1]) (st := []) C (m_X5_howManyAheadOf C.2.2.2.2.2.2.2.1 zmp_37 hq7) kv_X5_howManyAheadOf gw_2_131 (by decide) zmp_37.lt (zmp_37.c E) rfl rfl rfl rfl (Nat.le_of_ble_eq_true rfl) dX11_lets_33 ?_
      refine zw_istore_n (lv' := [(2, .int r8), (0, .ref (E.2.1 0)), (1, .int x1)]) C dX11_lets_36 rfl (by decide) rfl ?_
      refine zw_iload_n C 0 rfl dX11_lets_37 rfl ?_
      refine zw_if_ne (tgt := 44) C dX11_lets_38 (by decide) (fun hb10 => ?_) (fun hb10 => ?_)
      · have h := zt_ hb10 h
        refine zw_bipush (v := (-2 : Int32)) C dX11_lets_41 ct_b_m2 ?_
        exact zw_ireturnE C h dX11_lets_43
      · have h := zf_ hb10 h
        refine zw_aload_n C 1 rfl dX11_lets_44 rfl ?_
        refine zw_get (v := .ref (E.2.1 9)) C (by decide) (zc_0 E) rfl zin_X11 5 (by decide) gw_2_6 rfl dX11_lets_45 ?_
        refine zw_aload_n C 1 rfl dX11_lets_48 rfl ?_
        refine zw_get (v := .ref (E.2.1 37)) C (by decide) (zc_0 E) rfl zin_X11 3 (by decide) gw_2_4 rfl dX11_lets_49 ?_
        obtain ⟨M13, hq11, h⟩ := zbv_e h
        refine zw_callVv (As := [.ref (E.2.1 37)]) (st := []) C (m_X6_remember C.2.2.2.2.2.2.2.1 zmp_37 hq11) kv_X6_remember gw_3_0 (by decide) (by decide) (zc_9 E) rfl rfl rfl rfl (Nat.le_of_ble_eq_true rfl) dX11_lets_52 ?_
        refine zw_aload_n C 1 rfl dX11_lets_55 rfl ?_
        refine zw_get (v := .ref (E.2.1 37)) C (by decide) (zc_0 E) rfl zin_X11 3 (by decide) gw_2_4 rfl dX11_lets_56 ?_
        refine zw_iload_n C 2 rfl dX11_lets_59 rfl ?_
        obtain ⟨M16, hq14, h⟩ := zbv_e h
        refine zw_callVv (As := [.int x1]) (st := []) C (m_X5_letAhead C.2.2.2.2.2.2.2.1 zmp_37 hq14) kv_X5_letAhead gw_3_30 (by decide) zmp_37.lt (zmp_37.c E) rfl rfl rfl rfl (Nat.le_of_ble_eq_true rfl) dX11_lets_60 ?_
        refine zw_iload_n C 0 rfl dX11_lets_63 rfl ?_
        exact zw_ireturnE C h dX11_lets_64
    · have h := zf_ hb6 h
      refine zw_bipush (v := (-2 : Int32)) C dX11_lets_25 ct_b_m2 ?_
      exact zw_ireturnE C h dX11_lets_27
def f_X11_lets (M : zM) (x1 : Int32) : Option (Int32 × zM) := f_X11_lets_0 x1 M
theorem m_X11_lets {l : Launch} {E : zE} (hI : zI E) {M M' : zM} {x1 : Int32} {r : Int32} (h : f_X11_lets M x1 = some (r, M')) : zMet l E yX11_lets cX11_lets 3 (some .int) 4 [.ref (E.2.1 0), .int x1] M M' (some (.int r)) := zm_of hI (by decide) (Nat.le_of_ble_eq_true rfl) (fun X _ C => p_X11_lets_0 C h)
theorem kv_X11_lets : zKV yX11_lets cX11_lets 3 (some .int) 1 := ⟨⟨gw_3_27, gw_3_28, gw_1_1, gw_3_29⟩, ⟨by decide, by decide, by decide +kernel⟩, by decide⟩
-- WingDoor.undo()I, 15 instructions, depth 3
def f_X11_undo_0 (M : zM) : Option (Int32 × zM) := if (M.1 9 2) = 0 then (some ((-2 : Int32), M)) else (zbv (f_X6_recall M 37) (fun M4 => some (M4.1 9 2, M4)))
set_option maxRecDepth 20000 in
set_option maxHeartbeats 2000000 in
theorem p_X11_undo_0 {X : zX} {E : zE} {r : Int32} {M' : zM} (C : zC X E cX11_undo 1 RX11 (some .int) 3) {M : zM} (h : f_X11_undo_0  M = some (r, M')) : zW X E (zRQ X E (some (.int r)) M') M 0 [(0, .ref (E.2.1 0))] [] := by
  have h : (if (M.1 9 2) = 0 then (some ((-2 : Int32), M)) else (zbv (f_X6_recall M 37) (fun M4 => some (M4.1 9 2, M4)))) = some (r, M') := h
  refine zw_aload_n C 0 rfl dX11_undo_0 rfl ?_
  refine zw_get (v := .ref (E.2.1 9)) C (by decide) (zc_0 E) rfl zin_X11 5 (by decide) gw_2_6 rfl dX11_undo_1 ?_
  refine zw_getN (v := .int (M.1 9 2)) C (by decide) (zc_9 E) rfl zin_X6 2 (by decide) (List.mem_of_getElem? (i := 19) rfl) rfl dX11_undo_4 ?_
  refine zw_if_ne (tgt := 13) C dX11_undo_7 (by decide) (fun hb1 => ?_) (fun hb1 => ?_)
  · have h := zt_ hb1 h
    refine zw_bipush (v := (-2 : Int32)) C dX11_undo_10 ct_b_m2 ?_
    exact zw_ireturnE C h dX11_undo_12
  · have h := zf_ hb1 h
    refine zw_aload_n C 0 rfl dX11_undo_13 rfl ?_
    refine zw_get (v := .ref (E.2.1 9)) C (by decide) (zc_0 E) rfl zin_X11 5 (by decide) gw_2_6 rfl dX11_undo_14 ?_
    refine zw_aload_n C 0 rfl dX11_undo_17 rfl ?_
    refine zw_get (v := .ref (E.2.1 37)) C (by decide) (zc_0 E) rfl zin_X11 3 (by decide) gw_2_4 rfl dX11_undo_18 ?_
    obtain ⟨M4, hq2, h⟩ := zbv_e h
    refine zw_callVv (As := [.ref (E.2.1 37)]) (st := []) C (m_X6_recall C.2.2.2.2.2.2.2.1 zmp_37 hq2) kv_X6_recall gw_3_38 (by decide) (by decide) (zc_9 E) rfl rfl rfl rfl (Nat.le_of_ble_eq_true rfl) dX11_undo_21 ?_
    refine zw_aload_n C 0 rfl dX11_undo_24 rfl ?_
    refine zw_get (v := .ref (E.2.1 9)) C (by decide) (zc_0 E) rfl zin_X11 5 (by decide) gw_2_6 rfl dX11_undo_25 ?_
    refine zw_getN (v := .int (M4.1 9 2)) C (by decide) (zc_9 E) rfl zin_X6 2 (by decide) (List.mem_of_getElem? (i := 19) rfl) rfl dX11_undo_28 ?_
    exact zw_ireturnE C h dX11_undo_31
def f_X11_undo (M : zM) : Option (Int32 × zM) := f_X11_undo_0 M
theorem m_X11_undo {l : Launch} {E : zE} (hI : zI E) {M M' : zM} {r : Int32} (h : f_X11_undo M = some (r, M')) : zMet l E yX11_undo cX11_undo 1 (some .int) 3 [.ref (E.2.1 0)] M M' (some (.int r)) := zm_of hI (by decide) (Nat.le_of_ble_eq_true rfl) (fun X _ C => p_X11_undo_0 C h)
theorem kv_X11_undo : zKV yX11_undo cX11_undo 1 (some .int) 0 := ⟨⟨gw_3_35, gw_3_36, gw_1_1, gw_3_37⟩, ⟨by decide, by decide, by decide +kernel⟩, by decide⟩
-- WingDoor.spare(I)I, 12 instructions, depth 6
def f_X11_spare_0 (x1 : Int32) (M : zM) : Option (Int32 × zM) := zbi (f_X5_hasGoer M 37 x1) (fun r2 M3 => if r2 = 0 then (some ((-1 : Int32), M3)) else (zbi (f_X11_bestHelper M3 x1 (0 : Int32)) (fun r6 M7 => some (r6, M7))))
set_option maxRecDepth 20000 in
set_option maxHeartbeats 2000000 in
theorem p_X11_spare_0 {X : zX} {E : zE} {x1 : Int32} {r : Int32} {M' : zM} (C : zC X E cX11_spare 2 RX11 (some .int) 6) {M : zM} (h : f_X11_spare_0 x1 M = some (r, M')) : zW X E (zRQ X E (some (.int r)) M') M 0 [(0, .ref (E.2.1 0)), (1, .int x1)] [] := by
  have h : (zbi (f_X5_hasGoer M 37 x1) (fun r2 M3 => if r2 = 0 then (some ((-1 : Int32), M3)) else (zbi (f_X11_bestHelper M3 x1 (0 : Int32)) (fun r6 M7 => some (r6, M7))))) = some (r, M') := h
  refine zw_aload_n C 0 rfl dX11_spare_0 rfl ?_
  refine zw_get (v := .ref (E.2.1 37)) C (by decide) (zc_0 E) rfl zin_X11 3 (by decide) gw_2_4 rfl dX11_spare_1 ?_
  refine zw_iload_n C 1 rfl dX11_spare_4 rfl ?_
  obtain ⟨r2, M3, hq1, h⟩ := zbi_e h
  refine zw_callVi (As := [.int x1]) (st := []) C (m_X5_hasGoer C.2.2.2.2.2.2.2.1 zmp_37 hq1) kv_X5_hasGoer gw_2_127 (by decide) zmp_37.lt (zmp_37.c E) rfl rfl rfl rfl (Nat.le_of_ble_eq_true rfl) dX11_spare_5 ?_
  refine zw_if_eq (tgt := 20) C dX11_spare_8 (by decide) (fun hb4 => ?_) (fun hb4 => ?_)
  · have h := zt_ hb4 h
    refine zw_iconst (v := (-1 : Int32)) C dX11_spare_20 ct_i_m1 ?_
    exact zw_ireturnE C h dX11_spare_21
  · have h := zf_ hb4 h
    refine zw_aload_n C 0 rfl dX11_spare_11 rfl ?_
    refine zw_iload_n C 1 rfl dX11_spare_12 rfl ?_
    refine zw_iconst (v := (0 : Int32)) C dX11_spare_13 ct_i_0 ?_
    obtain ⟨r6, M7, hq5, h⟩ := zbi_e h
    refine zw_callVi (As := [.int x1, .int (0 : Int32)]) (st := []) C (m_X11_bestHelper C.2.2.2.2.2.2.2.1 hq5) kv_X11_bestHelper gw_3_46 (by decide) (by decide) (zc_0 E) rfl rfl rfl rfl (Nat.le_of_ble_eq_true rfl) dX11_spare_14 ?_
    refine zw_goto (tgt := 21) C dX11_spare_17 (by decide) ?_
    exact zw_ireturnE C h dX11_spare_21
def f_X11_spare (M : zM) (x1 : Int32) : Option (Int32 × zM) := f_X11_spare_0 x1 M
theorem m_X11_spare {l : Launch} {E : zE} (hI : zI E) {M M' : zM} {x1 : Int32} {r : Int32} (h : f_X11_spare M x1 = some (r, M')) : zMet l E yX11_spare cX11_spare 2 (some .int) 6 [.ref (E.2.1 0), .int x1] M M' (some (.int r)) := zm_of hI (by decide) (Nat.le_of_ble_eq_true rfl) (fun X _ C => p_X11_spare_0 C h)
theorem kv_X11_spare : zKV yX11_spare cX11_spare 2 (some .int) 1 := ⟨⟨gw_3_43, gw_3_44, gw_1_1, gw_3_45⟩, ⟨by decide, by decide, by decide +kernel⟩, by decide⟩
-- WingDoor.ahead(I)I, 12 instructions, depth 6
def f_X11_ahead_0 (x1 : Int32) (M : zM) : Option (Int32 × zM) := zbi (f_X5_hasGoer M 37 x1) (fun r2 M3 => if r2 = 0 then (some ((-1 : Int32), M3)) else (zbi (f_X11_bestHelper M3 x1 (1 : Int32)) (fun r6 M7 => some (r6, M7))))
set_option maxRecDepth 20000 in
set_option maxHeartbeats 2000000 in
theorem p_X11_ahead_0 {X : zX} {E : zE} {x1 : Int32} {r : Int32} {M' : zM} (C : zC X E cX11_ahead 2 RX11 (some .int) 6) {M : zM} (h : f_X11_ahead_0 x1 M = some (r, M')) : zW X E (zRQ X E (some (.int r)) M') M 0 [(0, .ref (E.2.1 0)), (1, .int x1)] [] := by
  have h : (zbi (f_X5_hasGoer M 37 x1) (fun r2 M3 => if r2 = 0 then (some ((-1 : Int32), M3)) else (zbi (f_X11_bestHelper M3 x1 (1 : Int32)) (fun r6 M7 => some (r6, M7))))) = some (r, M') := h
  refine zw_aload_n C 0 rfl dX11_ahead_0 rfl ?_
  refine zw_get (v := .ref (E.2.1 37)) C (by decide) (zc_0 E) rfl zin_X11 3 (by decide) gw_2_4 rfl dX11_ahead_1 ?_
  refine zw_iload_n C 1 rfl dX11_ahead_4 rfl ?_
  obtain ⟨r2, M3, hq1, h⟩ := zbi_e h
  refine zw_callVi (As := [.int x1]) (st := []) C (m_X5_hasGoer C.2.2.2.2.2.2.2.1 zmp_37 hq1) kv_X5_hasGoer gw_2_127 (by decide) zmp_37.lt (zmp_37.c E) rfl rfl rfl rfl (Nat.le_of_ble_eq_true rfl) dX11_ahead_5 ?_
  refine zw_if_eq (tgt := 20) C dX11_ahead_8 (by decide) (fun hb4 => ?_) (fun hb4 => ?_)
  · have h := zt_ hb4 h
    refine zw_iconst (v := (-1 : Int32)) C dX11_ahead_20 ct_i_m1 ?_
    exact zw_ireturnE C h dX11_ahead_21
  · have h := zf_ hb4 h
    refine zw_aload_n C 0 rfl dX11_ahead_11 rfl ?_
    refine zw_iload_n C 1 rfl dX11_ahead_12 rfl ?_
    refine zw_iconst (v := (1 : Int32)) C dX11_ahead_13 ct_i_1 ?_
    obtain ⟨r6, M7, hq5, h⟩ := zbi_e h
    refine zw_callVi (As := [.int x1, .int (1 : Int32)]) (st := []) C (m_X11_bestHelper C.2.2.2.2.2.2.2.1 hq5) kv_X11_bestHelper gw_3_46 (by decide) (by decide) (zc_0 E) rfl rfl rfl rfl (Nat.le_of_ble_eq_true rfl) dX11_ahead_14 ?_
    refine zw_goto (tgt := 21) C dX11_ahead_17 (by decide) ?_
    exact zw_ireturnE C h dX11_ahead_21
def f_X11_ahead (M : zM) (x1 : Int32) : Option (Int32 × zM) := f_X11_ahead_0 x1 M
theorem m_X11_ahead {l : Launch} {E : zE} (hI : zI E) {M M' : zM} {x1 : Int32} {r : Int32} (h : f_X11_ahead M x1 = some (r, M')) : zMet l E yX11_ahead cX11_ahead 2 (some .int) 6 [.ref (E.2.1 0), .int x1] M M' (some (.int r)) := zm_of hI (by decide) (Nat.le_of_ble_eq_true rfl) (fun X _ C => p_X11_ahead_0 C h)
theorem kv_X11_ahead : zKV yX11_ahead cX11_ahead 2 (some .int) 1 := ⟨⟨gw_3_51, gw_3_52, gw_1_1, gw_3_53⟩, ⟨by decide, by decide, by decide +kernel⟩, by decide⟩
-- WingDoor.odds(II)I, 46 instructions, depth 3
def f_X11_odds_75 (x1 : Int32) (x2 : Int32) (M : zM) (x7 : Int64) (s0 : Int64) : Option (Int32 × zM) := zg (znL (if x7 < (1 : Int64) then (1 : Int64) else x7)) (some ((s0 / (if x7 < (1 : Int64) then (1 : Int64) else x7)).toInt32, M))
set_option maxRecDepth 20000 in
set_option maxHeartbeats 2000000 in
theorem p_X11_odds_75 {X : zX} {E : zE} {x1 : Int32} {x2 : Int32} {r : Int32} {M' : zM} (C : zC X E cX11_odds 9 RX11 (some .int) 3) {M : zM} {x7 : Int64} {s0 : Int64} (h : f_X11_odds_75 x1 x2 M x7 s0 = some (r, M')) : zW X E (zRQ X E (some (.int r)) M') M 75 [(0, .ref (E.2.1 0)), (1, .int x1), (2, .int x2), (7, .long x7)] [.long s0] := by
  have h : (zg (znL (if x7 < (1 : Int64) then (1 : Int64) else x7)) (some ((s0 / (if x7 < (1 : Int64) then (1 : Int64) else x7)).toInt32, M))) = some (r, M') := h
  refine zw_lconst (v := (1 : Int64)) C dX11_odds_75 rfl ?_
  refine zw_lload C 3 rfl dX11_odds_76 ?_
  refine zw_mmaxL C gw_3_80 gw_3_81 gw_1_17 gw_3_82 (by decide) (Nat.le_of_ble_eq_true rfl) dX11_odds_78 ?_
  obtain ⟨hz1, h⟩ := zg_e h
  refine zw_ldiv C (znL_e hz1) dX11_odds_81 ?_
  refine zw_l2i C dX11_odds_82 ?_
  exact zw_ireturnE C h dX11_odds_83
def f_X11_odds_33 (x1 : Int32) (x2 : Int32) : Nat → zM → Int64 → Int32 → Option (Int32 × zM)
  | 0, _, _, _ => none
  | n + 1, M, x3, x5 => if x5 ≤ 0 then (zbi (f_X11_waysToGo M x1) (fun r3 M4 => zbi (f_X11_greatestDivisor M4 x3 r3) (fun r6 M7 => if x2 = 0 then (f_X11_odds_75 x1 x2 M7 r6 r3) else (f_X11_odds_75 x1 x2 M7 r6 x3)))) else (f_X11_odds_33 x1 x2 n M (x3 * (10 : Int64)) (x5 + (-1 : Int32)))
set_option maxRecDepth 20000 in
set_option maxHeartbeats 2000000 in
theorem p_X11_odds_33 {X : zX} {E : zE} {x1 : Int32} {x2 : Int32} {r : Int32} {M' : zM} (C : zC X E cX11_odds 9 RX11 (some .int) 3) : ∀ (n : Nat) (M : zM) (x3 : Int64) (x5 : Int32), f_X11_odds_33 x1 x2 n M x3 x5 = some (r, M') → zW X E (zRQ X E (some (.int r)) M') M 33 [(0, .ref (E.2.1 0)), (1, .int x1), (2, .int x2), (3, .long x3), (5, .int x5)] [] := by
  intro n
  induction n with
  | zero => intro M x3 x5 h; cases h
  | succ n ih =>
    intro M x3 x5 h
    have h : (if x5 ≤ 0 then (zbi (f_X11_waysToGo M x1) (fun r3 M4 => zbi (f_X11_greatestDivisor M4 x3 r3) (fun r6 M7 => if x2 = 0 then (f_X11_odds_75 x1 x2 M7 r6 r3) else (f_X11_odds_75 x1 x2 M7 r6 x3)))) else (f_X11_odds_33 x1 x2 n M (x3 * (10 : Int64)) (x5 + (-1 : Int32)))) = some (r, M') := h
    refine zw_iload C 4 rfl dX11_odds_33 ?_
    refine zw_if_le (tgt := 50) C dX11_odds_35 (by decide) (fun hb1 => ?_) (fun hb1 => ?_)
    · have h := zt_ hb1 h
      refine zw_aload_n C 0 rfl dX11_odds_50 rfl ?_
      refine zw_iload_n C 1 rfl dX11_odds_51 rfl ?_
      obtain ⟨r3, M4, hq2, h⟩ := zbi_e h
      refine zw_callVi (As := [.int x1]) (st := []) C (m_X11_waysToGo C.2.2.2.2.2.2.2.1 hq2) kv_X11_waysToGo gw_3_59 (by decide) (by decide) (zc_0 E) rfl rfl rfl rfl (Nat.le_of_ble_eq_true rfl) dX11_odds_52 ?_
      refine zw_lstore (lv' := [(5, .long r3), (0, .ref (E.2.1 0)), (1, .int x1), (2, .int x2), (3, .long x3)]) C dX11_odds_55 (by decide) rfl ?_
      refine zw_lload_n C 4 rfl dX11_odds_57 rfl ?_
      refine zw_lload C 0 rfl dX11_odds_58 ?_
      obtain ⟨r6, M7, hq5, h⟩ := zbi_e h
      refine zw_callSi (As := [.long x3, .long r3]) (st := []) C (m_X11_greatestDivisor C.2.2.2.2.2.2.2.1 hq5) ks_X11_greatestDivisor gw_3_77 (by decide) rfl rfl (Nat.le_of_ble_eq_true rfl) dX11_odds_60 ?_
      refine zw_lstore (lv' := [(7, .long r6), (5, .long r3), (0, .ref (E.2.1 0)), (1, .int x1), (2, .int x2), (3, .long x3)]) C dX11_odds_63 (by decide) rfl ?_
      refine zw_iload_n C 4 rfl dX11_odds_65 rfl ?_
      refine zw_if_ne (tgt := 74) C dX11_odds_66 (by decide) (fun hb8 => ?_) (fun hb8 => ?_)
      · have h := zt_ hb8 h
        refine zw_lload C 1 rfl dX11_odds_69 ?_
        refine zw_goto (tgt := 75) C dX11_odds_71 (by decide) ?_
        refine zw_sb [2, 3, 4, 0] rfl ?_
        exact p_X11_odds_75 C h
      · have h := zf_ hb8 h
        refine zw_lload_n C 5 rfl dX11_odds_74 rfl ?_
        refine zw_sb [2, 3, 4, 0] rfl ?_
        exact p_X11_odds_75 C h
    · have h := zf_ hb1 h
      refine zw_lload_n C 3 rfl dX11_odds_38 rfl ?_
      refine zw_ldc2 (v := (10 : Int64)) C gw_3_58 dX11_odds_39 ?_
      refine zw_lmul C dX11_odds_42 ?_
      refine zw_lstore_n (lv' := [(3, .long (x3 * (10 : Int64))), (0, .ref (E.2.1 0)), (1, .int x1), (2, .int x2), (5, .int x5)]) C dX11_odds_43 rfl (by decide) rfl ?_
      refine zw_iinc (lv' := [(5, .int (x5 + (-1 : Int32))), (3, .long (x3 * (10 : Int64))), (0, .ref (E.2.1 0)), (1, .int x1), (2, .int x2)]) C 4 rfl dX11_odds_44 (ct_n_m1 _) (by decide) rfl ?_
      refine zw_goto (tgt := 33) C dX11_odds_47 (by decide) ?_
      refine zw_sb [2, 3, 4, 1, 0] rfl ?_
      exact ih _ _ _ h
def f_X11_odds_0 (x1 : Int32) (x2 : Int32) (M : zM) : Option (Int32 × zM) := if x1 < 0 then (some ((-1 : Int32), M)) else (if (10 : Int32) < x1 then (some ((-1 : Int32), M)) else (if x2 < 0 then (some ((-1 : Int32), M)) else (if x2 ≤ (1 : Int32) then (zbi (f_X5_howManyAre M 37 (1 : Int32)) (fun r6 M7 => f_X11_odds_33 x1 x2 zFU M7 (1 : Int64) r6)) else (some ((-1 : Int32), M)))))
set_option maxRecDepth 20000 in
set_option maxHeartbeats 2000000 in
theorem p_X11_odds_0 {X : zX} {E : zE} {x1 : Int32} {x2 : Int32} {r : Int32} {M' : zM} (C : zC X E cX11_odds 9 RX11 (some .int) 3) {M : zM} (h : f_X11_odds_0 x1 x2 M = some (r, M')) : zW X E (zRQ X E (some (.int r)) M') M 0 [(0, .ref (E.2.1 0)), (1, .int x1), (2, .int x2)] [] := by
  have h : (if x1 < 0 then (some ((-1 : Int32), M)) else (if (10 : Int32) < x1 then (some ((-1 : Int32), M)) else (if x2 < 0 then (some ((-1 : Int32), M)) else (if x2 ≤ (1 : Int32) then (zbi (f_X5_howManyAre M 37 (1 : Int32)) (fun r6 M7 => f_X11_odds_33 x1 x2 zFU M7 (1 : Int64) r6)) else (some ((-1 : Int32), M)))))) = some (r, M') := h
  refine zw_iload_n C 1 rfl dX11_odds_0 rfl ?_
  refine zw_if_lt (tgt := 19) C dX11_odds_1 (by decide) (fun hb1 => ?_) (fun hb1 => ?_)
  · have h := zt_ hb1 h
    refine zw_iconst (v := (-1 : Int32)) C dX11_odds_19 ct_i_m1 ?_
    exact zw_ireturnE C h dX11_odds_20
  · have h := zf_ hb1 h
    refine zw_iload_n C 1 rfl dX11_odds_4 rfl ?_
    refine zw_bipush (v := (10 : Int32)) C dX11_odds_5 ct_b_10 ?_
    refine zw_icmp_gt (tgt := 19) C dX11_odds_7 (by decide) (fun hb2 => ?_) (fun hb2 => ?_)
    · have h := zt_ hb2 h
      refine zw_iconst (v := (-1 : Int32)) C dX11_odds_19 ct_i_m1 ?_
      exact zw_ireturnE C h dX11_odds_20
    · have h := zf_ hb2 h
      refine zw_iload_n C 2 rfl dX11_odds_10 rfl ?_
      refine zw_if_lt (tgt := 19) C dX11_odds_11 (by decide) (fun hb3 => ?_) (fun hb3 => ?_)
      · have h := zt_ hb3 h
        refine zw_iconst (v := (-1 : Int32)) C dX11_odds_19 ct_i_m1 ?_
        exact zw_ireturnE C h dX11_odds_20
      · have h := zf_ hb3 h
        refine zw_iload_n C 2 rfl dX11_odds_14 rfl ?_
        refine zw_iconst (v := (1 : Int32)) C dX11_odds_15 ct_i_1 ?_
        refine zw_icmp_le (tgt := 21) C dX11_odds_16 (by decide) (fun hb4 => ?_) (fun hb4 => ?_)
        · have h := zt_ hb4 h
          refine zw_lconst (v := (1 : Int64)) C dX11_odds_21 rfl ?_
          refine zw_lstore_n (lv' := [(3, .long (1 : Int64)), (0, .ref (E.2.1 0)), (1, .int x1), (2, .int x2)]) C dX11_odds_22 rfl (by decide) rfl ?_
          refine zw_aload_n C 1 rfl dX11_odds_23 rfl ?_
          refine zw_get (v := .ref (E.2.1 37)) C (by decide) (zc_0 E) rfl zin_X11 3 (by decide) gw_2_4 rfl dX11_odds_24 ?_
          refine zw_iconst (v := (1 : Int32)) C dX11_odds_27 ct_i_1 ?_
          obtain ⟨r6, M7, hq5, h⟩ := zbi_e h
          refine zw_callVi (As := [.int (1 : Int32)]) (st := []) C (m_X5_howManyAre C.2.2.2.2.2.2.2.1 zmp_37 hq5) kv_X5_howManyAre gw_3_22 (by decide) zmp_37.lt (zmp_37.c E) rfl rfl rfl rfl (Nat.le_of_ble_eq_true rfl) dX11_odds_28 ?_
          refine zw_istore (lv' := [(5, .int r6), (3, .long (1 : Int64)), (0, .ref (E.2.1 0)), (1, .int x1), (2, .int x2)]) C dX11_odds_31 (by decide) rfl ?_
          refine zw_sb [2, 3, 4, 1, 0] rfl ?_
          exact p_X11_odds_33 C zFU _ _ _ h
        · have h := zf_ hb4 h
          refine zw_iconst (v := (-1 : Int32)) C dX11_odds_19 ct_i_m1 ?_
          exact zw_ireturnE C h dX11_odds_20
def f_X11_odds (M : zM) (x1 : Int32) (x2 : Int32) : Option (Int32 × zM) := f_X11_odds_0 x1 x2 M
theorem m_X11_odds {l : Launch} {E : zE} (hI : zI E) {M M' : zM} {x1 : Int32} {x2 : Int32} {r : Int32} (h : f_X11_odds M x1 x2 = some (r, M')) : zMet l E yX11_odds cX11_odds 9 (some .int) 3 [.ref (E.2.1 0), .int x1, .int x2] M M' (some (.int r)) := zm_of hI (by decide) (Nat.le_of_ble_eq_true rfl) (fun X _ C => p_X11_odds_0 C h)
theorem kv_X11_odds : zKV yX11_odds cX11_odds 9 (some .int) 2 := ⟨⟨gw_3_55, gw_3_56, gw_1_1, gw_3_57⟩, ⟨by decide, by decide, by decide +kernel⟩, by decide⟩
-- WingDoor.sees(III)I, 35 instructions, depth 1
def f_X11_sees_0 (x1 : Int32) (x2 : Int32) (x3 : Int32) (M : zM) : Option (Int32 × zM) := if x1 < 0 then (some ((-1 : Int32), M)) else (if (1 : Int32) < x1 then (some ((-1 : Int32), M)) else (if x3 < 0 then (some ((-1 : Int32), M)) else (if x3 ≤ (1 : Int32) then (zbi (f_X11_leastOf M x1) (fun r6 M7 => if x2 < r6 then (some ((-1 : Int32), M7)) else (zbi (f_X11_mostOf M7 x1) (fun r10 M11 => if x2 ≤ r10 then (zbi (f_X8_add M11 x1 x2 x3) (fun r14 M15 => if r14 = 0 then (some ((-3 : Int32), M15)) else (some (M15.1 13 4, M15)))) else (some ((-1 : Int32), M11)))))) else (some ((-1 : Int32), M)))))
set_option maxRecDepth 20000 in
set_option maxHeartbeats 2000000 in
theorem p_X11_sees_0 {X : zX} {E : zE} {x1 : Int32} {x2 : Int32} {x3 : Int32} {r : Int32} {M' : zM} (C : zC X E cX11_sees 4 RX11 (some .int) 1) {M : zM} (h : f_X11_sees_0 x1 x2 x3 M = some (r, M')) : zW X E (zRQ X E (some (.int r)) M') M 0 [(0, .ref (E.2.1 0)), (1, .int x1), (2, .int x2), (3, .int x3)] [] := by
  have h : (if x1 < 0 then (some ((-1 : Int32), M)) else (if (1 : Int32) < x1 then (some ((-1 : Int32), M)) else (if x3 < 0 then (some ((-1 : Int32), M)) else (if x3 ≤ (1 : Int32) then (zbi (f_X11_leastOf M x1) (fun r6 M7 => if x2 < r6 then (some ((-1 : Int32), M7)) else (zbi (f_X11_mostOf M7 x1) (fun r10 M11 => if x2 ≤ r10 then (zbi (f_X8_add M11 x1 x2 x3) (fun r14 M15 => if r14 = 0 then (some ((-3 : Int32), M15)) else (some (M15.1 13 4, M15)))) else (some ((-1 : Int32), M11)))))) else (some ((-1 : Int32), M)))))) = some (r, M') := h
  refine zw_iload_n C 1 rfl dX11_sees_0 rfl ?_
  refine zw_if_lt (tgt := 18) C dX11_sees_1 (by decide) (fun hb1 => ?_) (fun hb1 => ?_)
  · have h := zt_ hb1 h
    refine zw_iconst (v := (-1 : Int32)) C dX11_sees_18 ct_i_m1 ?_
    exact zw_ireturnE C h dX11_sees_19
  · have h := zf_ hb1 h
    refine zw_iload_n C 1 rfl dX11_sees_4 rfl ?_
    refine zw_iconst (v := (1 : Int32)) C dX11_sees_5 ct_i_1 ?_
    refine zw_icmp_gt (tgt := 18) C dX11_sees_6 (by decide) (fun hb2 => ?_) (fun hb2 => ?_)
    · have h := zt_ hb2 h
      refine zw_iconst (v := (-1 : Int32)) C dX11_sees_18 ct_i_m1 ?_
      exact zw_ireturnE C h dX11_sees_19
    · have h := zf_ hb2 h
      refine zw_iload_n C 3 rfl dX11_sees_9 rfl ?_
      refine zw_if_lt (tgt := 18) C dX11_sees_10 (by decide) (fun hb3 => ?_) (fun hb3 => ?_)
      · have h := zt_ hb3 h
        refine zw_iconst (v := (-1 : Int32)) C dX11_sees_18 ct_i_m1 ?_
        exact zw_ireturnE C h dX11_sees_19
      · have h := zf_ hb3 h
        refine zw_iload_n C 3 rfl dX11_sees_13 rfl ?_
        refine zw_iconst (v := (1 : Int32)) C dX11_sees_14 ct_i_1 ?_
        refine zw_icmp_le (tgt := 20) C dX11_sees_15 (by decide) (fun hb4 => ?_) (fun hb4 => ?_)
        · have h := zt_ hb4 h
          refine zw_iload_n C 2 rfl dX11_sees_20 rfl ?_
          refine zw_iload_n C 1 rfl dX11_sees_21 rfl ?_
          obtain ⟨r6, M7, hq5, h⟩ := zbi_e h
          refine zw_callSi (As := [.int x1]) (st := [.int x2]) C (m_X11_leastOf C.2.2.2.2.2.2.2.1 hq5) ks_X11_leastOf gw_3_87 (by decide) rfl rfl (Nat.le_of_ble_eq_true rfl) dX11_sees_22 ?_
          refine zw_icmp_lt (tgt := 36) C dX11_sees_25 (by decide) (fun hb8 => ?_) (fun hb8 => ?_)
          · have h := zt_ hb8 h
            refine zw_iconst (v := (-1 : Int32)) C dX11_sees_36 ct_i_m1 ?_
            exact zw_ireturnE C h dX11_sees_37
          · have h := zf_ hb8 h
            refine zw_iload_n C 2 rfl dX11_sees_28 rfl ?_
            refine zw_iload_n C 1 rfl dX11_sees_29 rfl ?_
            obtain ⟨r10, M11, hq9, h⟩ := zbi_e h
            refine zw_callSi (As := [.int x1]) (st := [.int x2]) C (m_X11_mostOf C.2.2.2.2.2.2.2.1 hq9) ks_X11_mostOf gw_3_90 (by decide) rfl rfl (Nat.le_of_ble_eq_true rfl) dX11_sees_30 ?_
            refine zw_icmp_le (tgt := 38) C dX11_sees_33 (by decide) (fun hb12 => ?_) (fun hb12 => ?_)
            · have h := zt_ hb12 h
              refine zw_aload_n C 0 rfl dX11_sees_38 rfl ?_
              refine zw_get (v := .ref (E.2.1 13)) C (by decide) (zc_0 E) rfl zin_X11 8 (by decide) gw_2_9 rfl dX11_sees_39 ?_
              refine zw_iload_n C 1 rfl dX11_sees_42 rfl ?_
              refine zw_iload_n C 2 rfl dX11_sees_43 rfl ?_
              refine zw_iload_n C 3 rfl dX11_sees_44 rfl ?_
              obtain ⟨r14, M15, hq13, h⟩ := zbi_e h
              refine zw_callVi (As := [.int x1, .int x2, .int x3]) (st := []) C (m_X8_add C.2.2.2.2.2.2.2.1 hq13) kv_X8_add gw_3_93 (by decide) (by decide) (zc_13 E) rfl rfl rfl rfl (Nat.le_of_ble_eq_true rfl) dX11_sees_45 ?_
              refine zw_if_eq (tgt := 61) C dX11_sees_48 (by decide) (fun hb16 => ?_) (fun hb16 => ?_)
              · have h := zt_ hb16 h
                refine zw_bipush (v := (-3 : Int32)) C dX11_sees_61 ct_b_m3 ?_
                exact zw_ireturnE C h dX11_sees_63
              · have h := zf_ hb16 h
                refine zw_aload_n C 0 rfl dX11_sees_51 rfl ?_
                refine zw_get (v := .ref (E.2.1 13)) C (by decide) (zc_0 E) rfl zin_X11 8 (by decide) gw_2_9 rfl dX11_sees_52 ?_
                refine zw_getN (v := .int (M15.1 13 4)) C (by decide) (zc_13 E) rfl zin_X8 4 (by decide) (List.mem_of_getElem? (i := 20) rfl) rfl dX11_sees_55 ?_
                refine zw_goto (tgt := 63) C dX11_sees_58 (by decide) ?_
                exact zw_ireturnE C h dX11_sees_63
            · have h := zf_ hb12 h
              refine zw_iconst (v := (-1 : Int32)) C dX11_sees_36 ct_i_m1 ?_
              exact zw_ireturnE C h dX11_sees_37
        · have h := zf_ hb4 h
          refine zw_iconst (v := (-1 : Int32)) C dX11_sees_18 ct_i_m1 ?_
          exact zw_ireturnE C h dX11_sees_19
def f_X11_sees (M : zM) (x1 : Int32) (x2 : Int32) (x3 : Int32) : Option (Int32 × zM) := f_X11_sees_0 x1 x2 x3 M
theorem m_X11_sees {l : Launch} {E : zE} (hI : zI E) {M M' : zM} {x1 : Int32} {x2 : Int32} {x3 : Int32} {r : Int32} (h : f_X11_sees M x1 x2 x3 = some (r, M')) : zMet l E yX11_sees cX11_sees 4 (some .int) 1 [.ref (E.2.1 0), .int x1, .int x2, .int x3] M M' (some (.int r)) := zm_of hI (by decide) (Nat.le_of_ble_eq_true rfl) (fun X _ C => p_X11_sees_0 C h)
theorem kv_X11_sees : zKV yX11_sees cX11_sees 4 (some .int) 3 := ⟨⟨gw_3_84, gw_3_85, gw_1_1, gw_3_86⟩, ⟨by decide, by decide, by decide +kernel⟩, by decide⟩
-- WingDoor.forget()I, 10 instructions, depth 0
def f_X11_forget_0 (M : zM) : Option (Int32 × zM) := some (M.1 13 4, zs M 13 4 (0 : Int32))
set_option maxRecDepth 20000 in
set_option maxHeartbeats 2000000 in
theorem p_X11_forget_0 {X : zX} {E : zE} {r : Int32} {M' : zM} (C : zC X E cX11_forget 2 RX11 (some .int) 0) {M : zM} (h : f_X11_forget_0  M = some (r, M')) : zW X E (zRQ X E (some (.int r)) M') M 0 [(0, .ref (E.2.1 0))] [] := by
  have h : (some (M.1 13 4, zs M 13 4 (0 : Int32))) = some (r, M') := h
  refine zw_aload_n C 0 rfl dX11_forget_0 rfl ?_
  refine zw_get (v := .ref (E.2.1 13)) C (by decide) (zc_0 E) rfl zin_X11 8 (by decide) gw_2_9 rfl dX11_forget_1 ?_
  refine zw_getN (v := .int (M.1 13 4)) C (by decide) (zc_13 E) rfl zin_X8 4 (by decide) (List.mem_of_getElem? (i := 20) rfl) rfl dX11_forget_4 ?_
  refine zw_istore_n (lv' := [(1, .int (M.1 13 4)), (0, .ref (E.2.1 0))]) C dX11_forget_7 rfl (by decide) rfl ?_
  refine zw_aload_n C 1 rfl dX11_forget_8 rfl ?_
  refine zw_get (v := .ref (E.2.1 13)) C (by decide) (zc_0 E) rfl zin_X11 8 (by decide) gw_2_9 rfl dX11_forget_9 ?_
  refine zw_iconst (v := (0 : Int32)) C dX11_forget_12 ct_i_0 ?_
  refine zw_putN (ty := .int) C (by decide) (zc_13 E) rfl zin_X8 tyX8 tyX8_ok nmX8 4 (by decide) (List.mem_of_getElem? (i := 20) rfl) rfl rfl rfl rfl (fun _ _ => Nat.le_of_ble_eq_true rfl) (fun _ _ => rfl) dX11_forget_13 ?_
  refine zw_iload_n C 0 rfl dX11_forget_16 rfl ?_
  exact zw_ireturnE C h dX11_forget_17
def f_X11_forget (M : zM) : Option (Int32 × zM) := f_X11_forget_0 M
theorem m_X11_forget {l : Launch} {E : zE} (hI : zI E) {M M' : zM} {r : Int32} (h : f_X11_forget M = some (r, M')) : zMet l E yX11_forget cX11_forget 2 (some .int) 0 [.ref (E.2.1 0)] M M' (some (.int r)) := zm_of hI (by decide) (Nat.le_of_ble_eq_true rfl) (fun X _ C => p_X11_forget_0 C h)
theorem kv_X11_forget : zKV yX11_forget cX11_forget 2 (some .int) 0 := ⟨⟨gw_3_98, gw_3_99, gw_1_1, gw_3_100⟩, ⟨by decide, by decide, by decide +kernel⟩, by decide⟩
-- WingDoor.which()I, 4 instructions, depth 4
def f_X11_which_0 (M : zM) : Option (Int32 × zM) := zbi (f_X8_possibleSorts M) (fun r2 M3 => some (r2, M3))
set_option maxRecDepth 20000 in
set_option maxHeartbeats 2000000 in
theorem p_X11_which_0 {X : zX} {E : zE} {r : Int32} {M' : zM} (C : zC X E cX11_which 1 RX11 (some .int) 4) {M : zM} (h : f_X11_which_0  M = some (r, M')) : zW X E (zRQ X E (some (.int r)) M') M 0 [(0, .ref (E.2.1 0))] [] := by
  have h : (zbi (f_X8_possibleSorts M) (fun r2 M3 => some (r2, M3))) = some (r, M') := h
  refine zw_aload_n C 0 rfl dX11_which_0 rfl ?_
  refine zw_get (v := .ref (E.2.1 13)) C (by decide) (zc_0 E) rfl zin_X11 8 (by decide) gw_2_9 rfl dX11_which_1 ?_
  obtain ⟨r2, M3, hq1, h⟩ := zbi_e h
  refine zw_callVi (As := []) (st := []) C (m_X8_possibleSorts C.2.2.2.2.2.2.2.1 hq1) kv_X8_possibleSorts gw_3_105 (by decide) (by decide) (zc_13 E) rfl rfl rfl rfl (Nat.le_of_ble_eq_true rfl) dX11_which_4 ?_
  exact zw_ireturnE C h dX11_which_7
def f_X11_which (M : zM) : Option (Int32 × zM) := f_X11_which_0 M
theorem m_X11_which {l : Launch} {E : zE} (hI : zI E) {M M' : zM} {r : Int32} (h : f_X11_which M = some (r, M')) : zMet l E yX11_which cX11_which 1 (some .int) 4 [.ref (E.2.1 0)] M M' (some (.int r)) := zm_of hI (by decide) (Nat.le_of_ble_eq_true rfl) (fun X _ C => p_X11_which_0 C h)
theorem kv_X11_which : zKV yX11_which cX11_which 1 (some .int) 0 := ⟨⟨gw_3_102, gw_3_103, gw_1_1, gw_3_104⟩, ⟨by decide, by decide, by decide +kernel⟩, by decide⟩
-- WingDoor.look(I)I, 56 instructions, depth 4
def f_X11_look_47 (x1 : Int32) : Nat → zM → Int32 → Int32 → Int32 → Int32 → Int32 → Option (Int32 × zM)
  | 0, _, _, _, _, _, _ => none
  | n + 1, M, x2, x3, x4, x5, x6 => zbi (f_X11_mostOf M x1) (fun r2 M3 => if r2 < x6 then (some (x4, M3)) else (zbi (f_X7_howManyAtMost M3 3 x2 x1 x6) (fun r6 M7 => if x5 ≤ (if r6 < (x3 - r6) then (x3 - r6) else r6) then (f_X11_look_47 x1 n M7 x2 x3 x4 x5 (x6 + (1 : Int32))) else (f_X11_look_47 x1 n M7 x2 x3 x6 (if r6 < (x3 - r6) then (x3 - r6) else r6) (x6 + (1 : Int32))))))
set_option maxRecDepth 20000 in
set_option maxHeartbeats 2000000 in
theorem p_X11_look_47 {X : zX} {E : zE} {x1 : Int32} {r : Int32} {M' : zM} (C : zC X E cX11_look 9 RX11 (some .int) 4) : ∀ (n : Nat) (M : zM) (x2 : Int32) (x3 : Int32) (x4 : Int32) (x5 : Int32) (x6 : Int32), f_X11_look_47 x1 n M x2 x3 x4 x5 x6 = some (r, M') → zW X E (zRQ X E (some (.int r)) M') M 47 [(0, .ref (E.2.1 0)), (1, .int x1), (2, .int x2), (3, .int x3), (4, .int x4), (5, .int x5), (6, .int x6)] [] := by
  intro n
  induction n with
  | zero => intro M x2 x3 x4 x5 x6 h; cases h
  | succ n ih =>
    intro M x2 x3 x4 x5 x6 h
    have h : (zbi (f_X11_mostOf M x1) (fun r2 M3 => if r2 < x6 then (some (x4, M3)) else (zbi (f_X7_howManyAtMost M3 3 x2 x1 x6) (fun r6 M7 => if x5 ≤ (if r6 < (x3 - r6) then (x3 - r6) else r6) then (f_X11_look_47 x1 n M7 x2 x3 x4 x5 (x6 + (1 : Int32))) else (f_X11_look_47 x1 n M7 x2 x3 x6 (if r6 < (x3 - r6) then (x3 - r6) else r6) (x6 + (1 : Int32))))))) = some (r, M') := h
    refine zw_iload C 6 rfl dX11_look_47 ?_
    refine zw_iload_n C 1 rfl dX11_look_49 rfl ?_
    obtain ⟨r2, M3, hq1, h⟩ := zbi_e h
    refine zw_callSi (As := [.int x1]) (st := [.int x6]) C (m_X11_mostOf C.2.2.2.2.2.2.2.1 hq1) ks_X11_mostOf gw_3_90 (by decide) rfl rfl (Nat.le_of_ble_eq_true rfl) dX11_look_50 ?_
    refine zw_icmp_gt (tgt := 101) C dX11_look_53 (by decide) (fun hb4 => ?_) (fun hb4 => ?_)
    · have h := zt_ hb4 h
      refine zw_iload C 4 rfl dX11_look_101 ?_
      exact zw_ireturnE C h dX11_look_103
    · have h := zf_ hb4 h
      refine zw_aload_n C 0 rfl dX11_look_56 rfl ?_
      refine zw_get (v := .ref (E.2.1 3)) C (by decide) (zc_0 E) rfl zin_X11 1 (by decide) gw_2_2 rfl dX11_look_57 ?_
      refine zw_iload_n C 2 rfl dX11_look_60 rfl ?_
      refine zw_iload_n C 1 rfl dX11_look_61 rfl ?_
      refine zw_iload C 6 rfl dX11_look_62 ?_
      obtain ⟨r6, M7, hq5, h⟩ := zbi_e h
      refine zw_callVi (As := [.int x2, .int x1, .int x6]) (st := []) C (m_X7_howManyAtMost C.2.2.2.2.2.2.2.1 zpp_3 hq5) kv_X7_howManyAtMost gw_3_124 (by decide) zpp_3.lt (zpp_3.c E) rfl rfl rfl rfl (Nat.le_of_ble_eq_true rfl) dX11_look_64 ?_
      refine zw_istore (lv' := [(7, .int r6), (0, .ref (E.2.1 0)), (1, .int x1), (2, .int x2), (3, .int x3), (4, .int x4), (5, .int x5), (6, .int x6)]) C dX11_look_67 (by decide) rfl ?_
      refine zw_iload C 0 rfl dX11_look_69 ?_
      refine zw_iload_n C 4 rfl dX11_look_71 rfl ?_
      refine zw_iload C 0 rfl dX11_look_72 ?_
      refine zw_isub C dX11_look_74 ?_
      refine zw_mmax C gw_3_129 gw_3_130 gw_1_17 gw_3_131 (by decide) (Nat.le_of_ble_eq_true rfl) dX11_look_75 ?_
      refine zw_istore (lv' := [(8, .int (if r6 < (x3 - r6) then (x3 - r6) else r6)), (7, .int r6), (0, .ref (E.2.1 0)), (1, .int x1), (2, .int x2), (3, .int x3), (4, .int x4), (5, .int x5), (6, .int x6)]) C dX11_look_78 (by decide) rfl ?_
      refine zw_iload C 0 rfl dX11_look_80 ?_
      refine zw_iload C 7 rfl dX11_look_82 ?_
      refine zw_icmp_ge (tgt := 95) C dX11_look_84 (by decide) (fun hb8 => ?_) (fun hb8 => ?_)
      · have h := zt_ hb8 h
        refine zw_iinc (lv' := [(6, .int (x6 + (1 : Int32))), (8, .int (if r6 < (x3 - r6) then (x3 - r6) else r6)), (7, .int r6), (0, .ref (E.2.1 0)), (1, .int x1), (2, .int x2), (3, .int x3), (4, .int x4), (5, .int x5)]) C 8 rfl dX11_look_95 (ct_n_1 _) (by decide) rfl ?_
        refine zw_goto (tgt := 47) C dX11_look_98 (by decide) ?_
        refine zw_sb [3, 4, 5, 6, 7, 8, 0] rfl ?_
        exact ih _ _ _ _ _ _ h
      · have h := zf_ hb8 h
        refine zw_iload C 0 rfl dX11_look_87 ?_
        refine zw_istore (lv' := [(5, .int (if r6 < (x3 - r6) then (x3 - r6) else r6)), (8, .int (if r6 < (x3 - r6) then (x3 - r6) else r6)), (7, .int r6), (0, .ref (E.2.1 0)), (1, .int x1), (2, .int x2), (3, .int x3), (4, .int x4), (6, .int x6)]) C dX11_look_89 (by decide) rfl ?_
        refine zw_iload C 8 rfl dX11_look_91 ?_
        refine zw_istore (lv' := [(4, .int x6), (5, .int (if r6 < (x3 - r6) then (x3 - r6) else r6)), (8, .int (if r6 < (x3 - r6) then (x3 - r6) else r6)), (7, .int r6), (0, .ref (E.2.1 0)), (1, .int x1), (2, .int x2), (3, .int x3), (6, .int x6)]) C dX11_look_93 (by decide) rfl ?_
        refine zw_iinc (lv' := [(6, .int (x6 + (1 : Int32))), (4, .int x6), (5, .int (if r6 < (x3 - r6) then (x3 - r6) else r6)), (8, .int (if r6 < (x3 - r6) then (x3 - r6) else r6)), (7, .int r6), (0, .ref (E.2.1 0)), (1, .int x1), (2, .int x2), (3, .int x3)]) C 8 rfl dX11_look_95 (ct_n_1 _) (by decide) rfl ?_
        refine zw_goto (tgt := 47) C dX11_look_98 (by decide) ?_
        refine zw_sb [5, 6, 7, 8, 1, 2, 0] rfl ?_
        exact ih _ _ _ _ _ _ h
def f_X11_look_0 (x1 : Int32) (M : zM) : Option (Int32 × zM) := if x1 < 0 then (some ((-1 : Int32), M)) else (if x1 ≤ (1 : Int32) then (zbi (f_X8_possibleSorts M) (fun r4 M5 => zbi (f_J6_bitCount_0f7a4 M5 r4) (fun r7 M8 => if (1 : Int32) < r7 then (zbi (f_X11_leastOf M8 x1) (fun r11 M12 => f_X11_look_47 x1 zFU M12 r4 r7 (-9 : Int32) (r7 + (1 : Int32)) r11)) else (some ((-9 : Int32), M8))))) else (some ((-1 : Int32), M)))
set_option maxRecDepth 20000 in
set_option maxHeartbeats 2000000 in
theorem p_X11_look_0 {X : zX} {E : zE} {x1 : Int32} {r : Int32} {M' : zM} (C : zC X E cX11_look 9 RX11 (some .int) 4) {M : zM} (h : f_X11_look_0 x1 M = some (r, M')) : zW X E (zRQ X E (some (.int r)) M') M 0 [(0, .ref (E.2.1 0)), (1, .int x1)] [] := by
  have h : (if x1 < 0 then (some ((-1 : Int32), M)) else (if x1 ≤ (1 : Int32) then (zbi (f_X8_possibleSorts M) (fun r4 M5 => zbi (f_J6_bitCount_0f7a4 M5 r4) (fun r7 M8 => if (1 : Int32) < r7 then (zbi (f_X11_leastOf M8 x1) (fun r11 M12 => f_X11_look_47 x1 zFU M12 r4 r7 (-9 : Int32) (r7 + (1 : Int32)) r11)) else (some ((-9 : Int32), M8))))) else (some ((-1 : Int32), M)))) = some (r, M') := h
  refine zw_iload_n C 1 rfl dX11_look_0 rfl ?_
  refine zw_if_lt (tgt := 9) C dX11_look_1 (by decide) (fun hb1 => ?_) (fun hb1 => ?_)
  · have h := zt_ hb1 h
    refine zw_iconst (v := (-1 : Int32)) C dX11_look_9 ct_i_m1 ?_
    exact zw_ireturnE C h dX11_look_10
  · have h := zf_ hb1 h
    refine zw_iload_n C 1 rfl dX11_look_4 rfl ?_
    refine zw_iconst (v := (1 : Int32)) C dX11_look_5 ct_i_1 ?_
    refine zw_icmp_le (tgt := 11) C dX11_look_6 (by decide) (fun hb2 => ?_) (fun hb2 => ?_)
    · have h := zt_ hb2 h
      refine zw_aload_n C 0 rfl dX11_look_11 rfl ?_
      refine zw_get (v := .ref (E.2.1 13)) C (by decide) (zc_0 E) rfl zin_X11 8 (by decide) gw_2_9 rfl dX11_look_12 ?_
      obtain ⟨r4, M5, hq3, h⟩ := zbi_e h
      refine zw_callVi (As := []) (st := []) C (m_X8_possibleSorts C.2.2.2.2.2.2.2.1 hq3) kv_X8_possibleSorts gw_3_105 (by decide) (by decide) (zc_13 E) rfl rfl rfl rfl (Nat.le_of_ble_eq_true rfl) dX11_look_15 ?_
      refine zw_istore_n (lv' := [(2, .int r4), (0, .ref (E.2.1 0)), (1, .int x1)]) C dX11_look_18 rfl (by decide) rfl ?_
      refine zw_iload_n C 0 rfl dX11_look_19 rfl ?_
      obtain ⟨r7, M8, hq6, h⟩ := zbi_e h
      refine zw_callSi (As := [.int r4]) (st := []) C (m_J6_bitCount_0f7a4 C.2.2.2.2.2.2.2.1 hq6) ks_J6_bitCount_0f7a4 gw_3_123 (by decide) rfl rfl (Nat.le_of_ble_eq_true rfl) dX11_look_20 ?_
      refine zw_istore_n (lv' := [(3, .int r7), (2, .int r4), (0, .ref (E.2.1 0)), (1, .int x1)]) C dX11_look_23 rfl (by decide) rfl ?_
      refine zw_iload_n C 0 rfl dX11_look_24 rfl ?_
      refine zw_iconst (v := (1 : Int32)) C dX11_look_25 ct_i_1 ?_
      refine zw_icmp_gt (tgt := 32) C dX11_look_26 (by decide) (fun hb9 => ?_) (fun hb9 => ?_)
      · have h := zt_ hb9 h
        refine zw_bipush (v := (-9 : Int32)) C dX11_look_32 ct_b_m9 ?_
        refine zw_istore (lv' := [(4, .int (-9 : Int32)), (3, .int r7), (2, .int r4), (0, .ref (E.2.1 0)), (1, .int x1)]) C dX11_look_34 (by decide) rfl ?_
        refine zw_iload_n C 1 rfl dX11_look_36 rfl ?_
        refine zw_iconst (v := (1 : Int32)) C dX11_look_37 ct_i_1 ?_
        refine zw_iadd C dX11_look_38 ?_
        refine zw_istore (lv' := [(5, .int (r7 + (1 : Int32))), (4, .int (-9 : Int32)), (3, .int r7), (2, .int r4), (0, .ref (E.2.1 0)), (1, .int x1)]) C dX11_look_39 (by decide) rfl ?_
        refine zw_iload_n C 5 rfl dX11_look_41 rfl ?_
        obtain ⟨r11, M12, hq10, h⟩ := zbi_e h
        refine zw_callSi (As := [.int x1]) (st := []) C (m_X11_leastOf C.2.2.2.2.2.2.2.1 hq10) ks_X11_leastOf gw_3_87 (by decide) rfl rfl (Nat.le_of_ble_eq_true rfl) dX11_look_42 ?_
        refine zw_istore (lv' := [(6, .int r11), (5, .int (r7 + (1 : Int32))), (4, .int (-9 : Int32)), (3, .int r7), (2, .int r4), (0, .ref (E.2.1 0)), (1, .int x1)]) C dX11_look_45 (by decide) rfl ?_
        refine zw_sb [5, 6, 4, 3, 2, 1, 0] rfl ?_
        exact p_X11_look_47 C zFU _ _ _ _ _ _ h
      · have h := zf_ hb9 h
        refine zw_bipush (v := (-9 : Int32)) C dX11_look_29 ct_b_m9 ?_
        exact zw_ireturnE C h dX11_look_31
    · have h := zf_ hb2 h
      refine zw_iconst (v := (-1 : Int32)) C dX11_look_9 ct_i_m1 ?_
      exact zw_ireturnE C h dX11_look_10
def f_X11_look (M : zM) (x1 : Int32) : Option (Int32 × zM) := f_X11_look_0 x1 M
theorem m_X11_look {l : Launch} {E : zE} (hI : zI E) {M M' : zM} {x1 : Int32} {r : Int32} (h : f_X11_look M x1 = some (r, M')) : zMet l E yX11_look cX11_look 9 (some .int) 4 [.ref (E.2.1 0), .int x1] M M' (some (.int r)) := zm_of hI (by decide) (Nat.le_of_ble_eq_true rfl) (fun X _ C => p_X11_look_0 C h)
theorem kv_X11_look : zKV yX11_look cX11_look 9 (some .int) 1 := ⟨⟨gw_3_120, gw_3_121, gw_1_1, gw_3_122⟩, ⟨by decide, by decide, by decide +kernel⟩, by decide⟩
-- WingDoor.keep(I)I, 23 instructions, depth 2
def f_X11_keep_0 (x1 : Int32) (M : zM) : Option (Int32 × zM) := if x1 < 0 then (some ((-1 : Int32), M)) else (if x1 < (2 : Int32) then (zg (zin x1 2) (zbv (f_X5_copy M (109 + 6 * x1.toNatClampNeg) 37) (fun M6 => zg (zin x1 2) (some ((zs M6 12 x1.toNatClampNeg (1 : Int32)).1 37 1, zs M6 12 x1.toNatClampNeg (1 : Int32)))))) else (some ((-1 : Int32), M)))
set_option maxRecDepth 20000 in
set_option maxHeartbeats 2000000 in
theorem p_X11_keep_0 {X : zX} {E : zE} {x1 : Int32} {r : Int32} {M' : zM} (C : zC X E cX11_keep 2 RX11 (some .int) 2) {M : zM} (h : f_X11_keep_0 x1 M = some (r, M')) : zW X E (zRQ X E (some (.int r)) M') M 0 [(0, .ref (E.2.1 0)), (1, .int x1)] [] := by
  have h : (if x1 < 0 then (some ((-1 : Int32), M)) else (if x1 < (2 : Int32) then (zg (zin x1 2) (zbv (f_X5_copy M (109 + 6 * x1.toNatClampNeg) 37) (fun M6 => zg (zin x1 2) (some ((zs M6 12 x1.toNatClampNeg (1 : Int32)).1 37 1, zs M6 12 x1.toNatClampNeg (1 : Int32)))))) else (some ((-1 : Int32), M)))) = some (r, M') := h
  refine zw_iload_n C 1 rfl dX11_keep_0 rfl ?_
  refine zw_if_lt (tgt := 9) C dX11_keep_1 (by decide) (fun hb1 => ?_) (fun hb1 => ?_)
  · have h := zt_ hb1 h
    refine zw_iconst (v := (-1 : Int32)) C dX11_keep_9 ct_i_m1 ?_
    exact zw_ireturnE C h dX11_keep_10
  · have h := zf_ hb1 h
    refine zw_iload_n C 1 rfl dX11_keep_4 rfl ?_
    refine zw_iconst (v := (2 : Int32)) C dX11_keep_5 ct_i_2 ?_
    refine zw_icmp_lt (tgt := 11) C dX11_keep_6 (by decide) (fun hb2 => ?_) (fun hb2 => ?_)
    · have h := zt_ hb2 h
      refine zw_aload_n C 0 rfl dX11_keep_11 rfl ?_
      refine zw_get (v := .ref (E.2.1 11)) C (by decide) (zc_0 E) rfl zin_X11 6 (by decide) gw_2_7 rfl dX11_keep_12 ?_
      refine zw_iload_n C 1 rfl dX11_keep_15 rfl ?_
      obtain ⟨hi3, h⟩ := zg_e h
      refine zw_aald C zqa_11 (zin_e hi3) dX11_keep_16 ?_
      have hi3l := zin_lt hi3
      refine zw_aload_n C 0 rfl dX11_keep_17 rfl ?_
      refine zw_get (v := .ref (E.2.1 37)) C (by decide) (zc_0 E) rfl zin_X11 3 (by decide) gw_2_4 rfl dX11_keep_18 ?_
      obtain ⟨M6, hq4, h⟩ := zbv_e h
      refine zw_callVv (As := [.ref (E.2.1 37)]) (st := []) C (m_X5_copy C.2.2.2.2.2.2.2.1 (zmp_img hi3l) zmp_37 hq4) kv_X5_copy gw_2_140 (by decide) (zmp_img hi3l).lt ((zmp_img hi3l).c E) rfl rfl rfl rfl (Nat.le_of_ble_eq_true rfl) dX11_keep_21 ?_
      refine zw_aload_n C 0 rfl dX11_keep_24 rfl ?_
      refine zw_get (v := .ref (E.2.1 12)) C (by decide) (zc_0 E) rfl zin_X11 7 (by decide) gw_2_8 rfl dX11_keep_25 ?_
      refine zw_iload_n C 1 rfl dX11_keep_28 rfl ?_
      refine zw_iconst (v := (1 : Int32)) C dX11_keep_29 ct_i_1 ?_
      obtain ⟨hi7, h⟩ := zg_e h
      refine zw_zast C zza_12 rfl (zin_e hi7) dX11_keep_30 ?_
      refine zw_aload_n C 0 rfl dX11_keep_31 rfl ?_
      refine zw_get (v := .ref (E.2.1 37)) C (by decide) (zc_0 E) rfl zin_X11 3 (by decide) gw_2_4 rfl dX11_keep_32 ?_
      refine zw_getN (v := .int ((zs M6 12 x1.toNatClampNeg (1 : Int32)).1 37 1)) C zmp_37.lt (zmp_37.c E) rfl zin_X5 1 (by decide) (List.mem_of_getElem? (i := 13) rfl) rfl dX11_keep_35 ?_
      exact zw_ireturnE C h dX11_keep_38
    · have h := zf_ hb2 h
      refine zw_iconst (v := (-1 : Int32)) C dX11_keep_9 ct_i_m1 ?_
      exact zw_ireturnE C h dX11_keep_10
def f_X11_keep (M : zM) (x1 : Int32) : Option (Int32 × zM) := f_X11_keep_0 x1 M
theorem m_X11_keep {l : Launch} {E : zE} (hI : zI E) {M M' : zM} {x1 : Int32} {r : Int32} (h : f_X11_keep M x1 = some (r, M')) : zMet l E yX11_keep cX11_keep 2 (some .int) 2 [.ref (E.2.1 0), .int x1] M M' (some (.int r)) := zm_of hI (by decide) (Nat.le_of_ble_eq_true rfl) (fun X _ C => p_X11_keep_0 C h)
theorem kv_X11_keep : zKV yX11_keep cX11_keep 2 (some .int) 1 := ⟨⟨gw_3_174, gw_3_175, gw_1_1, gw_3_176⟩, ⟨by decide, by decide, by decide +kernel⟩, by decide⟩
-- WingDoor.back(I)I, 29 instructions, depth 2
def f_X11_back_0 (x1 : Int32) (M : zM) : Option (Int32 × zM) := if x1 < 0 then (some ((-1 : Int32), M)) else (if x1 < (2 : Int32) then (zg (zin x1 2) (if (M.1 12 x1.toNatClampNeg) = 0 then (some ((-2 : Int32), M)) else (zg (zin x1 2) (zbv (f_X5_copy M 37 (109 + 6 * x1.toNatClampNeg)) (fun M8 => some ((zs M8 9 2 (0 : Int32)).1 37 1, zs M8 9 2 (0 : Int32))))))) else (some ((-1 : Int32), M)))
set_option maxRecDepth 20000 in
set_option maxHeartbeats 2000000 in
theorem p_X11_back_0 {X : zX} {E : zE} {x1 : Int32} {r : Int32} {M' : zM} (C : zC X E cX11_back 2 RX11 (some .int) 2) {M : zM} (h : f_X11_back_0 x1 M = some (r, M')) : zW X E (zRQ X E (some (.int r)) M') M 0 [(0, .ref (E.2.1 0)), (1, .int x1)] [] := by
  have h : (if x1 < 0 then (some ((-1 : Int32), M)) else (if x1 < (2 : Int32) then (zg (zin x1 2) (if (M.1 12 x1.toNatClampNeg) = 0 then (some ((-2 : Int32), M)) else (zg (zin x1 2) (zbv (f_X5_copy M 37 (109 + 6 * x1.toNatClampNeg)) (fun M8 => some ((zs M8 9 2 (0 : Int32)).1 37 1, zs M8 9 2 (0 : Int32))))))) else (some ((-1 : Int32), M)))) = some (r, M') := h
  refine zw_iload_n C 1 rfl dX11_back_0 rfl ?_
  refine zw_if_lt (tgt := 9) C dX11_back_1 (by decide) (fun hb1 => ?_) (fun hb1 => ?_)
  · have h := zt_ hb1 h
    refine zw_iconst (v := (-1 : Int32)) C dX11_back_9 ct_i_m1 ?_
    exact zw_ireturnE C h dX11_back_10
  · have h := zf_ hb1 h
    refine zw_iload_n C 1 rfl dX11_back_4 rfl ?_
    refine zw_iconst (v := (2 : Int32)) C dX11_back_5 ct_i_2 ?_
    refine zw_icmp_lt (tgt := 11) C dX11_back_6 (by decide) (fun hb2 => ?_) (fun hb2 => ?_)
    · have h := zt_ hb2 h
      refine zw_aload_n C 0 rfl dX11_back_11 rfl ?_
      refine zw_get (v := .ref (E.2.1 12)) C (by decide) (zc_0 E) rfl zin_X11 7 (by decide) gw_2_8 rfl dX11_back_12 ?_
      refine zw_iload_n C 1 rfl dX11_back_15 rfl ?_
      obtain ⟨hi3, h⟩ := zg_e h
      refine zw_zald C zza_12 (zin_e hi3) dX11_back_16 ?_
      refine zw_if_ne (tgt := 23) C dX11_back_17 (by decide) (fun hb4 => ?_) (fun hb4 => ?_)
      · have h := zt_ hb4 h
        refine zw_bipush (v := (-2 : Int32)) C dX11_back_20 ct_b_m2 ?_
        exact zw_ireturnE C h dX11_back_22
      · have h := zf_ hb4 h
        refine zw_aload_n C 0 rfl dX11_back_23 rfl ?_
        refine zw_get (v := .ref (E.2.1 37)) C (by decide) (zc_0 E) rfl zin_X11 3 (by decide) gw_2_4 rfl dX11_back_24 ?_
        refine zw_aload_n C 0 rfl dX11_back_27 rfl ?_
        refine zw_get (v := .ref (E.2.1 11)) C (by decide) (zc_0 E) rfl zin_X11 6 (by decide) gw_2_7 rfl dX11_back_28 ?_
        refine zw_iload_n C 1 rfl dX11_back_31 rfl ?_
        obtain ⟨hi5, h⟩ := zg_e h
        refine zw_aald C zqa_11 (zin_e hi5) dX11_back_32 ?_
        have hi5l := zin_lt hi5
        obtain ⟨M8, hq6, h⟩ := zbv_e h
        refine zw_callVv (As := [.ref (E.2.1 (109 + 6 * x1.toNatClampNeg))]) (st := []) C (m_X5_copy C.2.2.2.2.2.2.2.1 zmp_37 (zmp_img hi5l) hq6) kv_X5_copy gw_2_140 (by decide) zmp_37.lt (zmp_37.c E) rfl rfl rfl rfl (Nat.le_of_ble_eq_true rfl) dX11_back_33 ?_
        refine zw_aload_n C 0 rfl dX11_back_36 rfl ?_
        refine zw_get (v := .ref (E.2.1 9)) C (by decide) (zc_0 E) rfl zin_X11 5 (by decide) gw_2_6 rfl dX11_back_37 ?_
        refine zw_iconst (v := (0 : Int32)) C dX11_back_40 ct_i_0 ?_
        refine zw_putN (ty := .int) C (by decide) (zc_9 E) rfl zin_X6 tyX6 tyX6_ok nmX6 2 (by decide) (List.mem_of_getElem? (i := 19) rfl) rfl rfl rfl rfl (fun _ _ => Nat.le_of_ble_eq_true rfl) (fun _ _ => rfl) dX11_back_41 ?_
        refine zw_aload_n C 0 rfl dX11_back_44 rfl ?_
        refine zw_get (v := .ref (E.2.1 37)) C (by decide) (zc_0 E) rfl zin_X11 3 (by decide) gw_2_4 rfl dX11_back_45 ?_
        refine zw_getN (v := .int ((zs M8 9 2 (0 : Int32)).1 37 1)) C zmp_37.lt (zmp_37.c E) rfl zin_X5 1 (by decide) (List.mem_of_getElem? (i := 13) rfl) rfl dX11_back_48 ?_
        exact zw_ireturnE C h dX11_back_51
    · have h := zf_ hb2 h
      refine zw_iconst (v := (-1 : Int32)) C dX11_back_9 ct_i_m1 ?_
      exact zw_ireturnE C h dX11_back_10
def f_X11_back (M : zM) (x1 : Int32) : Option (Int32 × zM) := f_X11_back_0 x1 M
theorem m_X11_back {l : Launch} {E : zE} (hI : zI E) {M M' : zM} {x1 : Int32} {r : Int32} (h : f_X11_back M x1 = some (r, M')) : zMet l E yX11_back cX11_back 2 (some .int) 2 [.ref (E.2.1 0), .int x1] M M' (some (.int r)) := zm_of hI (by decide) (Nat.le_of_ble_eq_true rfl) (fun X _ C => p_X11_back_0 C h)
theorem kv_X11_back : zKV yX11_back cX11_back 2 (some .int) 1 := ⟨⟨gw_3_178, gw_3_179, gw_1_1, gw_3_180⟩, ⟨by decide, by decide, by decide +kernel⟩, by decide⟩
-- WingDoor.count(I)I, 32 instructions, depth 0
def f_X11_count_0 (x1 : Int32) (M : zM) : Option (Int32 × zM) := if x1 = (0 : Int32) then (some (M.1 3 0, M)) else if x1 = (1 : Int32) then (some (M.1 3 1, M)) else if x1 = (2 : Int32) then (some (M.1 3 2, M)) else if x1 = (3 : Int32) then (some (M.1 3 3, M)) else if x1 = (4 : Int32) then (some (M.1 37 2, M)) else if x1 = (5 : Int32) then (some (M.1 13 4, M)) else if x1 = (6 : Int32) then (some (M.1 1 1, M)) else (some ((-1 : Int32), M))
set_option maxRecDepth 20000 in
set_option maxHeartbeats 2000000 in
theorem p_X11_count_0 {X : zX} {E : zE} {x1 : Int32} {r : Int32} {M' : zM} (C : zC X E cX11_count 2 RX11 (some .int) 0) {M : zM} (h : f_X11_count_0 x1 M = some (r, M')) : zW X E (zRQ X E (some (.int r)) M') M 0 [(0, .ref (E.2.1 0)), (1, .int x1)] [] := by
  have h : (if x1 = (0 : Int32) then (some (M.1 3 0, M)) else if x1 = (1 : Int32) then (some (M.1 3 1, M)) else if x1 = (2 : Int32) then (some (M.1 3 2, M)) else if x1 = (3 : Int32) then (some (M.1 3 3, M)) else if x1 = (4 : Int32) then (some (M.1 37 2, M)) else if x1 = (5 : Int32) then (some (M.1 13 4, M)) else if x1 = (6 : Int32) then (some (M.1 1 1, M)) else (some ((-1 : Int32), M))) = some (r, M') := h
  refine zw_iload_n C 1 rfl dX11_count_0 rfl ?_
  by_cases hb1 : x1 = (0 : Int32)
  · have h := zt_ hb1 h
    refine zw_tabIn (v := (0 : Int32)) (tgt := 44) C hb1 dX11_count_1 (by decide) (by decide) rfl (by decide) ?_
    refine zw_aload_n C 0 rfl dX11_count_44 rfl ?_
    refine zw_get (v := .ref (E.2.1 3)) C (by decide) (zc_0 E) rfl zin_X11 1 (by decide) gw_2_2 rfl dX11_count_45 ?_
    refine zw_getN (v := .int (M.1 3 0)) C zpp_3.lt (zpp_3.c E) rfl zin_X7 0 (by decide) (List.mem_of_getElem? (i := 2) rfl) rfl dX11_count_48 ?_
    exact zw_ireturnE C h dX11_count_51
  have h := zf_ hb1 h
  by_cases hb2 : x1 = (1 : Int32)
  · have h := zt_ hb2 h
    refine zw_tabIn (v := (1 : Int32)) (tgt := 52) C hb2 dX11_count_1 (by decide) (by decide) rfl (by decide) ?_
    refine zw_aload_n C 0 rfl dX11_count_52 rfl ?_
    refine zw_get (v := .ref (E.2.1 3)) C (by decide) (zc_0 E) rfl zin_X11 1 (by decide) gw_2_2 rfl dX11_count_53 ?_
    refine zw_getN (v := .int (M.1 3 1)) C zpp_3.lt (zpp_3.c E) rfl zin_X7 1 (by decide) (List.mem_of_getElem? (i := 5) rfl) rfl dX11_count_56 ?_
    exact zw_ireturnE C h dX11_count_59
  have h := zf_ hb2 h
  by_cases hb3 : x1 = (2 : Int32)
  · have h := zt_ hb3 h
    refine zw_tabIn (v := (2 : Int32)) (tgt := 60) C hb3 dX11_count_1 (by decide) (by decide) rfl (by decide) ?_
    refine zw_aload_n C 0 rfl dX11_count_60 rfl ?_
    refine zw_get (v := .ref (E.2.1 3)) C (by decide) (zc_0 E) rfl zin_X11 1 (by decide) gw_2_2 rfl dX11_count_61 ?_
    refine zw_getN (v := .int (M.1 3 2)) C zpp_3.lt (zpp_3.c E) rfl zin_X7 2 (by decide) (List.mem_of_getElem? (i := 8) rfl) rfl dX11_count_64 ?_
    exact zw_ireturnE C h dX11_count_67
  have h := zf_ hb3 h
  by_cases hb4 : x1 = (3 : Int32)
  · have h := zt_ hb4 h
    refine zw_tabIn (v := (3 : Int32)) (tgt := 68) C hb4 dX11_count_1 (by decide) (by decide) rfl (by decide) ?_
    refine zw_aload_n C 0 rfl dX11_count_68 rfl ?_
    refine zw_get (v := .ref (E.2.1 3)) C (by decide) (zc_0 E) rfl zin_X11 1 (by decide) gw_2_2 rfl dX11_count_69 ?_
    refine zw_getN (v := .int (M.1 3 3)) C zpp_3.lt (zpp_3.c E) rfl zin_X7 3 (by decide) (List.mem_of_getElem? (i := 11) rfl) rfl dX11_count_72 ?_
    exact zw_ireturnE C h dX11_count_75
  have h := zf_ hb4 h
  by_cases hb5 : x1 = (4 : Int32)
  · have h := zt_ hb5 h
    refine zw_tabIn (v := (4 : Int32)) (tgt := 76) C hb5 dX11_count_1 (by decide) (by decide) rfl (by decide) ?_
    refine zw_aload_n C 0 rfl dX11_count_76 rfl ?_
    refine zw_get (v := .ref (E.2.1 37)) C (by decide) (zc_0 E) rfl zin_X11 3 (by decide) gw_2_4 rfl dX11_count_77 ?_
    refine zw_getN (v := .int (M.1 37 2)) C zmp_37.lt (zmp_37.c E) rfl zin_X5 2 (by decide) (List.mem_of_getElem? (i := 14) rfl) rfl dX11_count_80 ?_
    exact zw_ireturnE C h dX11_count_83
  have h := zf_ hb5 h
  by_cases hb6 : x1 = (5 : Int32)
  · have h := zt_ hb6 h
    refine zw_tabIn (v := (5 : Int32)) (tgt := 84) C hb6 dX11_count_1 (by decide) (by decide) rfl (by decide) ?_
    refine zw_aload_n C 0 rfl dX11_count_84 rfl ?_
    refine zw_get (v := .ref (E.2.1 13)) C (by decide) (zc_0 E) rfl zin_X11 8 (by decide) gw_2_9 rfl dX11_count_85 ?_
    refine zw_getN (v := .int (M.1 13 4)) C (by decide) (zc_13 E) rfl zin_X8 4 (by decide) (List.mem_of_getElem? (i := 20) rfl) rfl dX11_count_88 ?_
    exact zw_ireturnE C h dX11_count_91
  have h := zf_ hb6 h
  by_cases hb7 : x1 = (6 : Int32)
  · have h := zt_ hb7 h
    refine zw_tabIn (v := (6 : Int32)) (tgt := 92) C hb7 dX11_count_1 (by decide) (by decide) rfl (by decide) ?_
    refine zw_aload_n C 0 rfl dX11_count_92 rfl ?_
    refine zw_get (v := .ref (E.2.1 1)) C (by decide) (zc_0 E) rfl zin_X11 0 (by decide) gw_2_1 rfl dX11_count_93 ?_
    refine zw_getN (v := .int (M.1 1 1)) C (by decide) (zc_1 E) rfl zin_X10 1 (by decide) (List.mem_of_getElem? (i := 0) rfl) rfl dX11_count_96 ?_
    exact zw_ireturnE C h dX11_count_99
  have h := zf_ hb7 h
  refine zw_tabOut (tgt := 100) C (by have e0 := lv_neT hb1 (show (0 : Int32).toInt = 0 by decide); have e1 := lv_neT hb2 (show (1 : Int32).toInt = 1 by decide); have e2 := lv_neT hb3 (show (2 : Int32).toInt = 2 by decide); have e3 := lv_neT hb4 (show (3 : Int32).toInt = 3 by decide); have e4 := lv_neT hb5 (show (4 : Int32).toInt = 4 by decide); have e5 := lv_neT hb6 (show (5 : Int32).toInt = 5 by decide); have e6 := lv_neT hb7 (show (6 : Int32).toInt = 6 by decide); omega) dX11_count_1 (by decide) ?_
  refine zw_iconst (v := (-1 : Int32)) C dX11_count_100 ct_i_m1 ?_
  exact zw_ireturnE C h dX11_count_101
def f_X11_count (M : zM) (x1 : Int32) : Option (Int32 × zM) := f_X11_count_0 x1 M
theorem m_X11_count {l : Launch} {E : zE} (hI : zI E) {M M' : zM} {x1 : Int32} {r : Int32} (h : f_X11_count M x1 = some (r, M')) : zMet l E yX11_count cX11_count 2 (some .int) 0 [.ref (E.2.1 0), .int x1] M M' (some (.int r)) := zm_of hI (by decide) (Nat.le_of_ble_eq_true rfl) (fun X _ C => p_X11_count_0 C h)
theorem kv_X11_count : zKV yX11_count cX11_count 2 (some .int) 1 := ⟨⟨gw_3_182, gw_3_183, gw_1_1, gw_3_184⟩, ⟨by decide, by decide, by decide +kernel⟩, by decide⟩
