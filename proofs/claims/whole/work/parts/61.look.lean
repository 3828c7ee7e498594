/-! room, now, goer, rate, trace -/
theorem aAhead_rel {G g : Nat} {si si' wh wh' tu sa : Nat → Int32} (hs : ∀ g, g < G → si g = si' g) (hw : ∀ g, g < G → wh g = wh' g) (ho : aOr G si wh tu sa) (hg : g < G) (h0 : wh g = 0) : aAhead si wh tu g G = aAhead si' wh' sa g G := by
  unfold aAhead
  refine zfo_congr (fun j a hj => ?_)
  rw [← hs j hj, ← hs g hg, ← hw j hj]
  by_cases hc : wh j = 0 ∧ si j = si g
  · have := ho j g hj hg hc.1 h0 hc.2
    by_cases h : tu j < tu g
    · rw [if_pos ⟨hc, h⟩, if_pos ⟨hc, this.mp h⟩]
    · rw [if_neg (fun q => h q.2), if_neg (fun q => h (this.mpr q.2))]
  · rw [if_neg (fun q => hc q.1), if_neg (fun q => hc q.1)]
theorem r0_those {M : zM} {t G S : Nat} (X : zRx M t G S) (w : Int32) : f_X12_those M t w = some (aWho (fun g => M.1 t (20 + g)) w G, M) := by
  have := r_those X (fun g => M.1 t (20 + g), fun g => M.1 t (29 + g)) w
  rw [zrw_self] at this
  exact this
theorem r0_inRoom {M : zM} {t G S : Nat} (X : zRx M t G S) (p : Int32) : f_X12_inRoom M t p = some (aRoom (fun g => M.1 t (20 + g)) (fun g => M.1 t (29 + g)) p G, M) := by
  have := r_inRoom X (fun g => M.1 t (20 + g), fun g => M.1 t (29 + g)) p
  rw [zrw_self] at this
  exact this
theorem r0_bulkIn {M : zM} {t G S : Nat} (X : zRx M t G S) (p : Int32) : f_X12_bulkIn M t p = some (aBulk (fun g => M.1 t (2 + g)) (M.1 26) (fun g => M.1 t (20 + g)) (fun g => M.1 t (29 + g)) p G, M) := by
  have := r_bulkIn X (fun g => M.1 t (20 + g), fun g => M.1 t (29 + g)) p
  rw [zrw_self] at this
  exact this
theorem r0_loadOn {M : zM} {t G S : Nat} (X : zRx M t G S) : f_X12_loadOn M t = some (aLoad (fun g => M.1 t (2 + g)) (M.1 27) (fun g => M.1 t (20 + g)) G, M) := by
  have := r_loadOn X (fun g => M.1 t (20 + g), fun g => M.1 t (29 + g))
  rw [zrw_self] at this
  exact this
theorem r0_dragOn {M : zM} {t G S : Nat} (X : zRx M t G S) : f_X12_dragOn M t = some (M.1 25 2 + zbc (aWho (fun g => M.1 t (20 + g)) 1 G), M) := by
  have := r_dragOn X (fun g => M.1 t (20 + g), fun g => M.1 t (29 + g))
  rw [zrw_self] at this
  exact this
theorem r0_aheadOf {M : zM} {t G S g : Nat} (X : zRx M t G S) (hg : g < 9) : f_X12_aheadOf M t (nI g) = some (aAhead (fun g => M.1 t (11 + g)) (fun g => M.1 t (20 + g)) (fun g => M.1 t (38 + g)) g G, M) := by
  have := r_aheadOf X (fun g => M.1 t (20 + g), fun g => M.1 t (29 + g)) hg
  rw [zrw_self] at this
  exact this
theorem r0_bulkOf {M : zM} {t G S g : Nat} (X : zRx M t G S) (hg : g < G) : f_X12_bulkOf M t (nI g) = some (M.1 26 (M.1 t (2 + g)).toNatClampNeg, M) := by
  have := r_bulkOf X (fun g => M.1 t (20 + g), fun g => M.1 t (29 + g)) hg
  rw [zrw_self] at this
  exact this
theorem p_room {n : Nat} {M : zM} (X : wI n M) (x y : Int32) : wOp n M (fun M => f_X11_room M x y) (fun M => f_X12_room M x y) := by
  obtain ⟨R, W, H, S, a1, ⟨G, K, a2⟩, a3, a4, a5, a6, a7⟩ := id X
  have hR := a1.2.1.1
  have hR' := a1.2.2.1.1
  have hR6 := a1.1.2.1
  have hx := a2.cx a1 (by omega)
  have hr := a2.rx a1 (by omega)
  have no : x < 0 ∨ nI R ≤ x → wOp n M (fun M => f_X11_room M x y) (fun M => f_X12_room M x y) := by
    intro h
    refine wOp_same X (-1) ?_ ?_
    · show f_X11_room_0 x y M = _
      rw [f_X11_room_0]
      by_cases h1 : x < 0
      · rw [if_pos h1]
      · rw [if_neg h1, hR, if_neg (i_nlt.mpr (h.resolve_left h1))]
    · show f_X12_room_0 x y M = _
      rw [f_X12_room_0, hR', r_ixF (by omega) h, zbi_s, if_pos rfl]
  rcases pk_ix x (n := R) (by omega) with h | h | ⟨j, hj, rfl⟩
  · exact no (Or.inl h)
  · exact no (Or.inr h)
  · have hc : f_X11_room M (nI j) y = (if y = (0 : Int32) then (zbi (f_X5_whoIsInRoomAt M 37 (nI j)) (fun r5 M6 => some (r5, M6))) else if y = (1 : Int32) then (zbi (f_X5_bulkInRoomAt M 37 (nI j)) (fun r9 M10 => some (r9, M10))) else (some ((-1 : Int32), M))) := by
      show f_X11_room_0 _ y M = _
      rw [f_X11_room_0, if_neg (nI_pos (by omega)), hR, if_pos (nI_lt hj (by omega))]
    have hrr : f_X12_room M (nI j) y = zbi (f_X12_isBit M y) (fun r6 M7 => if r6 = 0 then (some ((-1 : Int32), M7)) else (if y = 0 then (zbi (f_X12_inRoom M7 28 (nI j)) (fun r11 M12 => some (r11, M12))) else (zbi (f_X12_bulkIn M7 28 (nI j)) (fun r14 M15 => some (r14, M15))))) := by
      show f_X12_room_0 _ y M = _
      rw [f_X12_room_0, hR', r_ixT (by omega) hj, zbi_s, if_neg (by decide)]
    have no2 : y < 0 ∨ nI 2 ≤ y → wOp n M (fun M => f_X11_room M (nI j) y) (fun M => f_X12_room M (nI j) y) := by
      intro h
      have y0 : ¬ y = 0 := by
        intro e
        subst e
        rcases h with h | h
        · exact absurd h (by decide)
        · exact absurd h (by decide)
      have y1 : ¬ y = 1 := by
        intro e
        subst e
        rcases h with h | h
        · exact absurd h (by decide)
        · exact absurd h (by decide)
      refine wOp_same X (-1) ?_ ?_
      · show f_X11_room M (nI j) y = _
        rw [hc, if_neg y0, if_neg y1]
      · show f_X12_room M (nI j) y = _
        rw [hrr, r_isBitF h, zbi_s, if_pos rfl]
    rcases pk_ix y (n := 2) (by decide) with h | h | ⟨k, hk, rfl⟩
    · exact no2 (Or.inl h)
    · exact no2 (Or.inr h)
    · rw [r_isBitT hk, zbi_s, if_neg (by decide)] at hrr
      obtain rfl | rfl : k = 0 ∨ k = 1 := by omega
      · refine wOp_same X (aRoom (M.1 40) (M.1 41) (nI j) G) ?_ ?_
        · show f_X11_room M (nI j) (nI 0) = _
          rw [hc, if_pos (by rfl), c_roomAt hx.2.1 hx.2.2.1, zbi_s]
        · show f_X12_room M (nI j) (nI 0) = _
          rw [hrr, if_pos (by rfl), r0_inRoom hr, zbi_s, ← aRoom_rel (s := (M.1 40, M.1 41)) (s' := (fun g => M.1 28 (20 + g), fun g => M.1 28 (29 + g))) a2.si]
      · refine wOp_same X (aBulk (M.1 38) (M.1 4) (M.1 40) (M.1 41) (nI j) G) ?_ ?_
        · show f_X11_room M (nI j) (nI 1) = _
          rw [hc, if_neg (by decide), if_pos (by rfl), c_bulkAt hx.2.1 hx.2.2.1 hx.2.2.2.1 hx.2.2.2.2.1 hx.2.2.2.2.2.1, zbi_s]
        · show f_X12_room M (nI j) (nI 1) = _
          have e := aBulk_rel (p := nI j) (a2.ev a1) a2.si
          have e : aBulk (M.1 38) (M.1 4) (M.1 40) (M.1 41) (nI j) G = aBulk (fun g => M.1 28 (2 + g)) (M.1 26) (fun g => M.1 28 (20 + g)) (fun g => M.1 28 (29 + g)) (nI j) G := e
          rw [hrr, if_neg (by decide), r0_bulkIn hr, zbi_s, e]
theorem p_now {n : Nat} {M : zM} (X : wI n M) (x : Int32) : wOp n M (fun M => f_X11_now M x) (fun M => f_X12_now M x) := by
  obtain ⟨R, W, H, S, a1, ⟨G, K, a2⟩, a3, a4, a5, a6, a7⟩ := id X
  have hx := a2.cx a1 (by omega)
  have hr := a2.rx a1 (by omega)
  have hw : ∀ w : Int32, aWho (M.1 40) w G = aWho (fun g => M.1 28 (20 + g)) w G := fun w => aWho_rel (fun g hg => (a2.si g hg).1)
  have hld : aLoad (M.1 38) (M.1 5) (M.1 40) G = aLoad (fun g => M.1 28 (2 + g)) (M.1 27) (fun g => M.1 28 (20 + g)) G := aLoad_rel (a2.ev a1) (fun g hg => (a2.si g hg).1)
  obtain ⟨o, z, z1, z2, z3, z4, z5, z6⟩ := a3
  have g5 : M.1 37 1 = nI K := a2.1.2.2.2.2.1
  have g6 : M.1 28 1 = nI K := a2.1.2.2.2.2.2
  by_cases h0 : x = 0
  · exact wOp_same X (nI K) (by show f_X11_now_0 x M = _; rw [f_X11_now_0, if_pos h0, g5]) (by show f_X12_now_0 x M = _; rw [f_X12_now_0, if_pos h0, zg_t (by decide), cl1, g6])
  by_cases h1 : x = 1
  · exact wOp_same X (aLoad (M.1 38) (M.1 5) (M.1 40) G) (by show f_X11_now_0 x M = _; rw [f_X11_now_0, if_neg h0, if_pos h1, c_load hx.2.1 hx.2.2.1 hx.2.2.2.1 hx.2.2.2.2.1 hx.2.2.2.2.2.1, zbi_s]) (by show f_X12_now_0 x M = _; rw [f_X12_now_0, if_neg h0, if_pos h1, r0_loadOn hr, zbi_s, hld])
  by_cases h2 : x = 2
  · exact wOp_same X (nI H + zbc (aWho (M.1 40) 1 G)) (by show f_X11_now_0 x M = _; rw [f_X11_now_0, if_neg h0, if_neg h1, if_pos h2, c_drag hx.2.1 hx.2.2.1, zbi_s, a1.2.1.2.2.1]) (by show f_X12_now_0 x M = _; rw [f_X12_now_0, if_neg h0, if_neg h1, if_pos h2, r0_dragOn hr, zbi_s, a1.2.2.1.2.2.1, hw])
  by_cases h3 : x = 3
  · exact wOp_same X (aWho (M.1 40) 0 G) (by show f_X11_now_0 x M = _; rw [f_X11_now_0, if_neg h0, if_neg h1, if_neg h2, if_pos h3, c_whoIs hx.2.1 hx.2.2.1, zbi_s]) (by show f_X12_now_0 x M = _; rw [f_X12_now_0, if_neg h0, if_neg h1, if_neg h2, if_pos h3, r0_those hr, zbi_s, hw])
  by_cases h4 : x = 4
  · exact wOp_same X (aWho (M.1 40) 2 G) (by show f_X11_now_0 x M = _; rw [f_X11_now_0, if_neg h0, if_neg h1, if_neg h2, if_neg h3, if_pos h4, c_whoIs hx.2.1 hx.2.2.1, zbi_s]) (by show f_X12_now_0 x M = _; rw [f_X12_now_0, if_neg h0, if_neg h1, if_neg h2, if_neg h3, if_pos h4, r0_those hr, zbi_s, hw])
  by_cases h5 : x = 5
  · obtain ⟨r, M1, M2, e1, e2, e3⟩ := p_sticks X a1 a2
    refine ⟨r, M1, M2, ?_, ?_, e3⟩
    · show f_X11_now_0 x M = _
      rw [f_X11_now_0, if_neg h0, if_neg h1, if_neg h2, if_neg h3, if_neg h4, if_pos h5]
      exact e1
    · show f_X12_now_0 x M1 = _
      rw [f_X12_now_0, if_neg h0, if_neg h1, if_neg h2, if_neg h3, if_neg h4, if_pos h5]
      exact e2
  by_cases h6 : x = 6
  · obtain ⟨r, M1, M2, e1, e2, e3⟩ := p_all X a1 a2
    refine ⟨r, M1, M2, ?_, ?_, e3⟩
    · show f_X11_now_0 x M = _
      rw [f_X11_now_0, if_neg h0, if_neg h1, if_neg h2, if_neg h3, if_neg h4, if_neg h5, if_pos h6]
      exact e1
    · show f_X12_now_0 x M1 = _
      rw [f_X12_now_0, if_neg h0, if_neg h1, if_neg h2, if_neg h3, if_neg h4, if_neg h5, if_pos h6]
      exact e2
  by_cases h7 : x = 7
  · exact wOp_same X (nI z) (by show f_X11_now_0 x M = _; rw [f_X11_now_0, if_neg h0, if_neg h1, if_neg h2, if_neg h3, if_neg h4, if_neg h5, if_neg h6, if_pos h7, z4]) (by show f_X12_now_0 x M = _; rw [f_X12_now_0, if_neg h0, if_neg h1, if_neg h2, if_neg h3, if_neg h4, if_neg h5, if_neg h6, if_pos h7, z5])
  · exact wOp_same X (-1) (by show f_X11_now_0 x M = _; rw [f_X11_now_0, if_neg h0, if_neg h1, if_neg h2, if_neg h3, if_neg h4, if_neg h5, if_neg h6, if_neg h7]) (by show f_X12_now_0 x M = _; rw [f_X12_now_0, if_neg h0, if_neg h1, if_neg h2, if_neg h3, if_neg h4, if_neg h5, if_neg h6, if_neg h7])
theorem p_goer {n : Nat} {M : zM} (X : wI n M) (x y : Int32) : wOp n M (fun M => f_X11_goer M x y) (fun M => f_X12_goer M x y) := by
  obtain ⟨R, W, H, S, a1, ⟨G, K, a2⟩, a3, a4, a5, a6, a7⟩ := id X
  have hx := a2.cx a1 (by omega)
  have hr := a2.rx a1 (by omega)
  have h9 := hx.2.2.1
  have no : x < 0 ∨ nI G ≤ x → wOp n M (fun M => f_X11_goer M x y) (fun M => f_X12_goer M x y) := by
    intro h
    refine wOp_same X (-1) ?_ ?_
    · show f_X11_goer_0 x y M = _
      rw [f_X11_goer_0, c_noGoer hx.2.1 h, zbi_s, if_pos rfl]
    · show f_X12_goer_0 x y M = _
      rw [f_X12_goer_0, r_isGoerF hr.2.1 h9 h, zbi_s, if_pos rfl]
  rcases pk_ix x (n := G) (by omega) with h | h | ⟨g, hg, rfl⟩
  · exact no (Or.inl h)
  · exact no (Or.inr h)
  obtain ⟨q1, q2, q3, q4, q5, q6, q7, q8, q9⟩ := a2.2.1 g hg
  have q2 : M.1 38 g = M.1 28 (2 + g) := q2
  have q4 : M.1 39 g = M.1 28 (11 + g) := q4
  have q5 : M.1 40 g = M.1 28 (20 + g) := q5
  have q6 : M.1 41 g = M.1 28 (29 + g) := q6
  by_cases h0 : y = 0
  · exact wOp_same X (M.1 38 g) (by show f_X11_goer_0 _ y M = _; rw [f_X11_goer_0, c_hasGoer hx.2.1 h9 hg, zbi_s, if_neg (by decide), if_pos h0, zg_in (by omega) (by decide), nI_clamp (by omega)]) (by show f_X12_goer_0 _ y M = _; rw [f_X12_goer_0, r_isGoerT hr.2.1 h9 hg, zbi_s, if_neg (by decide), if_pos h0, ix2, zg_in (by omega) (by decide), nI_clamp (by omega), q2])
  by_cases h1 : y = 1
  · exact wOp_same X (M.1 39 g) (by show f_X11_goer_0 _ y M = _; rw [f_X11_goer_0, c_hasGoer hx.2.1 h9 hg, zbi_s, if_neg (by decide), if_neg h0, if_pos h1, zg_in (by omega) (by decide), nI_clamp (by omega)]) (by show f_X12_goer_0 _ y M = _; rw [f_X12_goer_0, r_isGoerT hr.2.1 h9 hg, zbi_s, if_neg (by decide), if_neg h0, if_pos h1, ix11, zg_in (by omega) (by decide), nI_clamp (by omega), q4])
  by_cases h2 : y = 2
  · exact wOp_same X (M.1 40 g) (by show f_X11_goer_0 _ y M = _; rw [f_X11_goer_0, c_hasGoer hx.2.1 h9 hg, zbi_s, if_neg (by decide), if_neg h0, if_neg h1, if_pos h2, zg_in (by omega) (by decide), nI_clamp (by omega)]) (by show f_X12_goer_0 _ y M = _; rw [f_X12_goer_0, r_isGoerT hr.2.1 h9 hg, zbi_s, if_neg (by decide), if_neg h0, if_neg h1, if_pos h2, ix20, zg_in (by omega) (by decide), nI_clamp (by omega), q5])
  by_cases h3 : y = 3
  · by_cases hin : M.1 40 g = 1
    · exact wOp_same X (M.1 41 g) (by show f_X11_goer_0 _ y M = _; rw [f_X11_goer_0, c_hasGoer hx.2.1 h9 hg, zbi_s, if_neg (by decide), if_neg h0, if_neg h1, if_neg h2, if_pos h3, zg_in (by omega) (by decide), nI_clamp (by omega), if_pos hin, zg_in (by omega) (by decide)]) (by show f_X12_goer_0 _ y M = _; rw [f_X12_goer_0, r_isGoerT hr.2.1 h9 hg, zbi_s, if_neg (by decide), if_neg h0, if_neg h1, if_neg h2, if_pos h3, ix20, zg_in (j := 20 + g) (by omega) (by decide), nI_clamp (n := 20 + g) (by omega), if_pos (by rw [← q5]; exact hin), ix29, zg_in (by omega) (by decide), nI_clamp (by omega), q6])
    · exact wOp_same X (-9) (by show f_X11_goer_0 _ y M = _; rw [f_X11_goer_0, c_hasGoer hx.2.1 h9 hg, zbi_s, if_neg (by decide), if_neg h0, if_neg h1, if_neg h2, if_pos h3, zg_in (by omega) (by decide), nI_clamp (by omega), if_neg hin]) (by show f_X12_goer_0 _ y M = _; rw [f_X12_goer_0, r_isGoerT hr.2.1 h9 hg, zbi_s, if_neg (by decide), if_neg h0, if_neg h1, if_neg h2, if_pos h3, ix20, zg_in (j := 20 + g) (by omega) (by decide), nI_clamp (n := 20 + g) (by omega), if_neg (by rw [← q5]; exact hin)])
  by_cases h4 : y = 4
  · by_cases hin : M.1 40 g = 0
    · have ea := aAhead_rel (si := M.1 39) (wh := M.1 40) (tu := M.1 42) (si' := fun g => M.1 28 (11 + g)) (wh' := fun g => M.1 28 (20 + g)) (sa := fun g => M.1 28 (38 + g)) (fun g hg => (a2.ev a1 g hg).1) (fun g hg => (a2.si g hg).1) a2.or hg hin
      exact wOp_same X (aAhead (M.1 39) (M.1 40) (M.1 42) g G) (by show f_X11_goer_0 _ y M = _; rw [f_X11_goer_0, c_hasGoer hx.2.1 h9 hg, zbi_s, if_neg (by decide), if_neg h0, if_neg h1, if_neg h2, if_neg h3, if_pos h4, zg_in (by omega) (by decide), nI_clamp (by omega), if_pos hin, c_ahead hx.2.1 h9 hg, zbi_s]) (by show f_X12_goer_0 _ y M = _; rw [f_X12_goer_0, r_isGoerT hr.2.1 h9 hg, zbi_s, if_neg (by decide), if_neg h0, if_neg h1, if_neg h2, if_neg h3, if_pos h4, ix20, zg_in (j := 20 + g) (by omega) (by decide), nI_clamp (n := 20 + g) (by omega), if_pos (by rw [← q5]; exact hin), r0_aheadOf hr (by omega), zbi_s, ea])
    · exact wOp_same X (-9) (by show f_X11_goer_0 _ y M = _; rw [f_X11_goer_0, c_hasGoer hx.2.1 h9 hg, zbi_s, if_neg (by decide), if_neg h0, if_neg h1, if_neg h2, if_neg h3, if_pos h4, zg_in (by omega) (by decide), nI_clamp (by omega), if_neg hin]) (by show f_X12_goer_0 _ y M = _; rw [f_X12_goer_0, r_isGoerT hr.2.1 h9 hg, zbi_s, if_neg (by decide), if_neg h0, if_neg h1, if_neg h2, if_neg h3, if_pos h4, ix20, zg_in (j := 20 + g) (by omega) (by decide), nI_clamp (n := 20 + g) (by omega), if_neg (by rw [← q5]; exact hin)])
  by_cases h5 : y = 5
  · obtain ⟨r, M1, M2, e1, e2, e3⟩ := p_when X a1 a2 hg
    refine ⟨r, M1, M2, ?_, ?_, e3⟩
    · show f_X11_goer_0 _ y M = _
      rw [f_X11_goer_0, c_hasGoer hx.2.1 h9 hg, zbi_s, if_neg (by decide), if_neg h0, if_neg h1, if_neg h2, if_neg h3, if_neg h4, if_pos h5]
      exact e1
    · show f_X12_goer_0 _ y M1 = _
      have hG1 : M1.1 28 0 = nI G := by
        obtain ⟨M1', c1, c2, c3, c4⟩ := p_lay a2
        obtain ⟨M3', d1', d2', d3', Y1'⟩ := c4 M1' (c2 28 (by omega))
        have P1 : wP M1' R W H S := wP_tr a1 (c2 _ (by omega)) (c2 _ (by omega)) (c2 _ (by omega)) (c2 _ (by omega)) (c2 _ (by omega)) (fun j _ => by rw [c2 _ (by omega)])
        obtain ⟨x, v1, s1, _, _, hxx, hxe, hc, _⟩ := run_when P1 (fun q h => d2' q (by omega)) Y1' hg
        have e1 : zbi (f_X11_whenNow_0 (nI g) M) (fun r23 M24 => zbi (f_X11_orNone M24 r23) (fun r26 M27 => some (r26, M27))) = some (r, M1) := e1
        rw [f_X11_whenNow_0, c1, zbv_s, hc, zbi_s, zbi_s, c_orNone hxx, zbi_s] at e1
        have e4 : zwp (zs M1' 43 1 v1) 43 s1 = M1 := congrArg Prod.snd (Option.some.inj e1)
        rw [← e4, zwp_st_ne (by omega), c2 28 (by omega)]
        exact hr.2.1
      rw [f_X12_goer_0, r_isGoerT hG1 h9 hg, zbi_s, if_neg (by decide), if_neg h0, if_neg h1, if_neg h2, if_neg h3, if_neg h4, if_pos h5]
      have e2 : f_X12_when M1 (nI g) = some (r, M2) := e2
      rw [e2, zbi_s]
  · exact wOp_same X (-1) (by show f_X11_goer_0 _ y M = _; rw [f_X11_goer_0, c_hasGoer hx.2.1 h9 hg, zbi_s, if_neg (by decide), if_neg h0, if_neg h1, if_neg h2, if_neg h3, if_neg h4, if_neg h5]) (by show f_X12_goer_0 _ y M = _; rw [f_X12_goer_0, r_isGoerT hr.2.1 h9 hg, zbi_s, if_neg (by decide), if_neg h0, if_neg h1, if_neg h2, if_neg h3, if_neg h4, if_neg h5])
