/-! rate, trace, keep, back, undo -/
theorem zsL_s (M : zM) (k j : Nat) (v : Int64) : (zsL M k j v).2 k j = v := by
  unfold zsL zrL vp_updL
  simp
theorem zsL_n {M : zM} {k j : Nat} {v : Int64} {q : Nat} (h : q ≠ k) : (zsL M k j v).2 q = M.2 q := by
  unfold zsL zrL
  simp [h]
theorem zsL_zsL (M : zM) (k j : Nat) (v w : Int64) : zsL (zsL M k j v) k j w = zsL M k j w := by
  unfold zsL zrL vp_updL
  refine Prod.ext rfl ?_
  funext q
  by_cases h : q = k
  · subst h
    simp
    funext i
    by_cases hi : i = j <;> simp [hi]
  · simp [h]
theorem c_wb {M : zM} {G S g : Nat} (X : zCx M 37 G S) (hg : g < G) : f_X5_bulkOf M 37 (nI g) = some (M.1 4 (M.1 38 g).toNatClampNeg, M) := by
  obtain ⟨h1, h2, h3, h4, h5, h6, h7, h8⟩ := X
  show f_X5_bulkOf_0 37 (nI g) M = _
  rw [f_X5_bulkOf_0, c_hasGoer h2 h3 hg, zbi_s, if_neg (by decide), zg_in (by omega) (by decide), nI_clamp (n := g) (by omega), c_gbulk h4 h5 h6 hg, zbi_s]
theorem c_wp {M : zM} {G S g : Nat} (X : zCx M 37 G S) (hg : g < G) : f_X5_pushOf M 37 (nI g) = some (M.1 5 (M.1 38 g).toNatClampNeg, M) := by
  obtain ⟨h1, h2, h3, h4, h5, h6, h7, h8⟩ := X
  show f_X5_pushOf_0 37 (nI g) M = _
  rw [f_X5_pushOf_0, c_hasGoer h2 h3 hg, zbi_s, if_neg (by decide), zg_in (by omega) (by decide), nI_clamp (n := g) (by omega), c_gpush h4 h5 h6 hg, zbi_s]
theorem c_w2 {M : zM} {G S g : Nat} (X : zCx M 37 G S) (hg : g < G) (c : Nat) : f_X2_worth M c 37 (nI g) = some (M.1 4 (M.1 38 g).toNatClampNeg, zsL M c 0 (M.2 c 0 + 1)) := by
  show f_X2_worth_0 c 37 (nI g) M = _
  rw [f_X2_worth_0, c_wb (show zCx (zsL M c 0 (M.2 c 0 + 1)) 37 G S from X) hg, zbi_s]
  rfl
theorem c_w0 {M : zM} {G S g : Nat} (X : zCx M 37 G S) (hg : g < G) (c : Nat) : f_X0_worth M c 37 (nI g) = some (M.1 4 (M.1 38 g).toNatClampNeg + M.1 5 (M.1 38 g).toNatClampNeg, zsL M c 0 (M.2 c 0 + 10 + 1)) := by
  show f_X0_worth_0 c 37 (nI g) M = _
  rw [f_X0_worth_0, c_w2 (show zCx (zsL M c 0 (M.2 c 0 + 10)) 37 G S from X) hg, zbi_s, c_wp (show zCx (zsL (zsL M c 0 (M.2 c 0 + 10)) c 0 ((zsL M c 0 (M.2 c 0 + 10)).2 c 0 + 1)) 37 G S from X) hg, zbi_s, zsL_zsL, zsL_s]
  rfl
theorem c_w4 {M : zM} {G S g : Nat} (X : zCx M 37 G S) (hg : g < G) (c : Nat) : f_X4_worth M c 37 (nI g) = some (M.1 4 (M.1 38 g).toNatClampNeg - zbc (aWho (M.1 40) 0 G), zsL M c 0 (M.2 c 0 + 100 + 1)) := by
  show f_X4_worth_0 c 37 (nI g) M = _
  rw [f_X4_worth_0, c_w2 (show zCx (zsL M c 0 (M.2 c 0 + 100)) 37 G S from X) hg, zbi_s, c_are (M := zsL (zsL M c 0 (M.2 c 0 + 100)) c 0 ((zsL M c 0 (M.2 c 0 + 100)).2 c 0 + 1)) X.2.1 X.2.2.1, zbi_s, zsL_zsL, zsL_s]
  rfl
theorem c_w1 {M : zM} {G S g : Nat} (X : zCx M 37 G S) (hg : g < G) (c : Nat) : f_X1_worth M c 37 (nI g) = some (2 * (M.1 4 (M.1 38 g).toNatClampNeg + M.1 5 (M.1 38 g).toNatClampNeg), zsL M c 0 (M.2 c 0 + 1000 + 10 + 1)) := by
  show f_X1_worth_0 c 37 (nI g) M = _
  rw [f_X1_worth_0, c_w0 (show zCx (zsL M c 0 (M.2 c 0 + 1000)) 37 G S from X) hg, zbi_s, zsL_zsL, zsL_s]
  rfl
theorem c_w3 {M : zM} {G S g : Nat} (X : zCx M 37 G S) (hg : g < G) (c : Nat) : f_X3_worth M c 37 (nI g) = some (M.1 4 (M.1 38 g).toNatClampNeg - zbc (aWho (M.1 40) 0 G) + nI g, zsL M c 0 (M.2 c 0 + 10000 + 100 + 1)) := by
  show f_X3_worth_0 c 37 (nI g) M = _
  rw [f_X3_worth_0, c_w4 (show zCx (zsL M c 0 (M.2 c 0 + 10000)) 37 G S from X) hg, zbi_s, zsL_zsL, zsL_s]
  rfl
theorem c_w9 {M : zM} {G S g : Nat} (X : zCx M 37 G S) (hg : g < G) (c : Nat) : f_X9_worth M c 37 (nI g) = some (M.1 4 (M.1 38 g).toNatClampNeg + M.1 37 1, zsL M c 0 (M.2 c 0 + 100000 + 1)) := by
  show f_X9_worth_0 c 37 (nI g) M = _
  rw [f_X9_worth_0, c_w2 (show zCx (zsL M c 0 (M.2 c 0 + 100000)) 37 G S from X) hg, zbi_s, zsL_zsL, zsL_s]
  rfl
theorem r_wD {M : zM} {G S g : Nat} (X : zRx M 28 G S) (hg : g < G) : f_X12_asDoor M (nI g) = some (M.1 26 (M.1 28 (2 + g)).toNatClampNeg, zsL M 25 14 (M.2 25 14 + 1)) := by
  show f_X12_asDoor_0 (nI g) M = _
  rw [f_X12_asDoor_0, r0_bulkOf (show zRx (zsL M 25 14 (M.2 25 14 + 1)) 28 G S from X) hg, zbi_s]
  rfl
theorem r_wB {M : zM} {G S g : Nat} (X : zRx M 28 G S) (hg : g < G) : f_X12_asBank M (nI g) = some (M.1 26 (M.1 28 (2 + g)).toNatClampNeg + M.1 27 (M.1 28 (2 + g)).toNatClampNeg, zsL M 25 14 (M.2 25 14 + 10 + 1)) := by
  have h9 := X.2.2.1
  have h6 := X.2.2.2.1
  obtain ⟨x, hx, e⟩ := X.2.2.2.2 g hg
  have e : M.1 28 (2 + g) = nI x := e
  show f_X12_asBank_0 (nI g) M = _
  rw [f_X12_asBank_0, r_wD (show zRx (zsL M 25 14 (M.2 25 14 + 10)) 28 G S from X) hg, zbi_s, zsL_zsL, zsL_s, ix2, zg_in (j := 2 + g) (by omega) (by decide), nI_clamp (n := 2 + g) (by omega)]
  show zg (zin (M.1 28 (2 + g)) 6) _ = _
  rw [zg_t (show zin (M.1 28 (2 + g)) 6 = true by rw [e]; exact zin_t (by omega) (by decide))]
  rfl
theorem r_wH {M : zM} {G S g : Nat} (X : zRx M 28 G S) (hg : g < G) : f_X12_asHotel M (nI g) = some (M.1 26 (M.1 28 (2 + g)).toNatClampNeg - zbc (aWho (fun g => M.1 28 (20 + g)) 0 G), zsL M 25 14 (M.2 25 14 + 100 + 1)) := by
  show f_X12_asHotel_0 (nI g) M = _
  rw [f_X12_asHotel_0, r_wD (show zRx (zsL M 25 14 (M.2 25 14 + 100)) 28 G S from X) hg, zbi_s, zsL_zsL, zsL_s, r0_those (show zRx (zsL M 25 14 (M.2 25 14 + 100 + 1)) 28 G S from X), zbi_s, r_bitsWho _ _ X.2.2.1, zbi_s]
  rfl
theorem wTc_add {M : zM} (T : wTc M) (k : Nat) (hk : k < 6) (d d1 d2 : Int64) (e1 : d1 = M.2 (19 + k) 0 + d) (e2 : d2 = M.2 25 14 + d) : wTc (zsL (zsL M (19 + k) 0 d1) 25 14 d2) := by
  unfold wTc at *
  rw [zsL_s, zsL_n (q := 19) (k := 25) (by decide), zsL_n (q := 20) (k := 25) (by decide), zsL_n (q := 21) (k := 25) (by decide), zsL_n (q := 22) (k := 25) (by decide), zsL_n (q := 23) (k := 25) (by decide), zsL_n (q := 24) (k := 25) (by decide), e2, T]
  obtain rfl | rfl | rfl | rfl | rfl | rfl : k = 0 ∨ k = 1 ∨ k = 2 ∨ k = 3 ∨ k = 4 ∨ k = 5 := by omega
  · have e1 : d1 = M.2 19 0 + d := e1
    rw [zsL_s, zsL_n (q := 20) (by decide), zsL_n (q := 21) (by decide), zsL_n (q := 22) (by decide), zsL_n (q := 23) (by decide), zsL_n (q := 24) (by decide), e1]
    ac_rfl
  · have e1 : d1 = M.2 20 0 + d := e1
    rw [zsL_s, zsL_n (q := 19) (by decide), zsL_n (q := 21) (by decide), zsL_n (q := 22) (by decide), zsL_n (q := 23) (by decide), zsL_n (q := 24) (by decide), e1]
    ac_rfl
  · have e1 : d1 = M.2 21 0 + d := e1
    rw [zsL_s, zsL_n (q := 19) (by decide), zsL_n (q := 20) (by decide), zsL_n (q := 22) (by decide), zsL_n (q := 23) (by decide), zsL_n (q := 24) (by decide), e1]
    ac_rfl
  · have e1 : d1 = M.2 22 0 + d := e1
    rw [zsL_s, zsL_n (q := 19) (by decide), zsL_n (q := 20) (by decide), zsL_n (q := 21) (by decide), zsL_n (q := 23) (by decide), zsL_n (q := 24) (by decide), e1]
    ac_rfl
  · have e1 : d1 = M.2 23 0 + d := e1
    rw [zsL_s, zsL_n (q := 19) (by decide), zsL_n (q := 20) (by decide), zsL_n (q := 21) (by decide), zsL_n (q := 22) (by decide), zsL_n (q := 24) (by decide), e1]
    ac_rfl
  · have e1 : d1 = M.2 24 0 + d := e1
    rw [zsL_s, zsL_n (q := 19) (by decide), zsL_n (q := 20) (by decide), zsL_n (q := 21) (by decide), zsL_n (q := 22) (by decide), zsL_n (q := 23) (by decide), e1]
    ac_rfl
theorem p_rate {n : Nat} {M : zM} (X : wI n M) (x y : Int32) : wOp n M (fun M => f_X11_rate M x y) (fun M => f_X12_rate M x y) := by
  obtain ⟨R, W, H, S, a1, ⟨G, K, a2⟩, a3, a4, a5, a6, a7⟩ := id X
  have hx := a2.cx a1 (by omega)
  have hr := a2.rx a1 (by omega)
  have h9 := hx.2.2.1
  have no : y < 0 ∨ nI G ≤ y → wOp n M (fun M => f_X11_rate M x y) (fun M => f_X12_rate M x y) := by
    intro h
    refine wOp_same X (-1000000) ?_ ?_
    · show f_X11_rate_0 x y M = _
      rw [f_X11_rate_0]
      by_cases h1 : x < 0
      · rw [if_pos h1]; rfl
      · rw [if_neg h1]
        by_cases h2 : (Int32.ofNat 6) ≤ x
        · rw [if_pos h2]; rfl
        · rw [if_neg h2, c_noGoer hx.2.1 h, zbi_s, if_pos rfl]; rfl
    · show f_X12_rate_0 x y M = _
      rw [f_X12_rate_0, r_isGoerF hr.2.1 h9 h, zbi_s, if_pos rfl]
  rcases pk_ix y (n := G) (by omega) with h | h | ⟨g, hg, rfl⟩
  · exact no (Or.inl h)
  · exact no (Or.inr h)
  have no2 : x < 0 ∨ nI 6 ≤ x → wOp n M (fun M => f_X11_rate M x (nI g)) (fun M => f_X12_rate M x (nI g)) := by
    intro h
    have ne : ∀ k, k < 6 → ¬ x = nI k := by
      intro k hk e
      subst e
      rcases h with h | h
      · exact nI_pos (by omega) h
      · exact nI_ge hk (by decide) h
    refine wOp_same X (-1000000) ?_ ?_
    · show f_X11_rate_0 x _ M = _
      rw [f_X11_rate_0]
      by_cases h1 : x < 0
      · rw [if_pos h1]; rfl
      · rw [if_neg h1, if_pos (show (Int32.ofNat 6) ≤ x from h.resolve_left h1)]; rfl
    · show f_X12_rate_0 x _ M = _
      rw [f_X12_rate_0, r_isGoerT hr.2.1 h9 hg, zbi_s, if_neg (by decide), if_neg (show ¬ x = (0 : Int32) from ne 0 (by decide)), if_neg (show ¬ x = (1 : Int32) from ne 1 (by decide)), if_neg (show ¬ x = (2 : Int32) from ne 2 (by decide)), if_neg (show ¬ x = (3 : Int32) from ne 3 (by decide)), if_neg (show ¬ x = (4 : Int32) from ne 4 (by decide)), if_neg (show ¬ x = (5 : Int32) from ne 5 (by decide))]
  rcases pk_ix x (n := 6) (by decide) with h | h | ⟨k, hk, rfl⟩
  · exact no2 (Or.inl h)
  · exact no2 (Or.inr h)
  have hc : f_X11_rate M (nI k) (nI g) = zbi (f_worth M k 37 (nI g)) (fun r9 M10 => some (r9, M10)) := by
    show f_X11_rate_0 _ _ M = _
    rw [f_X11_rate_0, if_neg (nI_pos (by omega)), if_neg (show ¬ (Int32.ofNat 6) ≤ nI k from nI_ge hk (by decide)), c_hasGoer hx.2.1 h9 hg, zbi_s, if_neg (by decide), zg_in (by omega) (by decide), nI_clamp (by omega)]
  have eb : M.1 4 (M.1 38 g).toNatClampNeg = M.1 26 (M.1 28 (2 + g)).toNatClampNeg := (a2.ev a1 g hg).2.1
  have ep : M.1 5 (M.1 38 g).toNatClampNeg = M.1 27 (M.1 28 (2 + g)).toNatClampNeg := (a2.ev a1 g hg).2.2
  have ew : aWho (M.1 40) 0 G = aWho (fun g => M.1 28 (20 + g)) 0 G := aWho_rel (fun g hg => (a2.si g hg).1)
  have ek : M.1 37 1 = M.1 28 1 := (a2.1.2.2.2.2.1 : M.1 37 1 = nI K).trans a2.1.2.2.2.2.2.symm
  have fin : ∀ (r : Int32) (d d1 d2 : Int64), f_worth M k 37 (nI g) = some (r, zsL M (19 + k) 0 d1) → d1 = M.2 (19 + k) 0 + d → d2 = M.2 25 14 + d → f_X12_rate (zsL M (19 + k) 0 d1) (nI k) (nI g) = some (r, zsL (zsL M (19 + k) 0 d1) 25 14 d2) → wOp n M (fun M => f_X11_rate M (nI k) (nI g)) (fun M => f_X12_rate M (nI k) (nI g)) := by
    intro r d d1 d2 h1 h2 h3 h4
    refine ⟨r, _, _, ?_, h4, wI_long (wI_mono (Nat.le_succ _) X) rfl (wTc_add a7 k hk d d1 d2 h2 h3)⟩
    show f_X11_rate M (nI k) (nI g) = _
    rw [hc, h1, zbi_s]
  have hL : ∀ d1, zRx (zsL M (19 + k) 0 d1) 28 G S := fun d1 => hr
  have l25 : ∀ d1, (zsL M (19 + k) 0 d1).2 25 14 = M.2 25 14 := fun d1 => by rw [zsL_n (by omega)]
  obtain rfl | rfl | rfl | rfl | rfl | rfl : k = 0 ∨ k = 1 ∨ k = 2 ∨ k = 3 ∨ k = 4 ∨ k = 5 := by omega
  · refine fin _ 1 _ _ (c_w2 hx hg 19) rfl rfl ?_
    show f_X12_rate_0 _ _ _ = _
    rw [f_X12_rate_0, r_isGoerT (hL _).2.1 h9 hg, zbi_s, if_neg (by decide), if_pos (by rfl), r_wD (hL _) hg, zbi_s, l25]
    show some (M.1 26 _, _) = some (M.1 4 _, _)
    rw [eb]
    rfl
  · refine fin _ (10 + 1) _ _ (c_w0 hx hg 20) (Int64.add_assoc _ _ _) rfl ?_
    show f_X12_rate_0 _ _ _ = _
    rw [f_X12_rate_0, r_isGoerT (hL _).2.1 h9 hg, zbi_s, if_neg (by decide), if_neg (by decide), if_pos (by rfl), r_wB (hL _) hg, zbi_s, l25, Int64.add_assoc (M.2 25 14)]
    show some (M.1 26 _ + M.1 27 _, _) = some (M.1 4 _ + M.1 5 _, _)
    rw [eb, ep]
    rfl
  · refine fin _ (100 + 1) _ _ (c_w4 hx hg 21) (Int64.add_assoc _ _ _) rfl ?_
    show f_X12_rate_0 _ _ _ = _
    rw [f_X12_rate_0, r_isGoerT (hL _).2.1 h9 hg, zbi_s, if_neg (by decide), if_neg (by decide), if_neg (by decide), if_pos (by rfl), r_wH (hL _) hg, zbi_s, l25, Int64.add_assoc (M.2 25 14)]
    show some (M.1 26 _ - zbc (aWho (fun g => M.1 28 (20 + g)) 0 G), _) = some (M.1 4 _ - zbc (aWho (M.1 40) 0 G), _)
    rw [eb, ew]
    rfl
  · refine fin _ (1000 + (10 + 1)) _ _ (c_w1 hx hg 22) (by rw [Int64.add_assoc, Int64.add_assoc]) rfl ?_
    show f_X12_rate_0 _ _ _ = _
    rw [f_X12_rate_0, r_isGoerT (hL _).2.1 h9 hg, zbi_s, if_neg (by decide), if_neg (by decide), if_neg (by decide), if_neg (by decide), if_pos (by rfl), r_wB (show zRx (zsL (zsL M (19 + 3) 0 _) 25 14 _) 28 G S from hr) hg, zbi_s, zsL_zsL, zsL_s, l25, Int64.add_assoc (M.2 25 14 + 1000), Int64.add_assoc (M.2 25 14)]
    show some (2 * (M.1 26 _ + M.1 27 _), _) = some (2 * (M.1 4 _ + M.1 5 _), _)
    rw [eb, ep]
    rfl
  · refine fin _ (10000 + (100 + 1)) _ _ (c_w3 hx hg 23) (by rw [Int64.add_assoc, Int64.add_assoc]) rfl ?_
    show f_X12_rate_0 _ _ _ = _
    rw [f_X12_rate_0, r_isGoerT (hL _).2.1 h9 hg, zbi_s, if_neg (by decide), if_neg (by decide), if_neg (by decide), if_neg (by decide), if_neg (by decide), if_pos (by rfl), r_wH (show zRx (zsL (zsL M (19 + 4) 0 _) 25 14 _) 28 G S from hr) hg, zbi_s, zsL_zsL, zsL_s, l25, Int64.add_assoc (M.2 25 14 + 10000), Int64.add_assoc (M.2 25 14)]
    show some (M.1 26 _ - zbc (aWho (fun g => M.1 28 (20 + g)) 0 G) + nI g, _) = some (M.1 4 _ - zbc (aWho (M.1 40) 0 G) + nI g, _)
    rw [eb, ew]
    rfl
  · refine fin _ (100000 + 1) _ _ (c_w9 hx hg 24) (Int64.add_assoc _ _ _) rfl ?_
    show f_X12_rate_0 _ _ _ = _
    rw [f_X12_rate_0, r_isGoerT (hL _).2.1 h9 hg, zbi_s, if_neg (by decide), if_neg (by decide), if_neg (by decide), if_neg (by decide), if_neg (by decide), if_neg (by decide), if_pos (by rfl), r_wD (show zRx (zsL (zsL M (19 + 5) 0 _) 25 14 _) 28 G S from hr) hg, zbi_s, zsL_zsL, zsL_s, l25, zg_t (by decide), cl1, Int64.add_assoc (M.2 25 14)]
    show some (M.1 26 _ + M.1 28 1, _) = some (M.1 4 _ + M.1 37 1, _)
    rw [eb, ek]
    rfl
theorem p_trace {n : Nat} {M : zM} (X : wI n M) : ∃ r M1 M2, f_X11_trace M = some (r, M1) ∧ f_X12_trace M1 = some (r, M2) ∧ wI (n + 1) M2 := by
  obtain ⟨R, W, H, S, a1, a2, a3, a4, a5, a6, a7⟩ := id X
  refine ⟨M.2 25 14, M, M, ?_, rfl, wI_mono (Nat.le_succ _) X⟩
  show f_X11_trace_4 (1993 + 1 + 1 + 1 + 1 + 1 + 1 + 1) M 0 0 = _
  have st : ∀ n a j, j < 6 → f_X11_trace_4 (n + 1) M a (nI j) = f_X11_trace_4 n M (a + M.2 (19 + j) 0) (nI (j + 1)) := by
    intro n a j hj
    rw [f_X11_trace_4, if_neg (show ¬ (Int32.ofNat 6) ≤ nI j from nI_ge hj (by decide)), zg_in (by omega) (by decide), nI_clamp (by omega), nI_1]
  rw [← nI_0, st _ _ 0 (by decide), st _ _ 1 (by decide), st _ _ 2 (by decide), st _ _ 3 (by decide), st _ _ 4 (by decide), st _ _ 5 (by decide), f_X11_trace_4, if_pos (by decide), a7, Int64.zero_add]
