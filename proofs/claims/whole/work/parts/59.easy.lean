/-! the calls that look, and those that change one thing -/
theorem r_in {M : zM} (x lo hi : Int64) : f_X12_in M x lo hi = some (if lo.toInt ≤ x.toInt ∧ x.toInt ≤ hi.toInt then 1 else 0, M) := by
  show f_X12_in_0 x lo hi M = _
  rw [f_X12_in_0]
  by_cases h1 : x < lo
  · rw [if_pos ((lg_cmp_lt _ _).mpr h1), if_neg]
    intro q
    rw [Int64.lt_iff_toInt_lt] at h1
    omega
  · rw [if_neg (fun q => h1 ((lg_cmp_lt _ _).mp q))]
    rw [Int64.lt_iff_toInt_lt] at h1
    by_cases h2 : hi < x
    · rw [if_pos ((lg_cmp_gt _ _).mpr h2), if_neg]
      intro q
      rw [Int64.lt_iff_toInt_lt] at h2
      omega
    · rw [if_neg (fun q => h2 ((lg_cmp_gt _ _).mp q)), if_pos]
      rw [Int64.lt_iff_toInt_lt] at h2
      omega
theorem r_inT {M : zM} {x : Int32} {lo hi : Int64} {a b : Int} (ha : lo.toInt = a) (hb : hi.toInt = b) (h : a ≤ x.toInt ∧ x.toInt ≤ b) : f_X12_in M x.toInt64 lo hi = some (1, M) := by
  rw [r_in, Int32.toInt_toInt64, ha, hb, if_pos h]
theorem r_inF {M : zM} {x : Int32} {lo hi : Int64} {a b : Int} (ha : lo.toInt = a) (hb : hi.toInt = b) (h : ¬ (a ≤ x.toInt ∧ x.toInt ≤ b)) : f_X12_in M x.toInt64 lo hi = some (0, M) := by
  rw [r_in, Int32.toInt_toInt64, ha, hb, if_neg h]
theorem neg_t {x : Int32} (h : x < 0) : x.toInt < 0 := (i_lt x 0).mp h
theorem big_t {x : Int32} {n : Nat} (h : nI n ≤ x) (hn : n < 2 ^ 31) : (n : Int) ≤ x.toInt := by
  have := (i_le _ _).mp h
  rw [nI_t hn] at this
  exact this
theorem big_nn {x : Int32} {n : Nat} (h : nI n ≤ x) (hn : n < 2 ^ 31) : ¬ x < 0 := by
  have := big_t h hn
  intro q
  have := neg_t q
  omega
theorem big_nle {x : Int32} {n m : Nat} (h : nI n ≤ x) (hn : n < 2 ^ 31) (hm : m < n) : ¬ x ≤ nI m := by
  have := big_t h hn
  intro q
  have := (i_le _ _).mp q
  rw [nI_t (by omega)] at this
  omega
theorem r_ixF {M : zM} {x : Int32} {S : Nat} (hS : S < 2 ^ 30) (h : x < 0 ∨ nI S ≤ x) : f_X12_in M x.toInt64 0 ((nI S - 1).toInt64) = some (0, M) := by
  refine r_inF (a := 0) (b := (S : Int) - 1) rfl ?_ ?_
  · rw [Int32.toInt_toInt64, fb_subI, nI_t (by omega)]
    · rfl
    · rw [nI_t (by omega)]; show -2147483648 ≤ (S : Int) - 1; omega
    · rw [nI_t (by omega)]; show (S : Int) - 1 < 2147483648; omega
  · intro q
    rcases h with h | h
    · have := neg_t h
      omega
    · have := big_t h (by omega)
      omega
theorem r_ixT {M : zM} {j S : Nat} (hS : S < 2 ^ 30) (h : j < S) : f_X12_in M (nI j).toInt64 0 ((nI S - 1).toInt64) = some (1, M) := by
  refine r_inT (a := 0) (b := (S : Int) - 1) rfl ?_ ?_
  · rw [Int32.toInt_toInt64, fb_subI, nI_t (by omega)]
    · rfl
    · rw [nI_t (by omega)]; show -2147483648 ≤ (S : Int) - 1; omega
    · rw [nI_t (by omega)]; show (S : Int) - 1 < 2147483648; omega
  · rw [nI_t (by omega)]
    omega
theorem r_isBitF {M : zM} {x : Int32} (h : x < 0 ∨ nI 2 ≤ x) : f_X12_isBit M x = some (0, M) := by
  show f_X12_isBit_0 x M = _
  rw [f_X12_isBit_0, r_inF (a := 0) (b := 1) rfl rfl, zbi_s, zg_t (by decide)]
  intro q
  rcases h with h | h
  · have := neg_t h
    omega
  · have := big_t h (by decide)
    omega
theorem r_isBitT {M : zM} {j : Nat} (h : j < 2) : f_X12_isBit M (nI j) = some (1, M) := by
  show f_X12_isBit_0 _ M = _
  rw [f_X12_isBit_0, r_inT (a := 0) (b := 1) rfl rfl, zbi_s, zg_t (by decide)]
  rw [nI_t (by omega)]
  omega
theorem r_isGoerF {M : zM} {x : Int32} {G : Nat} (hG : M.1 28 0 = nI G) (h9 : G ≤ 9) (h : x < 0 ∨ nI G ≤ x) : f_X12_isGoer M x = some (0, M) := by
  show f_X12_isGoer_0 x M = _
  rw [f_X12_isGoer_0, zg_t (by decide), sb_cl0, hG, r_ixF (by omega) h, zbi_s, zg_t (by decide)]
theorem r_isGoerT {M : zM} {g G : Nat} (hG : M.1 28 0 = nI G) (h9 : G ≤ 9) (h : g < G) : f_X12_isGoer M (nI g) = some (1, M) := by
  show f_X12_isGoer_0 _ M = _
  rw [f_X12_isGoer_0, zg_t (by decide), sb_cl0, hG, r_ixT (by omega) h, zbi_s, zg_t (by decide)]
theorem c_hasSF {M : zM} {x : Int32} {S : Nat} (hS : M.1 3 3 = nI S) (h : x < 0 ∨ nI S ≤ x) : f_X7_hasSort M 3 x = some (0, M) := by
  show f_X7_hasSort_0 3 x M = _
  rw [f_X7_hasSort_0]
  by_cases h1 : x < 0
  · rw [if_pos h1]
  · rw [if_neg h1, hS, if_pos (h.resolve_left h1)]
theorem c_hasST {M : zM} {j S : Nat} (hS : M.1 3 3 = nI S) (h6 : S ≤ 6) (h : j < S) : f_X7_hasSort M 3 (nI j) = some (1, M) := by
  show f_X7_hasSort_0 3 _ M = _
  rw [f_X7_hasSort_0, if_neg (nI_pos (by omega)), hS, if_neg (nI_ge h (by omega))]
/-- frames by groups -/
theorem wI_text {n : Nat} {M M' : zM} (X : wI n M) (h : ∀ q, q ≠ 1 → q ≠ 2 → q ≠ 34 → q ≠ 25 → M'.1 q = M.1 q) (h25 : ∀ j, j < 16 → M'.1 25 j = M.1 25 j) (hL : M'.2 = M.2) (T : wTx M') : wI n M' := by
  have g : ∀ q, (q ≠ 1 ∧ q ≠ 2 ∧ q ≠ 34 ∧ q ≠ 25) → M'.1 q = M.1 q := fun q a => h q a.1 a.2.1 a.2.2.1 a.2.2.2
  obtain ⟨R, W, H, S, a1, a2, a3, a4, a5, a6, a7⟩ := X
  refine ⟨R, W, H, S, wP_tr a1 (g _ (by omega)) (g _ (by omega)) (g _ (by omega)) (g _ (by omega)) (g _ (by omega)) (fun j hj => h25 j (by omega)), ?_, wPa_tr a3 (g _ (by omega)) (fun q _ _ => g _ (by omega)) (h25 _ (by omega)) (g _ (by omega)), wIm_tr a4 (g _ (by omega)) (fun q _ _ => g _ (by omega)) (g _ (by omega)) (g _ (by omega)), wSe_tr a5 (g _ (by omega)) (g _ (by omega)) (g _ (by omega)) (g _ (by omega)) (g _ (by omega)) (h25 _ (by omega)), T, wTc_tr a7 (fun q _ => by rw [hL])⟩
  refine wMoE_tr a2 ?_ ?_ (fun i j h1 h5 hj => ?_) (fun j hj => ?_)
  · show M'.1 37 1 = M.1 37 1; rw [g _ (by omega)]
  · show M'.1 37 2 = M.1 37 2; rw [g _ (by omega)]
  · show M'.1 (37 + i) j = M.1 (37 + i) j; rw [g _ (by omega)]
  · rw [g _ (by omega)]
theorem wI_seen {n : Nat} {M M' : zM} (X : wI n M) (h : ∀ q, ¬ (13 ≤ q ∧ q ≤ 16) → q ≠ 33 → q ≠ 25 → M'.1 q = M.1 q) (h25 : ∀ j, j ≠ 13 → M'.1 25 j = M.1 25 j) (hL : M'.2 = M.2) (T : wSe M') : wI n M' := by
  have g : ∀ q, (¬ (13 ≤ q ∧ q ≤ 16) ∧ q ≠ 33 ∧ q ≠ 25) → M'.1 q = M.1 q := fun q a => h q a.1 a.2.1 a.2.2
  obtain ⟨R, W, H, S, a1, a2, a3, a4, a5, a6, a7⟩ := X
  refine ⟨R, W, H, S, wP_tr a1 (g _ (by omega)) (g _ (by omega)) (g _ (by omega)) (g _ (by omega)) (g _ (by omega)) (fun j hj => h25 j (by omega)), ?_, wPa_tr a3 (g _ (by omega)) (fun q _ _ => g _ (by omega)) (h25 _ (by omega)) (g _ (by omega)), wIm_tr a4 (g _ (by omega)) (fun q _ _ => g _ (by omega)) (g _ (by omega)) (g _ (by omega)), T, wTx_tr a6 (by rw [g _ (by omega)]) (g _ (by omega)) (g _ (by omega)) (h25 _ (by omega)), wTc_tr a7 (fun q _ => by rw [hL])⟩
  refine wMoE_tr a2 ?_ ?_ (fun i j h1 h5 hj => ?_) (fun j hj => ?_)
  · show M'.1 37 1 = M.1 37 1; rw [g _ (by omega)]
  · show M'.1 37 2 = M.1 37 2; rw [g _ (by omega)]
  · show M'.1 (37 + i) j = M.1 (37 + i) j; rw [g _ (by omega)]
  · rw [g _ (by omega)]
theorem wI_long {n : Nat} {M M' : zM} (X : wI n M) (h : M'.1 = M.1) (T : wTc M') : wI n M' := by
  obtain ⟨R, W, H, S, a1, a2, a3, a4, a5, a6, a7⟩ := X
  refine ⟨R, W, H, S, wP_tr a1 (by rw [h]) (by rw [h]) (by rw [h]) (by rw [h]) (by rw [h]) (fun j _ => by rw [h]), ?_, wPa_tr a3 (by rw [h]) (fun q _ _ => by rw [h]) (by rw [h]) (by rw [h]), wIm_tr a4 (by rw [h]) (fun q _ _ => by rw [h]) (by rw [h]) (by rw [h]), wSe_tr a5 (by rw [h]) (by rw [h]) (by rw [h]) (by rw [h]) (by rw [h]) (by rw [h]), wTx_tr a6 (by rw [h]) (by rw [h]) (by rw [h]) (by rw [h]), T⟩
  rw [h]
  exact a2
/-- the moment, the past and the images change -/
theorem wI_mom {n R W H S : Nat} {M M' : zM} (a1 : wP M R W H S) (a5 : wSe M) (a6 : wTx M) (a7 : wTc M) (h : ∀ q, q ≠ 9 → q ≠ 12 → q ≠ 25 → ¬ (28 ≤ q ∧ q ≤ 32) → q < 37 → M'.1 q = M.1 q) (h25 : ∀ j, j ≠ 9 → M'.1 25 j = M.1 25 j) (hL : M'.2 = M.2) (T : wMoE n R S (fun i => M'.1 (37 + i)) (M'.1 28)) (T2 : wPa n R S M') (T3 : wIm n R S M') : wI n M' := by
  have g : ∀ q, (q ≠ 9 ∧ q ≠ 12 ∧ q ≠ 25 ∧ ¬ (28 ≤ q ∧ q ≤ 32) ∧ q < 37) → M'.1 q = M.1 q := fun q a => h q a.1 a.2.1 a.2.2.1 a.2.2.2.1 a.2.2.2.2
  exact ⟨R, W, H, S, wP_tr a1 (g _ (by omega)) (g _ (by omega)) (g _ (by omega)) (g _ (by omega)) (g _ (by omega)) (fun j hj => h25 j (by omega)), T, T2, T3, wSe_tr a5 (g _ (by omega)) (g _ (by omega)) (g _ (by omega)) (g _ (by omega)) (g _ (by omega)) (h25 _ (by omega)), wTx_tr a6 (by rw [g _ (by omega)]) (g _ (by omega)) (g _ (by omega)) (h25 _ (by omega)), wTc_tr a7 (fun q _ => by rw [hL])⟩
/-- type -/
theorem p_type {n : Nat} {M : zM} (X : wI n M) (x : Int32) : wOp n M (fun M => f_X11_type M x) (fun M => f_X12_type M x) := by
  rcases pk_ix x (n := 256) (by decide) with h | h | ⟨j, hj, rfl⟩
  · refine wOp_same X (-1) ?_ ?_
    · show f_X11_type_0 x M = _
      rw [f_X11_type_0, if_pos h]
    · show f_X12_type_0 x M = _
      rw [f_X12_type_0, r_inF (a := 0) (b := 255) rfl rfl (by have := neg_t h; omega), zbi_s, if_pos rfl]
  · refine wOp_same X (-1) ?_ ?_
    · show f_X11_type_0 x M = _
      rw [f_X11_type_0, if_neg (big_nn h (by decide)), if_neg (show ¬ x ≤ (255 : Int32) from big_nle h (by decide) (by decide))]
    · show f_X12_type_0 x M = _
      rw [f_X12_type_0, r_inF (a := 0) (b := 255) rfl rfl (by have := big_t h (by decide); omega), zbi_s, if_pos rfl]
  · obtain ⟨R, W, H, S, a1, a2, a3, a4, a5, a6, a7⟩ := id X
    obtain ⟨L, l1, l2, l3, l4⟩ := a6
    have hin : ∀ M', f_X12_in M' (nI j).toInt64 0 255 = some (1, M') := fun M' => r_inT (a := 0) (b := 255) rfl rfl (by rw [nI_t (by omega)]; omega)
    have hc : f_X11_type M (nI j) = zbi (f_X10_add M (nI j)) (fun r4 M5 => if r4 = 0 then (some ((-3 : Int32), M5)) else (some (M5.1 1 1, M5))) := by
      show f_X11_type_0 (nI j) M = _
      rw [f_X11_type_0, if_neg (nI_pos (by omega)), if_pos (show nI j ≤ (255 : Int32) from nI_le (b := 255) (by omega) (by omega))]
    by_cases hL : L = 100
    · subst hL
      refine wOp_same X (-3) ?_ ?_
      · show f_X11_type M (nI j) = _
        rw [hc]
        show zbi (f_X10_add_0 (nI j) M) _ = _
        rw [f_X10_add_0, l2, if_neg (show ¬ nI 100 < (100 : Int32) from by decide), zbi_s, if_pos rfl]
      · show f_X12_type_0 _ M = _
        rw [f_X12_type_0, hin, zbi_s, if_neg (by decide), l3, if_pos (by rfl)]
    · refine ⟨nI (L + 1), zs (zs M 2 L (nI j)) 1 1 (nI (L + 1)), zs (zs (zs (zs M 2 L (nI j)) 1 1 (nI (L + 1))) 34 L (nI j)) 25 16 (nI (L + 1)), ?_, ?_, ?_⟩
      · show f_X11_type M (nI j) = _
        rw [hc]
        show zbi (f_X10_add_0 (nI j) M) _ = _
        rw [f_X10_add_0, l2, if_pos (show nI L < (100 : Int32) from nI_lt (b := 100) (by omega) (by omega)), zg_in (by omega) (by decide), zbi_s, if_neg (by decide), nI_clamp (by omega), zs_ne (q := 1) (k := 2) (by omega), l2, nI_1, zs_row, upd_s]
      · show f_X12_type_0 _ _ = _
        have e16 : (zs (zs M 2 L (nI j)) 1 1 (nI (L + 1))).1 25 16 = nI L := by rw [zs_ne (by omega), zs_ne (by omega)]; exact l3
        rw [f_X12_type_0, hin, zbi_s, if_neg (by decide), e16, if_neg (show ¬ nI L = (100 : Int32) from fun q => hL ((nI_eq (by omega) (by omega)).mp q)), zg_in (by omega) (by decide), nI_clamp (by omega), zs_ne (q := 25) (k := 34) (by omega), e16, nI_1, f_X12_type_46, zs_row, upd_s]
      · refine wI_text (wI_mono (Nat.le_succ _) X) (fun q h1 h2 h34 h25 => ?_) (fun k hk => ?_) rfl ⟨L + 1, by omega, ?_, ?_, fun k hk => ?_⟩
        · rw [zs_ne h25, zs_ne h34, zs_ne h1, zs_ne h2]
        · rw [zs_row, upd_n (by omega), zs_ne (by omega), zs_ne (by omega), zs_ne (by omega)]
        · rw [zs_ne (by omega), zs_ne (by omega), zs_row, upd_s]
        · rw [zs_row, upd_s]
        · rw [zs_ne (by omega), zs_ne (by omega), zs_ne (by omega), zs_row, zs_ne (by omega), zs_row, zs_ne (by omega), zs_ne (by omega)]
          by_cases hkL : k = L
          · subst hkL
            rw [upd_s, upd_s]
            exact ⟨rfl, j, by omega, rfl⟩
          · rw [upd_n hkL, upd_n hkL]
            exact l4 k (by omega)
theorem p_clear {n : Nat} {M : zM} (X : wI n M) : wOp n M (fun M => f_X11_clear M) (fun M => f_X12_clear M) := by
  obtain ⟨R, W, H, S, a1, a2, a3, a4, a5, a6, a7⟩ := id X
  obtain ⟨L, l1, l2, l3, l4⟩ := a6
  refine ⟨nI L, zs M 1 1 0, zs (zs M 1 1 0) 25 16 0, ?_, ?_, ?_⟩
  · show f_X11_clear_0 M = _
    rw [f_X11_clear_0, l2]
  · show f_X12_clear_0 _ = _
    rw [f_X12_clear_0, zs_ne (by omega), l3]
  · refine wI_text (wI_mono (Nat.le_succ _) X) (fun q h1 h2 h34 h25 => ?_) (fun k hk => ?_) rfl ⟨0, by omega, ?_, ?_, fun k hk => absurd hk (Nat.not_lt_zero _)⟩
    · rw [zs_ne h25, zs_ne h1]
    · rw [zs_row, upd_n (by omega), zs_ne (by omega)]
    · rw [zs_ne (by omega), zs_row, upd_s, nI_0]
    · rw [zs_row, upd_s, nI_0]
theorem p_forget {n : Nat} {M : zM} (X : wI n M) : wOp n M (fun M => f_X11_forget M) (fun M => f_X12_forget M) := by
  obtain ⟨R, W, H, S, a1, a2, a3, a4, a5, a6, a7⟩ := id X
  obtain ⟨L, l1, l2, l3, l4⟩ := a5
  refine ⟨nI L, zs M 13 4 0, zs (zs M 13 4 0) 25 13 0, ?_, ?_, ?_⟩
  · show f_X11_forget_0 M = _
    rw [f_X11_forget_0, l2]
  · show f_X12_forget_0 _ = _
    rw [f_X12_forget_0, zs_ne (by omega), l3]
  · refine wI_seen (wI_mono (Nat.le_succ _) X) (fun q h1 h2 h25 => ?_) (fun k hk => ?_) rfl ⟨0, by omega, ?_, ?_, fun k hk => absurd hk (Nat.not_lt_zero _)⟩
    · rw [zs_ne h25, zs_ne (by omega)]
    · rw [zs_row, upd_n hk, zs_ne (by omega)]
    · rw [zs_ne (by omega), zs_row, upd_s, nI_0]
    · rw [zs_row, upd_s, nI_0]
theorem p_count {n : Nat} {M : zM} (X : wI n M) (x : Int32) : wOp n M (fun M => f_X11_count M x) (fun M => f_X12_count M x) := by
  obtain ⟨R, W, H, S, a1, a2, a3, a4, a5, a6, a7⟩ := id X
  obtain ⟨_, ⟨p1, p2, p3, p4⟩, ⟨q1, q2, q3, q4⟩, _⟩ := a1
  obtain ⟨G, K, ⟨g1, g2, g3, g4, g5, g6⟩, _⟩ := a2
  obtain ⟨Z, z1, z2, z3, _⟩ := a5
  obtain ⟨L, l1, l2, l3, l4⟩ := a6
  have g3 : M.1 37 2 = nI G := g3
  by_cases h0 : x = 0
  · exact wOp_same X (nI R) (by show f_X11_count_0 x M = _; rw [f_X11_count_0, if_pos h0, p1]) (by show f_X12_count_0 x M = _; rw [f_X12_count_0, if_pos h0, q1])
  · by_cases h1 : x = 1
    · exact wOp_same X (nI W) (by show f_X11_count_0 x M = _; rw [f_X11_count_0, if_neg h0, if_pos h1, p2]) (by show f_X12_count_0 x M = _; rw [f_X12_count_0, if_neg h0, if_pos h1, q2])
    · by_cases h2 : x = 2
      · exact wOp_same X (nI H) (by show f_X11_count_0 x M = _; rw [f_X11_count_0, if_neg h0, if_neg h1, if_pos h2, p3]) (by show f_X12_count_0 x M = _; rw [f_X12_count_0, if_neg h0, if_neg h1, if_pos h2, q3])
      · by_cases h3 : x = 3
        · exact wOp_same X (nI S) (by show f_X11_count_0 x M = _; rw [f_X11_count_0, if_neg h0, if_neg h1, if_neg h2, if_pos h3, p4]) (by show f_X12_count_0 x M = _; rw [f_X12_count_0, if_neg h0, if_neg h1, if_neg h2, if_pos h3, q4])
        · by_cases h4 : x = 4
          · exact wOp_same X (nI G) (by show f_X11_count_0 x M = _; rw [f_X11_count_0, if_neg h0, if_neg h1, if_neg h2, if_neg h3, if_pos h4, g3]) (by show f_X12_count_0 x M = _; rw [f_X12_count_0, if_neg h0, if_neg h1, if_neg h2, if_neg h3, if_pos h4, zg_t (by decide), sb_cl0, g4])
          · by_cases h5 : x = 5
            · exact wOp_same X (nI Z) (by show f_X11_count_0 x M = _; rw [f_X11_count_0, if_neg h0, if_neg h1, if_neg h2, if_neg h3, if_neg h4, if_pos h5, z2]) (by show f_X12_count_0 x M = _; rw [f_X12_count_0, if_neg h0, if_neg h1, if_neg h2, if_neg h3, if_neg h4, if_pos h5, z3])
            · by_cases h6 : x = 6
              · exact wOp_same X (nI L) (by show f_X11_count_0 x M = _; rw [f_X11_count_0, if_neg h0, if_neg h1, if_neg h2, if_neg h3, if_neg h4, if_neg h5, if_pos h6, l2]) (by show f_X12_count_0 x M = _; rw [f_X12_count_0, if_neg h0, if_neg h1, if_neg h2, if_neg h3, if_neg h4, if_neg h5, if_pos h6, l3])
              · exact wOp_same X (-1) (by show f_X11_count_0 x M = _; rw [f_X11_count_0, if_neg h0, if_neg h1, if_neg h2, if_neg h3, if_neg h4, if_neg h5, if_neg h6]) (by show f_X12_count_0 x M = _; rw [f_X12_count_0, if_neg h0, if_neg h1, if_neg h2, if_neg h3, if_neg h4, if_neg h5, if_neg h6])
theorem r_sorts {M : zM} {G S : Nat} (X : zRx M 28 G S) (s x2 : Int32) : f_X12_sort_63 s x2 zFU M 0 0 = some (aSorts (fun g => M.1 28 (2 + g)) s G, M) := by
  have hG := X.2.1
  have h3 := X.2.2.1
  refine zloop0 (fun n a i => f_X12_sort_63 s x2 n M a i) (fun j a => if M.1 28 (2 + j) = s then a + 1 else a) (fun a => some (a, M)) G (fun n j a hj => ?_) (fun n a => ?_) (zFU_gt (by omega))
  · show f_X12_sort_63 s x2 (n + 1) M a (nI j) = f_X12_sort_63 s x2 n M _ (nI (j + 1))
    rw [f_X12_sort_63, zg_t (by decide), sb_cl0, hG, if_neg (nI_ge hj (by omega)), ix2, zg_in (by omega) (by decide), nI_clamp (by omega)]
    by_cases h : M.1 28 (2 + j) = s
    · rw [if_pos h, if_pos h, f_X12_sort_93, nI_1]
    · rw [if_neg h, if_neg h, f_X12_sort_93, nI_1, Int32.add_zero]
  · show f_X12_sort_63 s x2 (n + 1) M a (nI G) = _
    rw [f_X12_sort_63, zg_t (by decide), sb_cl0, hG, if_pos (Int32.le_refl _)]
theorem aSorts_rel {G : Nat} {so so' : Nat → Int32} {s : Int32} (h : ∀ g, g < G → so g = so' g) : aSorts so s G = aSorts so' s G := by
  unfold aSorts
  refine zfo_congr (fun j a hj => ?_)
  rw [h j hj]
theorem p_sort {n : Nat} {M : zM} (X : wI n M) (x y : Int32) : wOp n M (fun M => f_X11_sort M x y) (fun M => f_X12_sort M x y) := by
  obtain ⟨R, W, H, S, a1, ⟨G, K, a2⟩, a3, a4, a5, a6, a7⟩ := id X
  have hS6 := a1.1.2.2.2.2
  have hS := a1.2.1.2.2.2
  have hS' := a1.2.2.1.2.2.2
  have no : x < 0 ∨ nI S ≤ x → wOp n M (fun M => f_X11_sort M x y) (fun M => f_X12_sort M x y) := by
    intro h
    refine wOp_same X (-1) ?_ ?_
    · show f_X11_sort_0 x y M = _
      rw [f_X11_sort_0, c_hasSF hS h, zbi_s, if_pos rfl]
    · show f_X12_sort_0 x y M = _
      rw [f_X12_sort_0, hS', r_ixF (by omega) h, zbi_s, if_pos rfl]
  rcases pk_ix x (n := S) (by omega) with h | h | ⟨j, hj, rfl⟩
  · exact no (Or.inl h)
  · exact no (Or.inr h)
  · obtain ⟨e4, e5, _⟩ := a1.2.2.2 j hj
    have hc : f_X11_sort M (nI j) y = (if y = (0 : Int32) then (zbi (f_X7_bulkOf M 3 (nI j)) (fun r7 M8 => some (r7, M8))) else if y = (1 : Int32) then (zbi (f_X7_pushOf M 3 (nI j)) (fun r11 M12 => some (r11, M12))) else if y = (2 : Int32) then (zbi (f_X5_howManyOfSort M 37 (nI j)) (fun r15 M16 => some (r15, M16))) else (some ((-1 : Int32), M))) := by
      show f_X11_sort_0 _ y M = _
      rw [f_X11_sort_0, c_hasST hS hS6 hj, zbi_s, if_neg (by decide)]
    have hr : f_X12_sort M (nI j) y = (if y = (0 : Int32) then (zg (zin (nI j) 6) (some (M.1 26 (nI j).toNatClampNeg, M))) else if y = (1 : Int32) then (zg (zin (nI j) 6) (some (M.1 27 (nI j).toNatClampNeg, M))) else if y = (2 : Int32) then (f_X12_sort_63 (nI j) y zFU M (0 : Int32) (0 : Int32)) else (some ((-1 : Int32), M))) := by
      show f_X12_sort_0 _ y M = _
      rw [f_X12_sort_0, hS', r_ixT (by omega) hj, zbi_s, if_neg (by decide)]
    by_cases h0 : y = 0
    · refine wOp_same X (M.1 4 j) ?_ ?_
      · show f_X11_sort M (nI j) y = _
        rw [hc, if_pos h0, c_pbulk hS hS6 hj, zbi_s]
      · show f_X12_sort M (nI j) y = _
        rw [hr, if_pos h0, zg_in (by omega) (by decide), nI_clamp (by omega), e4]
    · by_cases h1 : y = 1
      · refine wOp_same X (M.1 5 j) ?_ ?_
        · show f_X11_sort M (nI j) y = _
          rw [hc, if_neg h0, if_pos h1, c_ppush hS hS6 hj, zbi_s]
        · show f_X12_sort M (nI j) y = _
          rw [hr, if_neg h0, if_pos h1, zg_in (by omega) (by decide), nI_clamp (by omega), e5]
      · by_cases h2 : y = 2
        · have hx := a2.cx a1 (by omega)
          refine wOp_same X (aSorts (M.1 38) (nI j) G) ?_ ?_
          · show f_X11_sort M (nI j) y = _
            rw [hc, if_neg h0, if_neg h1, if_pos h2, c_sorts hx.2.1 hx.2.2.1, zbi_s]
          · show f_X12_sort M (nI j) y = _
            rw [hr, if_neg h0, if_neg h1, if_pos h2, r_sorts (a2.rx a1 (by omega))]
            rw [aSorts_rel (so := M.1 38) (fun g hg => (a2.2.1 g hg).2.1)]
        · refine wOp_same X (-1) ?_ ?_
          · show f_X11_sort M (nI j) y = _
            rw [hc, if_neg h0, if_neg h1, if_neg h2]
          · show f_X12_sort M (nI j) y = _
            rw [hr, if_neg h0, if_neg h1, if_neg h2]
