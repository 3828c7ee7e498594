/-! images and the past -/
theorem rem10 {a : Nat} (h : a < 2 ^ 31) : nI a - nI a / (10 : Int32) * (10 : Int32) = nI (a % 10) := pk_rem (d := 10) h (by decide) (by decide)
theorem m47 (j : Nat) : (47 : Int32) * nI j = nI (47 * j) := pk_mul 47 j
theorem cpy_i {f g : Nat → Int32} {sp dp m j : Nat} (h : j < m) : va_cpy f g sp dp m (dp + j) = f (sp + j) := by
  rw [pk_cpy_in (by omega) (by omega), show dp + j - dp = j by omega]
theorem p_keep {n : Nat} {M : zM} (X : wI n M) (x : Int32) : wOp n M (fun M => f_X11_keep M x) (fun M => f_X12_keep M x) := by
  obtain ⟨R, W, H, S, a1, a2, a3, a4, a5, a6, a7⟩ := id X
  obtain ⟨G, K, a2'⟩ := id a2
  have g5 : M.1 37 1 = nI K := a2'.1.2.2.2.2.1
  have g6 : M.1 28 1 = nI K := a2'.1.2.2.2.2.2
  rcases pk_ix x (n := 2) (by decide) with h | h | ⟨j, hj, rfl⟩
  · refine wOp_same X (-1) ?_ ?_
    · show f_X11_keep_0 x M = _
      rw [f_X11_keep_0, if_pos h]
    · show f_X12_keep_0 x M = _
      rw [f_X12_keep_0, r_isBitF (Or.inl h), zbi_s, if_pos rfl]
  · refine wOp_same X (-1) ?_ ?_
    · show f_X11_keep_0 x M = _
      rw [f_X11_keep_0, if_neg (big_nn h (by decide)), if_neg (show ¬ x < (2 : Int32) from i_nlt.mpr h)]
    · show f_X12_keep_0 x M = _
      rw [f_X12_keep_0, r_isBitF (Or.inr h), zbi_s, if_pos rfl]
  · obtain ⟨Mc, c1, c2, c3, c4, c5, c6⟩ := c_copy (M := M) (c := 109 + 6 * j) (p := 37) (Or.inr (by omega))
    refine ⟨nI K, zs Mc 12 j 1, zs (zr (zs Mc 12 j 1) 31 (va_cpy (M.1 28) (M.1 31) 0 (47 * j) 47)) 32 j 1, ?_, ?_, ?_⟩
    · show f_X11_keep_0 _ M = _
      rw [f_X11_keep_0, if_neg (nI_pos (by omega)), if_pos (show nI j < (2 : Int32) from nI_lt (b := 2) hj (by decide)), zg_in hj (by decide), nI_clamp (by omega), c1, zbv_s, zg_in hj (by decide), zs_ne (by decide), c2 37 (by omega), g5]
    · show f_X12_keep_0 _ _ = _
      rw [f_X12_keep_0, r_isBitT hj, zbi_s, if_neg (by decide), r_copiesE (M := zs Mc 12 j 1) (p0 := 28) (n0 := 47) (p2 := 31) (n2 := 94) (i := 0) (j := 47 * j) (m := 47) (x1 := 0) (x4 := 47) rfl (m47 j) rfl (by decide) (by decide) (by omega) (by decide) (by decide) (by decide), zbv_s, zg_in hj (by decide), zg_t (by decide), nI_clamp (by omega), cl1, zs_ne (q := 28) (k := 32) (by decide), zr_ne (q := 28) (by decide), zs_ne (q := 28) (k := 12) (by decide), zs_ne (q := 31) (k := 12) (by decide), c2 28 (by omega), c2 31 (by omega), g6]
    · have fr : ∀ q, q ≠ 12 → q ≠ 31 → q ≠ 32 → ¬ (109 + 6 * j ≤ q ∧ q < 109 + 6 * j + 6) → (zs (zr (zs Mc 12 j 1) 31 (va_cpy (M.1 28) (M.1 31) 0 (47 * j) 47)) 32 j 1).1 q = M.1 q := fun q h1 h2 h3 h4 => by rw [zs_ne h3, zr_ne h2, zs_ne h1, c2 q h4]
      have f31 : (zs (zr (zs Mc 12 j 1) 31 (va_cpy (M.1 28) (M.1 31) 0 (47 * j) 47)) 32 j 1).1 31 = va_cpy (M.1 28) (M.1 31) 0 (47 * j) 47 := by rw [zs_ne (by decide), zr_row]
      have f12 : (zs (zr (zs Mc 12 j 1) 31 (va_cpy (M.1 28) (M.1 31) 0 (47 * j) 47)) 32 j 1).1 12 = upd (M.1 12) j 1 := by rw [zs_ne (by decide), zr_ne (by decide), zs_row, c2 12 (by omega)]
      have f32 : (zs (zr (zs Mc 12 j 1) 31 (va_cpy (M.1 28) (M.1 31) 0 (47 * j) 47)) 32 j 1).1 32 = upd (M.1 32) j 1 := by rw [zs_row, zr_ne (by decide), zs_ne (by decide), c2 32 (by omega)]
      have fc : ∀ q, 109 ≤ q → q < 121 → (zs (zr (zs Mc 12 j 1) 31 (va_cpy (M.1 28) (M.1 31) 0 (47 * j) 47)) 32 j 1).1 q = Mc.1 q := fun q h1 h2 => by rw [zs_ne (by omega), zr_ne (by omega), zs_ne (by omega)]
      have fL : (zs (zr (zs Mc 12 j 1) 31 (va_cpy (M.1 28) (M.1 31) 0 (47 * j) 47)) 32 j 1).2 = M.2 := c3
      generalize zs (zr (zs Mc 12 j 1) 31 (va_cpy (M.1 28) (M.1 31) 0 (47 * j) 47)) 32 j 1 = M' at fr f31 f12 f32 fc fL ⊢
      refine wI_mom a1 a5 a6 a7 (fun q _ h12 _ h28 h37 => fr q h12 (by omega) (by omega) (by omega)) (fun k _ => by rw [fr 25 (by decide) (by decide) (by decide) (by omega)]) fL ?_ ?_ ?_
      · refine wMoE_mono (wMoE_tr a2 ?_ ?_ (fun i k h1 h5 hk => ?_) (fun k hk => ?_)) (Nat.le_succ _)
        · show M'.1 37 1 = M.1 37 1; rw [fr 37 (by decide) (by decide) (by decide) (by omega)]
        · show M'.1 37 2 = M.1 37 2; rw [fr 37 (by decide) (by decide) (by decide) (by omega)]
        · show M'.1 (37 + i) k = M.1 (37 + i) k; rw [fr (37 + i) (by omega) (by omega) (by omega) (by omega)]
        · rw [fr 28 (by decide) (by decide) (by decide) (by omega)]
      · exact wPa_mono (Nat.le_succ _) (wPa_tr a3 (fr 9 (by decide) (by decide) (by decide) (by omega)) (fun q h1 h2 => fr q (by omega) (by omega) (by omega) (by omega)) (by rw [fr 25 (by decide) (by decide) (by decide) (by omega)]) (fr 30 (by decide) (by decide) (by decide) (by omega)))
      · intro i hi
        rw [f12, f32]
        obtain ⟨b1, b2⟩ := a4 i hi
        by_cases hij : i = j
        · subst hij
          rw [upd_s, upd_s]
          refine ⟨rfl, fun _ => wMoE_mono (wMoE_tr a2 ?_ ?_ (fun i' k h1 h5 hk => ?_) (fun k hk => ?_)) (Nat.le_succ _)⟩
          · show M'.1 (109 + 6 * i) 1 = M.1 37 1; rw [fc _ (by omega) (by omega)]; exact c4
          · show M'.1 (109 + 6 * i) 2 = M.1 37 2; rw [fc _ (by omega) (by omega)]; exact c5
          · show M'.1 (109 + 6 * i + i') k = M.1 (37 + i') k; rw [fc _ (by omega) (by omega)]; exact c6 i' k h1 h5 hk
          · show M'.1 31 (47 * i + k) = M.1 28 k
            rw [f31, cpy_i hk, Nat.zero_add]
        · rw [upd_n hij, upd_n hij]
          refine ⟨b1, fun q => wMoE_mono (wMoE_tr (b2 q) ?_ ?_ (fun i' k h1 h5 hk => ?_) (fun k hk => ?_)) (Nat.le_succ _)⟩
          · show M'.1 (109 + 6 * i) 1 = M.1 (109 + 6 * i) 1; rw [fr _ (by omega) (by omega) (by omega) (by omega)]
          · show M'.1 (109 + 6 * i) 2 = M.1 (109 + 6 * i) 2; rw [fr _ (by omega) (by omega) (by omega) (by omega)]
          · show M'.1 (109 + 6 * i + i') k = M.1 (109 + 6 * i + i') k; rw [fr _ (by omega) (by omega) (by omega) (by omega)]
          · show M'.1 31 (47 * i + k) = M.1 31 (47 * i + k)
            rw [f31, pk_cpy_out (by omega)]
theorem p_back {n : Nat} {M : zM} (X : wI n M) (x : Int32) : wOp n M (fun M => f_X11_back M x) (fun M => f_X12_back M x) := by
  obtain ⟨R, W, H, S, a1, a2, a3, a4, a5, a6, a7⟩ := id X
  rcases pk_ix x (n := 2) (by decide) with h | h | ⟨j, hj, rfl⟩
  · refine wOp_same X (-1) ?_ ?_
    · show f_X11_back_0 x M = _
      rw [f_X11_back_0, if_pos h]
    · show f_X12_back_0 x M = _
      rw [f_X12_back_0, r_isBitF (Or.inl h), zbi_s, if_pos rfl]
  · refine wOp_same X (-1) ?_ ?_
    · show f_X11_back_0 x M = _
      rw [f_X11_back_0, if_neg (big_nn h (by decide)), if_neg (show ¬ x < (2 : Int32) from i_nlt.mpr h)]
    · show f_X12_back_0 x M = _
      rw [f_X12_back_0, r_isBitF (Or.inr h), zbi_s, if_pos rfl]
  · obtain ⟨b1, b2⟩ := a4 j hj
    have hcl : f_X11_back M (nI j) = (if (M.1 12 j) = 0 then (some ((-2 : Int32), M)) else (zbv (f_X5_copy M 37 (109 + 6 * j)) (fun M8 => some ((zs M8 9 2 (0 : Int32)).1 37 1, zs M8 9 2 (0 : Int32))))) := by
      show f_X11_back_0 _ M = _
      rw [f_X11_back_0, if_neg (nI_pos (by omega)), if_pos (show nI j < (2 : Int32) from nI_lt (b := 2) hj (by decide)), zg_in hj (by decide), nI_clamp (by omega), zg_in hj (by decide)]
    by_cases h0 : M.1 12 j = 0
    · refine wOp_same X (-2) ?_ ?_
      · show f_X11_back M (nI j) = _
        rw [hcl, if_pos h0]
      · show f_X12_back_0 _ M = _
        rw [f_X12_back_0, r_isBitT hj, zbi_s, if_neg (by decide), zg_in hj (by decide), nI_clamp (by omega), if_pos (by rw [← b1]; exact h0)]
    · have b2 := b2 h0
      obtain ⟨G, K, b3⟩ := id b2
      have g5 : M.1 (109 + 6 * j) 1 = nI K := b3.1.2.2.2.2.1
      have g6 : M.1 31 (47 * j + 1) = nI K := b3.1.2.2.2.2.2
      obtain ⟨Mc, c1, c2, c3, c4, c5, c6⟩ := c_copy (M := M) (c := 37) (p := 109 + 6 * j) (Or.inl (by omega))
      refine ⟨nI K, zs Mc 9 2 0, zs (zr (zs Mc 9 2 0) 28 (va_cpy (M.1 31) (M.1 28) (47 * j) 0 47)) 25 9 0, ?_, ?_, ?_⟩
      · show f_X11_back M (nI j) = _
        rw [hcl, if_neg h0, c1, zbv_s, zs_ne (by decide), c4, g5]
      · show f_X12_back_0 _ _ = _
        rw [f_X12_back_0, r_isBitT hj, zbi_s, if_neg (by decide), zg_in hj (by decide), nI_clamp (by omega), zs_ne (q := 32) (k := 9) (by decide), c2 32 (by omega), if_neg (by rw [← b1]; exact h0), r_copiesE (M := zs Mc 9 2 0) (p0 := 31) (n0 := 94) (p2 := 28) (n2 := 47) (i := 47 * j) (j := 0) (m := 47) (x3 := 0) (x4 := 47) (m47 j) rfl rfl (by decide) (by omega) (by decide) (by decide) (by decide) (by decide), zbv_s, zg_t (by decide), cl1, zs_ne (q := 28) (k := 25) (by decide), zr_row, zs_ne (q := 28) (k := 9) (by decide), zs_ne (q := 31) (k := 9) (by decide), c2 28 (by omega), c2 31 (by omega)]
        have e : va_cpy (M.1 31) (M.1 28) (47 * j) 0 47 1 = nI K := by
          have := cpy_i (f := M.1 31) (g := M.1 28) (sp := 47 * j) (dp := 0) (m := 47) (j := 1) (by decide)
          rw [Nat.zero_add] at this
          rw [this, g6]
        rw [e]
      · have fr : ∀ q, q ≠ 9 → q ≠ 28 → q ≠ 25 → ¬ (37 ≤ q ∧ q < 37 + 6) → (zs (zr (zs Mc 9 2 0) 28 (va_cpy (M.1 31) (M.1 28) (47 * j) 0 47)) 25 9 0).1 q = M.1 q := fun q h1 h2 h3 h4 => by rw [zs_ne h3, zr_ne h2, zs_ne h1, c2 q h4]
        have f28 : (zs (zr (zs Mc 9 2 0) 28 (va_cpy (M.1 31) (M.1 28) (47 * j) 0 47)) 25 9 0).1 28 = va_cpy (M.1 31) (M.1 28) (47 * j) 0 47 := by rw [zs_ne (by decide), zr_row]
        have f9 : (zs (zr (zs Mc 9 2 0) 28 (va_cpy (M.1 31) (M.1 28) (47 * j) 0 47)) 25 9 0).1 9 = upd (M.1 9) 2 0 := by rw [zs_ne (by decide), zr_ne (by decide), zs_row, c2 9 (by omega)]
        have f25 : (zs (zr (zs Mc 9 2 0) 28 (va_cpy (M.1 31) (M.1 28) (47 * j) 0 47)) 25 9 0).1 25 = upd (M.1 25) 9 0 := by rw [zs_row, zr_ne (by decide), zs_ne (by decide), c2 25 (by omega)]
        have fc : ∀ q, 37 ≤ q → q < 43 → (zs (zr (zs Mc 9 2 0) 28 (va_cpy (M.1 31) (M.1 28) (47 * j) 0 47)) 25 9 0).1 q = Mc.1 q := fun q h1 h2 => by rw [zs_ne (by omega), zr_ne (by omega), zs_ne (by omega)]
        have fL : (zs (zr (zs Mc 9 2 0) 28 (va_cpy (M.1 31) (M.1 28) (47 * j) 0 47)) 25 9 0).2 = M.2 := c3
        generalize zs (zr (zs Mc 9 2 0) 28 (va_cpy (M.1 31) (M.1 28) (47 * j) 0 47)) 25 9 0 = M' at fr f28 f9 f25 fc fL ⊢
        refine wI_mom a1 a5 a6 a7 (fun q h9 h12 h25 h28 h37 => fr q h9 (by omega) h25 (by omega)) (fun k hk => by rw [f25, upd_n hk]) fL ?_ ?_ ?_
        · refine wMoE_mono (wMoE_tr b2 ?_ ?_ (fun i k h1 h5 hk => ?_) (fun k hk => ?_)) (Nat.le_succ _)
          · show M'.1 37 1 = M.1 (109 + 6 * j) 1; rw [fc 37 (by decide) (by decide)]; exact c4
          · show M'.1 37 2 = M.1 (109 + 6 * j) 2; rw [fc 37 (by decide) (by decide)]; exact c5
          · show M'.1 (37 + i) k = M.1 (109 + 6 * j + i) k; rw [fc (37 + i) (by omega) (by omega)]; exact c6 i k h1 h5 hk
          · show M'.1 28 k = M.1 31 (47 * j + k)
            have := cpy_i (f := M.1 31) (g := M.1 28) (sp := 47 * j) (dp := 0) hk
            rw [Nat.zero_add] at this
            rw [f28, this]
        · obtain ⟨o, z, z1, z2, z3, z4, z5, z6⟩ := a3
          exact ⟨o, 0, z1, by omega, by rw [f9, upd_n (by decide)]; exact z3, by rw [f9, upd_s, nI_0], by rw [f25, upd_s, nI_0], fun k hk => absurd hk (Nat.not_lt_zero _)⟩
        · exact wIm_mono (Nat.le_succ _) (wIm_tr a4 (fr 12 (by decide) (by decide) (by decide) (by omega)) (fun q h1 h2 => fr q (by omega) (by omega) (by omega) (by omega)) (fr 32 (by decide) (by decide) (by decide) (by omega)) (fr 31 (by decide) (by decide) (by decide) (by omega)))
theorem p_undo {n : Nat} {M : zM} (X : wI n M) : wOp n M (fun M => f_X11_undo M) (fun M => f_X12_undo M) := by
  obtain ⟨R, W, H, S, a1, a2, a3, a4, a5, a6, a7⟩ := id X
  obtain ⟨o, z, z1, z2, z3, z4, z5, z6⟩ := id a3
  by_cases h0 : z = 0
  · subst h0
    refine wOp_same X (-2) ?_ ?_
    · show f_X11_undo_0 M = _
      rw [f_X11_undo_0, z4, if_pos nI_0]
    · show f_X12_undo_0 M = _
      rw [f_X12_undo_0, z5, if_pos nI_0]
  · obtain ⟨y, rfl⟩ : ∃ y, z = y + 1 := ⟨z - 1, by omega⟩
    have hm : (o + y) % 10 < 10 := Nat.mod_lt _ (by omega)
    obtain ⟨Mc, c1, c2, c3, c4, c5, c6⟩ := c_copy (M := zs M 9 2 (nI y)) (c := 37) (p := 49 + 6 * ((o + y) % 10)) (Or.inl (by omega))
    have b2 := z6 y (by omega)
    have c9 : Mc.1 9 = upd (M.1 9) 2 (nI y) := by rw [c2 9 (by omega), zs_row]
    have c2' : ∀ q, q ≠ 9 → ¬ (37 ≤ q ∧ q < 37 + 6) → Mc.1 q = M.1 q := fun q h1 h2 => by rw [c2 q h2, zs_ne h1]
    refine ⟨nI y, Mc, zr (zs Mc 25 9 (nI y)) 28 (va_cpy (M.1 30) (M.1 28) (47 * y) 0 47), ?_, ?_, ?_⟩
    · show f_X11_undo_0 M = _
      rw [f_X11_undo_0, z4, if_neg (nI_ne0 (by omega) (by omega))]
      show zbv (f_X6_recall_0 37 M) _ = _
      rw [f_X6_recall_0, z4, if_neg (nI_nle (by omega) (by omega)), nI_pred, zs_row, upd_s, upd_n (by decide), z3, nI_add, rem10 (by omega), zg_in hm (by decide), nI_clamp (by omega), c1, zbv_s, zbv_s, c9, upd_s]
    · show f_X12_undo_0 _ = _
      rw [f_X12_undo_0, c2' 25 (by decide) (by omega), z5, if_neg (nI_ne0 (by omega) (by omega)), nI_pred, zs_row, upd_s, r_copiesE (M := zs Mc 25 9 (nI y)) (p0 := 30) (n0 := 470) (p2 := 28) (n2 := 47) (i := 47 * y) (j := 0) (m := 47) (x3 := 0) (x4 := 47) (m47 y) rfl rfl (by decide) (by omega) (by decide) (by decide) (by decide) (by decide), zbv_s, zr_ne (q := 25) (by decide), zs_row, upd_s, zs_ne (q := 30) (by decide), zs_ne (q := 28) (by decide), c2' 30 (by decide) (by omega), c2' 28 (by decide) (by omega)]
    · have fr : ∀ q, q ≠ 9 → q ≠ 28 → q ≠ 25 → ¬ (37 ≤ q ∧ q < 37 + 6) → (zr (zs Mc 25 9 (nI y)) 28 (va_cpy (M.1 30) (M.1 28) (47 * y) 0 47)).1 q = M.1 q := fun q h1 h2 h3 h4 => by rw [zr_ne h2, zs_ne h3, c2' q h1 h4]
      have f28 : (zr (zs Mc 25 9 (nI y)) 28 (va_cpy (M.1 30) (M.1 28) (47 * y) 0 47)).1 28 = va_cpy (M.1 30) (M.1 28) (47 * y) 0 47 := by rw [zr_row]
      have f9 : (zr (zs Mc 25 9 (nI y)) 28 (va_cpy (M.1 30) (M.1 28) (47 * y) 0 47)).1 9 = upd (M.1 9) 2 (nI y) := by rw [zr_ne (by decide), zs_ne (by decide), c9]
      have f25 : (zr (zs Mc 25 9 (nI y)) 28 (va_cpy (M.1 30) (M.1 28) (47 * y) 0 47)).1 25 = upd (M.1 25) 9 (nI y) := by rw [zr_ne (by decide), zs_row, c2' 25 (by decide) (by omega)]
      have fc : ∀ q, 37 ≤ q → q < 43 → (zr (zs Mc 25 9 (nI y)) 28 (va_cpy (M.1 30) (M.1 28) (47 * y) 0 47)).1 q = Mc.1 q := fun q h1 h2 => by rw [zr_ne (by omega), zs_ne (by omega)]
      have fL : (zr (zs Mc 25 9 (nI y)) 28 (va_cpy (M.1 30) (M.1 28) (47 * y) 0 47)).2 = M.2 := c3
      have d4 : Mc.1 37 1 = M.1 (49 + 6 * ((o + y) % 10)) 1 := by rw [c4, zs_ne (by omega)]
      have d5 : Mc.1 37 2 = M.1 (49 + 6 * ((o + y) % 10)) 2 := by rw [c5, zs_ne (by omega)]
      have d6 : ∀ i k, 1 ≤ i → i ≤ 5 → k < 9 → Mc.1 (37 + i) k = M.1 (49 + 6 * ((o + y) % 10) + i) k := fun i k h1 h5 hk => by rw [c6 i k h1 h5 hk, zs_ne (by omega)]
      generalize zr (zs Mc 25 9 (nI y)) 28 (va_cpy (M.1 30) (M.1 28) (47 * y) 0 47) = M' at fr f28 f9 f25 fc fL ⊢
      refine wI_mom a1 a5 a6 a7 (fun q h9 h12 h25 h28 h37 => fr q h9 (by omega) h25 (by omega)) (fun k hk => by rw [f25, upd_n hk]) fL ?_ ?_ ?_
      · refine wMoE_mono (wMoE_tr b2 ?_ ?_ (fun i k h1 h5 hk => ?_) (fun k hk => ?_)) (Nat.le_succ _)
        · show M'.1 37 1 = M.1 (49 + 6 * ((o + y) % 10)) 1; rw [fc 37 (by decide) (by decide)]; exact d4
        · show M'.1 37 2 = M.1 (49 + 6 * ((o + y) % 10)) 2; rw [fc 37 (by decide) (by decide)]; exact d5
        · show M'.1 (37 + i) k = M.1 (49 + 6 * ((o + y) % 10) + i) k; rw [fc (37 + i) (by omega) (by omega)]; exact d6 i k h1 h5 hk
        · show M'.1 28 k = M.1 30 (47 * y + k)
          have := cpy_i (f := M.1 30) (g := M.1 28) (sp := 47 * y) (dp := 0) hk
          rw [Nat.zero_add] at this
          rw [f28, this]
      · refine wPa_mono (Nat.le_succ _) ⟨o, y, z1, by omega, by rw [f9, upd_n (by decide)]; exact z3, by rw [f9, upd_s], by rw [f25, upd_s], fun k hk => ?_⟩
        have hm2 : (o + k) % 10 < 10 := Nat.mod_lt _ (by omega)
        refine wMoE_tr (z6 k (by omega)) ?_ ?_ (fun i j h1 h5 hj => ?_) (fun j hj => ?_)
        · show M'.1 _ 1 = M.1 _ 1; rw [fr _ (by omega) (by omega) (by omega) (by omega)]
        · show M'.1 _ 2 = M.1 _ 2; rw [fr _ (by omega) (by omega) (by omega) (by omega)]
        · show M'.1 _ j = M.1 _ j; rw [fr _ (by omega) (by omega) (by omega) (by omega)]
        · show M'.1 30 _ = M.1 30 _; rw [fr 30 (by decide) (by decide) (by decide) (by omega)]
      · exact wIm_mono (Nat.le_succ _) (wIm_tr a4 (fr 12 (by decide) (by decide) (by decide) (by omega)) (fun q h1 h2 => fr q (by omega) (by omega) (by omega) (by omega)) (fr 32 (by decide) (by decide) (by decide) (by omega)) (fr 31 (by decide) (by decide) (by decide) (by omega)))
