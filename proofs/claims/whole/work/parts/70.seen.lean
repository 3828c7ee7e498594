/-! what was seen: sees, which, look -/
theorem c_least {M : zM} {a lo hi : Nat} (h : (a = 0 ∧ lo = 1 ∧ hi = 5) ∨ (a = 1 ∧ lo = 0 ∧ hi = 9)) : f_X11_leastOf M (nI a) = some (nI lo, M) ∧ f_X11_mostOf M (nI a) = some (nI hi, M) := by
  rcases h with ⟨rfl, rfl, rfl⟩ | ⟨rfl, rfl, rfl⟩
  · exact ⟨rfl, rfl⟩
  · exact ⟨rfl, rfl⟩
theorem x3m (z : Nat) : (3 : Int32) * nI z = nI (3 * z) := pk_mul 3 z
theorem p_seesA {n : Nat} {M : zM} (X : wI n M) {a lo hi : Nat} (h : (a = 0 ∧ lo = 1 ∧ hi = 5) ∨ (a = 1 ∧ lo = 0 ∧ hi = 9)) (y w : Int32) : wOp n M (fun M => f_X11_sees M (nI a) y w) (fun M => f_X12_sees M (nI a) y w) := by
  have ha : a < 2 := by omega
  have hll : lo ≤ 1 := by omega
  have hhh : hi ≤ 9 := by omega
  have hcl : ∀ c, c < 2 → f_X11_sees M (nI a) y (nI c) = (if y < nI lo then (some ((-1 : Int32), M)) else (if y ≤ nI hi then (zbi (f_X8_add M (nI a) y (nI c)) (fun r14 M15 => if r14 = 0 then (some ((-3 : Int32), M15)) else (some (M15.1 13 4, M15)))) else (some ((-1 : Int32), M)))) := by
    intro c hc
    show f_X11_sees_0 _ _ _ M = _
    rw [f_X11_sees_0, if_neg (nI_pos (by omega)), if_neg (show ¬ (1 : Int32) < nI a from nI_nlt (a := 1) (by omega) (by decide)), if_neg (nI_pos (by omega)), if_pos (show nI c ≤ (1 : Int32) from nI_le (b := 1) (by omega) (by decide)), (c_least h).1, zbi_s, (c_least h).2, zbi_s]
  have hrl : ∀ M' : zM, f_X12_sees M' (nI a) y w = zbi (f_X12_in M' y.toInt64 (lN lo) (lN hi)) (fun r7 M8 => if r7 = 0 then (some ((-1 : Int32), M8)) else (f_X12_sees_38 (nI a) y w M8)) := by
    intro M'
    show f_X12_sees_0 _ _ _ M' = _
    rw [f_X12_sees_0, r_isBitT ha, zbi_s, if_neg (by decide)]
    rcases h with ⟨rfl, rfl, rfl⟩ | ⟨rfl, rfl, rfl⟩
    · rw [if_pos (by rfl)]; rfl
    · rw [if_neg (by decide)]; rfl
  have tlo : (lN lo).toInt = (lo : Int) := lN_toInt (by omega)
  have thi : (lN hi).toInt = (hi : Int) := lN_toInt (by omega)
  by_cases hin : (lo : Int) ≤ y.toInt ∧ y.toInt ≤ hi
  · have hri : ∀ M' : zM, f_X12_sees M' (nI a) y w = f_X12_sees_38 (nI a) y w M' := by
      intro M'
      rw [hrl, r_inT tlo thi hin, zbi_s, if_neg (by decide)]
    have bad : w < 0 ∨ nI 2 ≤ w → wOp n M (fun M => f_X11_sees M (nI a) y w) (fun M => f_X12_sees M (nI a) y w) := by
      intro hw
      refine wOp_same X (-1) ?_ ?_
      · show f_X11_sees_0 _ _ _ M = _
        rw [f_X11_sees_0, if_neg (nI_pos (by omega)), if_neg (show ¬ (1 : Int32) < nI a from nI_nlt (a := 1) (by omega) (by decide))]
        by_cases h1 : w < 0
        · rw [if_pos h1]
        · rw [if_neg h1, if_neg (show ¬ w ≤ (1 : Int32) from big_nle (n := 2) (m := 1) (hw.resolve_left h1) (by decide) (by decide))]
      · show f_X12_sees M (nI a) y w = _
        rw [hri, f_X12_sees_38, r_isBitF hw, zbi_s, if_pos rfl]
    rcases pk_ix w (n := 2) (by decide) with hw | hw | ⟨c, hc, rfl⟩
    · exact bad (Or.inl hw)
    · exact bad (Or.inr hw)
    obtain ⟨R, W, H, S, a1, a2, a3, a4, a5, a6, a7⟩ := id X
    obtain ⟨z, z1, z2, z3, z4⟩ := a5
    have hlow : ¬ y < nI lo := by
      rw [i_lt, nI_t (by omega)]
      omega
    have hhigh : y ≤ nI hi := by
      rw [i_le, nI_t (by omega)]
      omega
    have hc2 := hcl c hc
    rw [if_neg hlow, if_pos hhigh] at hc2
    by_cases hz : z = 6
    · subst hz
      refine wOp_same X (-3) ?_ ?_
      · show f_X11_sees M (nI a) y (nI c) = _
        rw [hc2]
        show zbi (f_X8_add_0 _ _ _ M) _ = _
        rw [f_X8_add_0, z2, if_neg (show ¬ nI 6 < (6 : Int32) from nI_nlt (b := 6) (by decide) (by decide)), zbi_s, if_pos rfl]
      · show f_X12_sees M (nI a) y (nI c) = _
        rw [hri, f_X12_sees_38, r_isBitT hc, zbi_s, if_neg (by decide), z3, if_pos (by rfl)]
    · have hz6 : z < 6 := by omega
      have g1 : ∀ v, (zs M 14 z v).1 13 4 = nI z := fun v => by rw [zs_ne (by decide)]; exact z2
      have g2 : ∀ v u, (zs (zs M 14 z v) 15 z u).1 13 4 = nI z := fun v u => by rw [zs_ne (by decide)]; exact g1 v
      refine ⟨nI (z + 1), zs (zs (zs (zs M 14 z (nI a)) 15 z y) 16 z (nI c)) 13 4 (nI (z + 1)), zs (zs (zs (zs (zs (zs (zs (zs M 14 z (nI a)) 15 z y) 16 z (nI c)) 13 4 (nI (z + 1))) 33 (3 * z) (nI a)) 33 (3 * z + 1) y) 33 (3 * z + 2) (nI c)) 25 13 (nI (z + 1)), ?_, ?_, ?_⟩
      · show f_X11_sees M (nI a) y (nI c) = _
        rw [hc2]
        show zbi (f_X8_add_0 _ _ _ M) _ = _
        have g3 : (zs (zs (zs M 14 z (nI a)) 15 z y) 16 z (nI c)).1 13 4 = nI z := by rw [zs_ne (by decide)]; exact g2 _ _
        rw [f_X8_add_0, z2, if_pos (show nI z < (6 : Int32) from nI_lt (b := 6) hz6 (by decide)), zg_in hz6 (by decide), nI_clamp (by omega), g1, zg_in hz6 (by decide), nI_clamp (by omega), g2, zg_in hz6 (by decide), nI_clamp (by omega), f_X8_add_41, g3, nI_1, zbi_s, if_neg (by decide), zs_row, upd_s]
      · show f_X12_sees _ (nI a) y (nI c) = _
        have k0 : (zs (zs (zs (zs M 14 z (nI a)) 15 z y) 16 z (nI c)) 13 4 (nI (z + 1))).1 25 13 = nI z := by rw [zs_ne (by decide), zs_ne (by decide), zs_ne (by decide), zs_ne (by decide)]; exact z3
        rw [hri]
        generalize zs (zs (zs (zs M 14 z (nI a)) 15 z y) 16 z (nI c)) 13 4 (nI (z + 1)) = M' at k0 ⊢
        have k1 : ∀ j v, (zs M' 33 j v).1 25 13 = nI z := fun j v => by rw [zs_ne (by decide)]; exact k0
        have k2 : ∀ j v i u, (zs (zs M' 33 j v) 33 i u).1 25 13 = nI z := fun j v i u => by rw [zs_ne (by decide)]; exact k1 j v
        have k3 : ∀ j v i u l t, (zs (zs (zs M' 33 j v) 33 i u) 33 l t).1 25 13 = nI z := fun j v i u l t => by rw [zs_ne (by decide)]; exact k2 j v i u
        rw [f_X12_sees_38, r_isBitT hc, zbi_s, if_neg (by decide), k0, if_neg (show ¬ nI z = (6 : Int32) from fun q => hz ((nI_eq (b := 6) (by omega) (by decide)).mp q)), x3m, zg_in (j := 3 * z) (by omega) (by decide), nI_clamp (n := 3 * z) (by omega), k1, x3m, nI_1, zg_in (j := 3 * z + 1) (by omega) (by decide), nI_clamp (n := 3 * z + 1) (by omega), f_X12_sees_85, k2, x3m, show nI (3 * z) + (2 : Int32) = nI (3 * z + 2) from nI_add (3 * z) 2, zg_in (j := 3 * z + 2) (by omega) (by decide), nI_clamp (n := 3 * z + 2) (by omega), k3, nI_1, f_X12_sees_109, zs_row, upd_s]
      · refine wI_seen (wI_mono (Nat.le_succ _) X) (fun q h1 h33 h25 => ?_) (fun k hk => ?_) rfl ⟨z + 1, by omega, ?_, ?_, fun k hk => ?_⟩
        · rw [zs_ne h25, zs_ne h33, zs_ne h33, zs_ne h33, zs_ne (by omega), zs_ne (by omega), zs_ne (by omega), zs_ne (by omega)]
        · rw [zs_row, upd_n hk, zs_ne (by decide), zs_ne (by decide), zs_ne (by decide), zs_ne (by decide), zs_ne (by decide), zs_ne (by decide), zs_ne (by decide)]
        · rw [zs_ne (by decide), zs_ne (by decide), zs_ne (by decide), zs_ne (by decide), zs_row, upd_s]
        · rw [zs_row, upd_s]
        · have e14 : (zs (zs (zs (zs (zs (zs (zs (zs M 14 z (nI a)) 15 z y) 16 z (nI c)) 13 4 (nI (z + 1))) 33 (3 * z) (nI a)) 33 (3 * z + 1) y) 33 (3 * z + 2) (nI c)) 25 13 (nI (z + 1))).1 14 = upd (M.1 14) z (nI a) := by rw [zs_ne (by decide), zs_ne (by decide), zs_ne (by decide), zs_ne (by decide), zs_ne (by decide), zs_ne (by decide), zs_ne (by decide), zs_row]
          have e15 : (zs (zs (zs (zs (zs (zs (zs (zs M 14 z (nI a)) 15 z y) 16 z (nI c)) 13 4 (nI (z + 1))) 33 (3 * z) (nI a)) 33 (3 * z + 1) y) 33 (3 * z + 2) (nI c)) 25 13 (nI (z + 1))).1 15 = upd (M.1 15) z y := by rw [zs_ne (by decide), zs_ne (by decide), zs_ne (by decide), zs_ne (by decide), zs_ne (by decide), zs_ne (by decide), zs_row, zs_ne (by decide)]
          have e16 : (zs (zs (zs (zs (zs (zs (zs (zs M 14 z (nI a)) 15 z y) 16 z (nI c)) 13 4 (nI (z + 1))) 33 (3 * z) (nI a)) 33 (3 * z + 1) y) 33 (3 * z + 2) (nI c)) 25 13 (nI (z + 1))).1 16 = upd (M.1 16) z (nI c) := by rw [zs_ne (by decide), zs_ne (by decide), zs_ne (by decide), zs_ne (by decide), zs_ne (by decide), zs_row, zs_ne (by decide), zs_ne (by decide)]
          have e33 : (zs (zs (zs (zs (zs (zs (zs (zs M 14 z (nI a)) 15 z y) 16 z (nI c)) 13 4 (nI (z + 1))) 33 (3 * z) (nI a)) 33 (3 * z + 1) y) 33 (3 * z + 2) (nI c)) 25 13 (nI (z + 1))).1 33 = upd (upd (upd (M.1 33) (3 * z) (nI a)) (3 * z + 1) y) (3 * z + 2) (nI c) := by rw [zs_ne (by decide), zs_row, zs_row, zs_row, zs_ne (by decide), zs_ne (by decide), zs_ne (by decide), zs_ne (by decide)]
          rw [e14, e15, e16, e33]
          by_cases hkz : k = z
          · subst hkz
            rw [upd_s, upd_s, upd_s, upd_n (by omega), upd_n (by omega), upd_s, upd_n (by omega), upd_s, upd_s]
            exact ⟨rfl, rfl, rfl⟩
          · rw [upd_n hkz, upd_n hkz, upd_n hkz, upd_n (by omega), upd_n (by omega), upd_n (by omega), upd_n (by omega), upd_n (by omega), upd_n (by omega), upd_n (by omega), upd_n (by omega), upd_n (by omega)]
            exact z4 k (by omega)
  · refine wOp_same X (-1) ?_ ?_
    · show f_X11_sees_0 _ _ _ M = _
      rw [f_X11_sees_0, if_neg (nI_pos (by omega)), if_neg (show ¬ (1 : Int32) < nI a from nI_nlt (a := 1) (by omega) (by decide))]
      by_cases h1 : w < 0
      · rw [if_pos h1]
      · rw [if_neg h1]
        by_cases h2 : w ≤ (1 : Int32)
        · rw [if_pos h2, (c_least h).1, zbi_s]
          by_cases h3 : y < nI lo
          · rw [if_pos h3]
          · rw [if_neg h3, (c_least h).2, zbi_s, if_neg]
            intro h4
            apply hin
            rw [i_lt, nI_t (by omega)] at h3
            rw [i_le, nI_t (by omega)] at h4
            omega
        · rw [if_neg h2]
    · show f_X12_sees M (nI a) y w = _
      rw [hrl, r_inF tlo thi hin, zbi_s, if_pos rfl]
theorem p_sees {n : Nat} {M : zM} (X : wI n M) (x y w : Int32) : wOp n M (fun M => f_X11_sees M x y w) (fun M => f_X12_sees M x y w) := by
  rcases pk_ix x (n := 2) (by decide) with h | h | ⟨a, ha, rfl⟩
  · refine wOp_same X (-1) ?_ ?_
    · show f_X11_sees_0 x y w M = _
      rw [f_X11_sees_0, if_pos h]
    · show f_X12_sees_0 x y w M = _
      rw [f_X12_sees_0, r_isBitF (Or.inl h), zbi_s, if_pos rfl]
  · refine wOp_same X (-1) ?_ ?_
    · show f_X11_sees_0 x y w M = _
      rw [f_X11_sees_0, if_neg (big_nn h (by decide)), if_pos (show (1 : Int32) < x from by rw [i_lt]; have := big_t h (by decide); have e : (1 : Int32).toInt = 1 := rfl; omega)]
    · show f_X12_sees_0 x y w M = _
      rw [f_X12_sees_0, r_isBitF (Or.inr h), zbi_s, if_pos rfl]
  · obtain rfl | rfl : a = 0 ∨ a = 1 := by omega
    · exact p_seesA X (Or.inl ⟨rfl, rfl, rfl⟩) y w
    · exact p_seesA X (Or.inr ⟨rfl, rfl, rfl⟩) y w
