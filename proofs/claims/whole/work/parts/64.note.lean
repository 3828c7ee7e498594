/-! what is noted ahead of a thing done -/
theorem r_notes49 {M : zM} {u : Nat} (hu : M.1 25 9 = nI u) (h : u < 10) : f_X12_notes_49 M = some (zs (zr M 30 (va_cpy (M.1 28) (M.1 30) 0 (47 * u) 47)) 25 9 (nI (u + 1))) := by
  rw [f_X12_notes_49, hu, r_copiesE (M := M) (p0 := 28) (n0 := 47) (p2 := 30) (n2 := 470) (i := 0) (j := 47 * u) (m := 47) (x1 := 0) (x4 := 47) rfl (m47 u) rfl (by decide) (by decide) (by omega) (by decide) (by decide) (by decide), zbv_s, zr_ne (by decide), hu, nI_1]
def rSh (r : Nat → Int32) (q : Nat) : Nat → Int32 := fun k => if k < q then r (k + 47) else r k
theorem r_notes11 {M : zM} : ∀ k q n, q + k = 423 → k < n → f_X12_notes_11 n (zr M 30 (rSh (M.1 30) q)) (nI q) = f_X12_notes_49 (zs (zr M 30 (rSh (M.1 30) 423)) 25 9 (M.1 25 9 - 1)) := by
  intro k
  induction k with
  | zero =>
    intro q n hq hn
    obtain ⟨n, rfl⟩ : ∃ x, n = x + 1 := ⟨n - 1, by omega⟩
    obtain rfl : q = 423 := by omega
    rw [f_X12_notes_11, if_pos (show (423 : Int32) ≤ nI 423 from Int32.le_refl _), zr_ne (by decide)]
  | succ k ih =>
    intro q n hq hn
    obtain ⟨n, rfl⟩ : ∃ x, n = x + 1 := ⟨n - 1, by omega⟩
    rw [f_X12_notes_11, if_neg (show ¬ (423 : Int32) ≤ nI q from nI_ge (b := 423) (by omega) (by decide)), show nI q + (47 : Int32) = nI (q + 47) from nI_add q 47, zg_in (j := q + 47) (by omega) (by decide), zg_in (j := q) (by omega) (by decide), nI_clamp (n := q + 47) (by omega), nI_clamp (n := q) (by omega), zr_row, nI_1]
    have e : zs (zr M 30 (rSh (M.1 30) q)) 30 q (rSh (M.1 30) q (q + 47)) = zr M 30 (rSh (M.1 30) (q + 1)) := by
      unfold zs
      rw [zr_row, zr_zr]
      congr 1
      funext x
      unfold rSh upd
      dsimp only
      rw [if_neg (show ¬ q + 47 < q by omega)]
      by_cases hx : x = q
      · subst hx
        rw [if_pos rfl, if_pos (by omega)]
      · rw [if_neg hx]
        by_cases hx2 : x < q
        · rw [if_pos hx2, if_pos (by omega)]
        · rw [if_neg hx2, if_neg (by omega)]
    rw [e]
    exact ih (q + 1) n (by omega) (by omega)
theorem wNote {n R S : Nat} {M : zM} (Pa : wPa n R S M) (Mo : wMoE n R S (fun i => M.1 (37 + i)) (M.1 28)) : ∃ M1, f_X6_remember M 37 = some M1 ∧ (∀ q, q ≠ 9 → ¬ (49 ≤ q ∧ q < 109) → M1.1 q = M.1 q) ∧ M1.2 = M.2 ∧ ∀ M2 : zM, M2.1 25 9 = M.1 25 9 → M2.1 28 = M.1 28 → M2.1 30 = M.1 30 → ∃ M3, f_X12_notes M2 = some M3 ∧ (∀ q, q ≠ 25 → q ≠ 30 → M3.1 q = M2.1 q) ∧ (∀ j, j ≠ 9 → M3.1 25 j = M2.1 25 j) ∧ M3.2 = M2.2 ∧ ∀ M4 : zM, M4.1 9 = M1.1 9 → (∀ q, 49 ≤ q → q < 109 → M4.1 q = M1.1 q) → M4.1 25 9 = M3.1 25 9 → M4.1 30 = M3.1 30 → wPa n R S M4 := by
  obtain ⟨o, z, z1, z2, z3, z4, z5, z6⟩ := Pa
  have hm : (o + z) % 10 < 10 := Nat.mod_lt _ (by omega)
  obtain ⟨Mc, c1, c2, c3, c4, c5, c6⟩ := c_copy (M := M) (c := 49 + 6 * ((o + z) % 10)) (p := 37) (Or.inr (by omega))
  have c9 : Mc.1 9 = M.1 9 := c2 9 (by omega)
  have hr : f_X6_remember M 37 = if (10 : Int32) ≤ nI z then (some (zs Mc 9 1 (nI ((o + 1) % 10)))) else (some (zs Mc 9 2 (nI (z + 1)))) := by
    show f_X6_remember_0 37 M = _
    rw [f_X6_remember_0, z3, z4, nI_add, rem10 (by omega), zg_in hm (by decide), nI_clamp (by omega), c1, zbv_s, c9, z3, z4, nI_1, nI_1, rem10 (by omega)]
  by_cases hz : z = 10
  · subst hz
    refine ⟨zs Mc 9 1 (nI ((o + 1) % 10)), by rw [hr, if_pos (show (10 : Int32) ≤ nI 10 from Int32.le_refl _)], fun q h1 h2 => by rw [zs_ne h1, c2 q (by omega)], c3, fun M2 m1 m2 m3 => ?_⟩
    refine ⟨zs (zr (zs (zr M2 30 (rSh (M2.1 30) 423)) 25 9 (nI 9)) 30 (va_cpy (M2.1 28) (rSh (M2.1 30) 423) 0 (47 * 9) 47)) 25 9 (nI (9 + 1)), ?_, fun q h1 h2 => by rw [zs_ne h1, zr_ne h2, zs_ne h1, zr_ne h2], fun j hj => by rw [zs_row, upd_n hj, zr_ne (by decide), zs_row, upd_n hj, zr_ne (by decide)], rfl, fun M4 w1 w2 w3 w4 => ?_⟩
    · show f_X12_notes_0 M2 = _
      have e0 : M2 = zr M2 30 (rSh (M2.1 30) 0) := by
        have : rSh (M2.1 30) 0 = M2.1 30 := by
          funext x
          unfold rSh
          rw [if_neg (Nat.not_lt_zero _)]
        rw [this, zr_self]
      have key := r_notes11 (M := M2) 423 0 zFU (by omega) (zFU_gt (by omega))
      rw [← e0, nI_0, m1, z5, show nI 10 - 1 = nI 9 from nI_pred 9] at key
      rw [f_X12_notes_0, m1, z5, if_pos (by rfl), key, r_notes49 (u := 9) (by rw [zs_row, upd_s]) (by decide), zs_ne (q := 28) (by decide), zr_ne (q := 28) (by decide), zs_ne (q := 30) (by decide), zr_row]
    · rw [zs_row, upd_s] at w3
      rw [zs_ne (by decide), zr_row] at w4
      refine ⟨(o + 1) % 10, 10, Nat.mod_lt _ (by omega), by omega, by rw [w1, zs_row, upd_s], by rw [w1, zs_row, upd_n (by decide), c9]; exact z4, w3, fun k hk => ?_⟩
      by_cases hk9 : k = 9
      · subst hk9
        have e : ((o + 1) % 10 + 9) % 10 = (o + 10) % 10 := by omega
        rw [e]
        refine wMoE_tr Mo ?_ ?_ (fun i j h1 h5 hj => ?_) (fun j hj => ?_)
        · show M4.1 (49 + 6 * ((o + 10) % 10)) 1 = M.1 37 1; rw [w2 _ (by omega) (by omega), zs_ne (by omega)]; exact c4
        · show M4.1 (49 + 6 * ((o + 10) % 10)) 2 = M.1 37 2; rw [w2 _ (by omega) (by omega), zs_ne (by omega)]; exact c5
        · show M4.1 (49 + 6 * ((o + 10) % 10) + i) j = M.1 (37 + i) j; rw [w2 _ (by omega) (by omega), zs_ne (by omega)]; exact c6 i j h1 h5 hj
        · show M4.1 30 (47 * 9 + j) = M.1 28 j
          rw [w4, cpy_i hj, Nat.zero_add, m2]
      · have e : ((o + 1) % 10 + k) % 10 = (o + (k + 1)) % 10 := by omega
        rw [e]
        have hm2 : (o + (k + 1)) % 10 < 10 := Nat.mod_lt _ (by omega)
        refine wMoE_tr (z6 (k + 1) (by omega)) ?_ ?_ (fun i j h1 h5 hj => ?_) (fun j hj => ?_)
        · show M4.1 (49 + 6 * ((o + (k + 1)) % 10)) 1 = M.1 (49 + 6 * ((o + (k + 1)) % 10)) 1; rw [w2 _ (by omega) (by omega), zs_ne (by omega), c2 _ (by omega)]
        · show M4.1 (49 + 6 * ((o + (k + 1)) % 10)) 2 = M.1 (49 + 6 * ((o + (k + 1)) % 10)) 2; rw [w2 _ (by omega) (by omega), zs_ne (by omega), c2 _ (by omega)]
        · show M4.1 (49 + 6 * ((o + (k + 1)) % 10) + i) j = M.1 (49 + 6 * ((o + (k + 1)) % 10) + i) j; rw [w2 _ (by omega) (by omega), zs_ne (by omega), c2 _ (by omega)]
        · show M4.1 30 (47 * k + j) = M.1 30 (47 * (k + 1) + j)
          rw [w4, pk_cpy_out (by omega), rSh, if_pos (by omega), m3, show 47 * k + j + 47 = 47 * (k + 1) + j by omega]
  · refine ⟨zs Mc 9 2 (nI (z + 1)), by rw [hr, if_neg (show ¬ (10 : Int32) ≤ nI z from nI_ge (b := 10) (by omega) (by decide))], fun q h1 h2 => by rw [zs_ne h1, c2 q (by omega)], c3, fun M2 m1 m2 m3 => ?_⟩
    refine ⟨zs (zr M2 30 (va_cpy (M2.1 28) (M2.1 30) 0 (47 * z) 47)) 25 9 (nI (z + 1)), ?_, fun q h1 h2 => by rw [zs_ne h1, zr_ne h2], fun j hj => by rw [zs_row, upd_n hj, zr_ne (by decide)], rfl, fun M4 w1 w2 w3 w4 => ?_⟩
    · show f_X12_notes_0 M2 = _
      rw [f_X12_notes_0, m1, z5, if_neg (show ¬ nI z = (10 : Int32) from fun q => hz ((nI_eq (b := 10) (by omega) (by decide)).mp q)), r_notes49 (m1.trans z5) (by omega)]
    · rw [zs_row, upd_s] at w3
      rw [zs_ne (by decide), zr_row] at w4
      refine ⟨o, z + 1, z1, by omega, by rw [w1, zs_row, upd_n (by decide), c9]; exact z3, by rw [w1, zs_row, upd_s], w3, fun k hk => ?_⟩
      by_cases hkz : k = z
      · subst hkz
        refine wMoE_tr Mo ?_ ?_ (fun i j h1 h5 hj => ?_) (fun j hj => ?_)
        · show M4.1 (49 + 6 * ((o + k) % 10)) 1 = M.1 37 1; rw [w2 _ (by omega) (by omega), zs_ne (by omega)]; exact c4
        · show M4.1 (49 + 6 * ((o + k) % 10)) 2 = M.1 37 2; rw [w2 _ (by omega) (by omega), zs_ne (by omega)]; exact c5
        · show M4.1 (49 + 6 * ((o + k) % 10) + i) j = M.1 (37 + i) j; rw [w2 _ (by omega) (by omega), zs_ne (by omega)]; exact c6 i j h1 h5 hj
        · show M4.1 30 (47 * k + j) = M.1 28 j
          rw [w4, cpy_i hj, Nat.zero_add, m2]
      · have hm2 : (o + k) % 10 < 10 := Nat.mod_lt _ (by omega)
        refine wMoE_tr (z6 k (by omega)) ?_ ?_ (fun i j h1 h5 hj => ?_) (fun j hj => ?_)
        · show M4.1 (49 + 6 * ((o + k) % 10)) 1 = M.1 (49 + 6 * ((o + k) % 10)) 1; rw [w2 _ (by omega) (by omega), zs_ne (by omega), c2 _ (by omega)]
        · show M4.1 (49 + 6 * ((o + k) % 10)) 2 = M.1 (49 + 6 * ((o + k) % 10)) 2; rw [w2 _ (by omega) (by omega), zs_ne (by omega), c2 _ (by omega)]
        · show M4.1 (49 + 6 * ((o + k) % 10) + i) j = M.1 (49 + 6 * ((o + k) % 10) + i) j; rw [w2 _ (by omega) (by omega), zs_ne (by omega), c2 _ (by omega)]
        · show M4.1 30 (47 * k + j) = M.1 30 (47 * k + j)
          rw [w4, pk_cpy_out (by omega), m3]
