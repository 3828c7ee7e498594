/-! door -/
theorem zcp6 {M : zM} {a0 a : Nat} {j : Nat} (hj : j < 6) : (zcp M a0 a 0 0 6).1 a j = M.1 a0 j := by
  unfold zcp
  rw [zr_row]
  exact (pk_cpy_in (Nat.zero_le _) (by show j < 0 + 6; omega)).trans (by show M.1 a0 (0 + (j - 0)) = _; rw [Nat.sub_zero, Nat.zero_add])
theorem c_pcopy (M : zM) : ∃ M7, f_X7_copy M 3 6 = some M7 ∧ (∀ q, q ≠ 3 → q ≠ 4 → q ≠ 5 → M7.1 q = M.1 q) ∧ M7.2 = M.2 ∧ M7.1 3 0 = M.1 6 0 ∧ M7.1 3 1 = M.1 6 1 ∧ M7.1 3 2 = M.1 6 2 ∧ M7.1 3 3 = M.1 6 3 ∧ ∀ j, j < 6 → M7.1 4 j = M.1 7 j ∧ M7.1 5 j = M.1 8 j := by
  refine ⟨_, rfl, fun q h3 h4 h5 => ?_, rfl, ?_, ?_, ?_, ?_, fun j hj => ⟨?_, ?_⟩⟩
  · rw [zcp_ne (by omega), zcp_ne (by omega), zs_ne h3, zs_ne h3, zs_ne h3, zs_ne h3]
  · rw [zcp_ne (by decide), zcp_ne (by decide), zs_row, upd_n (by decide), zs_row, upd_n (by decide), zs_row, upd_n (by decide), zs_row, upd_s]
  · rw [zcp_ne (by decide), zcp_ne (by decide), zs_row, upd_n (by decide), zs_row, upd_n (by decide), zs_row, upd_s, zs_ne (by decide)]
  · rw [zcp_ne (by decide), zcp_ne (by decide), zs_row, upd_n (by decide), zs_row, upd_s, zs_ne (by decide), zs_ne (by decide)]
  · rw [zcp_ne (by decide), zcp_ne (by decide), zs_row, upd_s, zs_ne (by decide), zs_ne (by decide), zs_ne (by decide)]
  · rw [zcp_ne (by decide)]
    show (zcp _ 7 4 0 0 6).1 4 j = _
    rw [zcp6 hj, zs_ne (by decide), zs_ne (by decide), zs_ne (by decide), zs_ne (by decide)]
  · show (zcp _ 8 5 0 0 6).1 5 j = _
    rw [zcp6 hj, zcp_ne (by decide), zs_ne (by decide), zs_ne (by decide), zs_ne (by decide), zs_ne (by decide)]
theorem c_door62 (M : zM) (x : Int32) : f_X11_door_62 zFU M x 0 = some (x, zs (zs M 12 0 0) 12 1 0) := by
  show f_X11_door_62 (1997 + 1 + 1 + 1) M x 0 = _
  rw [f_X11_door_62, if_neg (by decide), zg_t (by decide), sb_cl0, show (0 : Int32) + 1 = 1 from rfl, f_X11_door_62, if_neg (by decide), zg_t (by decide), cl1, show (1 : Int32) + 1 = 2 from rfl, f_X11_door_62, if_pos (by decide)]
def rZe (r : Nat → Int32) (q : Nat) : Nat → Int32 := fun k => if k < q then 0 else r k
theorem r_door88 {M : zM} (x : Int32) : ∀ k q n, q + k = 47 → k < n → f_X12_door_88 n (zr M 28 (rZe (M.1 28) q)) x (nI q) = some (x, zs (zs (zs (zs (zs (zr M 28 (rZe (M.1 28) 47)) 25 9 0) 25 13 0) 32 0 0) 32 1 0) 25 16 0) := by
  intro k
  induction k with
  | zero =>
    intro q n hq hn
    obtain ⟨n, rfl⟩ : ∃ x, n = x + 1 := ⟨n - 1, by omega⟩
    obtain rfl : q = 47 := by omega
    rw [f_X12_door_88, if_pos (show (47 : Int32) ≤ nI 47 from Int32.le_refl _), zg_t (by decide), zg_t (by decide), sb_cl0, cl1]
    rfl
  | succ k ih =>
    intro q n hq hn
    obtain ⟨n, rfl⟩ : ∃ x, n = x + 1 := ⟨n - 1, by omega⟩
    rw [f_X12_door_88, if_neg (show ¬ (47 : Int32) ≤ nI q from nI_ge (b := 47) (by omega) (by decide)), zg_in (by omega) (by decide), nI_clamp (by omega), nI_1]
    have e : zs (zr M 28 (rZe (M.1 28) q)) 28 q 0 = zr M 28 (rZe (M.1 28) (q + 1)) := by
      unfold zs
      rw [zr_row, zr_zr]
      congr 1
      funext x
      unfold rZe upd
      dsimp only
      by_cases hx : x = q
      · subst hx
        rw [if_pos rfl, if_pos (by omega)]
      · rw [if_neg hx]
        by_cases hx2 : x < q
        · rw [if_pos hx2, if_pos (by omega)]
        · rw [if_neg hx2, if_neg (by omega)]
    rw [e]
    exact ih (q + 1) n (by omega) (by omega)
theorem r_door45 (M : zM) (x s0 : Int32) : ∃ M', f_X12_door_45 M x s0 = some (x, M') ∧ (∀ q, q ≠ 25 → q ≠ 26 → q ≠ 27 → q ≠ 28 → q ≠ 32 → M'.1 q = M.1 q) ∧ M'.2 = M.2 ∧ M'.1 25 0 = M.1 25 0 ∧ M'.1 25 1 = M.1 25 1 ∧ M'.1 25 2 = s0 ∧ M'.1 25 3 = M.1 25 24 ∧ M'.1 25 9 = 0 ∧ M'.1 25 13 = 0 ∧ M'.1 25 16 = 0 ∧ M'.1 32 0 = 0 ∧ M'.1 32 1 = 0 ∧ M'.1 28 0 = 0 ∧ M'.1 28 1 = 0 ∧ ∀ j, j < 6 → M'.1 26 j = M.1 35 j ∧ M'.1 27 j = M.1 36 j := by
  generalize hN : zs (zs M 25 2 s0) 25 3 ((zs M 25 2 s0).1 25 24) = N
  have n24 : N.1 25 = upd (upd (M.1 25) 2 s0) 3 (M.1 25 24) := by rw [← hN, zs_row, zs_row, upd_n (by decide)]
  have nq : ∀ q, q ≠ 25 → N.1 q = M.1 q := fun q hq => by rw [← hN, zs_ne hq, zs_ne hq]
  have nL : N.2 = M.2 := by rw [← hN]; rfl
  generalize hO : zr (zr N 26 (va_cpy (N.1 35) (N.1 26) 0 0 6)) 27 (va_cpy (N.1 36) (N.1 27) 0 0 6) = O
  have oq : ∀ q, q ≠ 26 → q ≠ 27 → O.1 q = N.1 q := fun q h1 h2 => by rw [← hO, zr_ne h2, zr_ne h1]
  have o26 : O.1 26 = va_cpy (N.1 35) (N.1 26) 0 0 6 := by rw [← hO, zr_ne (by decide), zr_row]
  have o27 : O.1 27 = va_cpy (N.1 36) (N.1 27) 0 0 6 := by rw [← hO, zr_row]
  have oL : O.2 = N.2 := by rw [← hO]; rfl
  have e0 : O = zr O 28 (rZe (O.1 28) 0) := by
    have : rZe (O.1 28) 0 = O.1 28 := by
      funext x
      unfold rZe
      rw [if_neg (Nat.not_lt_zero _)]
    rw [this, zr_self]
  have key := r_door88 (M := O) x 47 0 zFU (by omega) (zFU_gt (by omega))
  rw [← e0, nI_0] at key
  refine ⟨zs (zs (zs (zs (zs (zr O 28 (rZe (O.1 28) 47)) 25 9 0) 25 13 0) 32 0 0) 32 1 0) 25 16 0, ?_, fun q h25 h26 h27 h28 h32 => ?_, ?_, ?_, ?_, ?_, ?_, ?_, ?_, ?_, ?_, ?_, ?_, ?_, fun j hj => ⟨?_, ?_⟩⟩
  · rw [f_X12_door_45, hN, r_copiesE (M := N) (p0 := 35) (n0 := 6) (p2 := 26) (n2 := 6) (i := 0) (j := 0) (m := 6) (x1 := 0) (x3 := 0) (x4 := 6) rfl rfl rfl (by decide) (by decide) (by decide) (by decide) (by decide) (by decide), zbv_s, r_copiesE (M := zr N 26 (va_cpy (N.1 35) (N.1 26) 0 0 6)) (p0 := 36) (n0 := 6) (p2 := 27) (n2 := 6) (i := 0) (j := 0) (m := 6) (x1 := 0) (x3 := 0) (x4 := 6) rfl rfl rfl (by decide) (by decide) (by decide) (by decide) (by decide) (by decide), zbv_s, zr_ne (q := 36) (by decide), zr_ne (q := 27) (by decide), hO, key]
  · rw [zs_ne h25, zs_ne h32, zs_ne h32, zs_ne h25, zs_ne h25, zr_ne h28, oq q h26 h27, nq q h25]
  · show O.2 = M.2
    rw [oL, nL]
  · rw [zs_row, upd_n (by decide), zs_ne (by decide), zs_ne (by decide), zs_row, upd_n (by decide), zs_row, upd_n (by decide), zr_ne (by decide), oq 25 (by decide) (by decide), n24, upd_n (by decide), upd_n (by decide)]
  · rw [zs_row, upd_n (by decide), zs_ne (by decide), zs_ne (by decide), zs_row, upd_n (by decide), zs_row, upd_n (by decide), zr_ne (by decide), oq 25 (by decide) (by decide), n24, upd_n (by decide), upd_n (by decide)]
  · rw [zs_row, upd_n (by decide), zs_ne (by decide), zs_ne (by decide), zs_row, upd_n (by decide), zs_row, upd_n (by decide), zr_ne (by decide), oq 25 (by decide) (by decide), n24, upd_n (by decide), upd_s]
  · rw [zs_row, upd_n (by decide), zs_ne (by decide), zs_ne (by decide), zs_row, upd_n (by decide), zs_row, upd_n (by decide), zr_ne (by decide), oq 25 (by decide) (by decide), n24, upd_s]
  · rw [zs_row, upd_n (by decide), zs_ne (by decide), zs_ne (by decide), zs_row, upd_n (by decide), zs_row, upd_s]
  · rw [zs_row, upd_n (by decide), zs_ne (by decide), zs_ne (by decide), zs_row, upd_s]
  · rw [zs_row, upd_s]
  · rw [zs_ne (by decide), zs_row, upd_n (by decide), zs_row, upd_s]
  · rw [zs_ne (by decide), zs_row, upd_s]
  · rw [zs_ne (by decide), zs_ne (by decide), zs_ne (by decide), zs_ne (by decide), zs_ne (by decide), zr_row]
    rfl
  · rw [zs_ne (by decide), zs_ne (by decide), zs_ne (by decide), zs_ne (by decide), zs_ne (by decide), zr_row]
    rfl
  · rw [zs_ne (by decide), zs_ne (by decide), zs_ne (by decide), zs_ne (by decide), zs_ne (by decide), zr_ne (by decide), o26, pk_cpy_in (Nat.zero_le _) (by omega), Nat.sub_zero, Nat.zero_add, nq 35 (by decide)]
  · rw [zs_ne (by decide), zs_ne (by decide), zs_ne (by decide), zs_ne (by decide), zs_ne (by decide), zr_ne (by decide), o27, pk_cpy_in (Nat.zero_le _) (by omega), Nat.sub_zero, Nat.zero_add, nq 36 (by decide)]
theorem p_door {n : Nat} {M : zM} (X : wI n M) : wOp n M (fun M => f_X11_door M) (fun M => f_X12_door M) := by
  obtain ⟨R0, W0, H0, S0, a1, a2, a3, a4, a5, a6, a7⟩ := id X
  obtain ⟨L, l1, l2, l3, l4⟩ := id a6
  generalize hC : zs (zs (zs (zs (zs (zs M 6 0 4) 6 1 2) 6 2 3) 6 3 0) 1 6 0) 1 2 0 = Mc0
  have cq : ∀ q, q ≠ 1 → q ≠ 6 → Mc0.1 q = M.1 q := fun q h1 h6 => by rw [← hC, zs_ne h1, zs_ne h1, zs_ne h6, zs_ne h6, zs_ne h6, zs_ne h6]
  have c1 : Mc0.1 1 = upd (upd (M.1 1) 6 0) 2 0 := by rw [← hC, zs_row, zs_row, zs_ne (by decide), zs_ne (by decide), zs_ne (by decide), zs_ne (by decide)]
  have c6 : Mc0.1 6 = upd (upd (upd (upd (M.1 6) 0 4) 1 2) 2 3) 3 0 := by rw [← hC, zs_ne (by decide), zs_ne (by decide), zs_row, zs_row, zs_row, zs_row]
  have cL : Mc0.2 = M.2 := by rw [← hC]; rfl
  have hct : f_X10_tellTo M 6 = f_X10_tellTo_16 6 zFU Mc0 (nI 0) := by
    rw [nI_0]
    show f_X10_tellTo_0 6 M = _
    rw [f_X10_tellTo_0]
    show f_X10_tellTo_16 6 zFU (zs (zs (zs (zs (zs (zs M 6 0 4) 6 1 2) 6 2 3) 6 3 0) 1 6 0) 1 2 0) 0 = _
    rw [hC]
  have main : ∀ M1 : zM, M1.1 34 = M.1 34 → M1.1 25 16 = M.1 25 16 → ∃ r Mc' Mr', f_X10_tellTo_16 6 zFU Mc0 (nI 0) = some (r, Mc') ∧ f_X12_reads M1 = some (r, Mr') ∧ FC Mc0 Mc' ∧ FR (zs (zs (zs (zs (zs M1 25 21 4) 25 22 2) 25 23 (-9)) 25 24 0) 25 17 0) Mr' ∧ (r < 0 ∨ (∃ m' R' W' S', m' ≤ 100 ∧ r = nI m' ∧ wDr Mc' Mr' R' W' S')) := by
    intro M1 h34 h16
    generalize hR : zs (zs (zs (zs (zs M1 25 21 4) 25 22 2) 25 23 (-9)) 25 24 0) 25 17 0 = Mr0
    have rq : ∀ q, q ≠ 25 → Mr0.1 q = M1.1 q := fun q hq => by rw [← hR, zs_ne hq, zs_ne hq, zs_ne hq, zs_ne hq, zs_ne hq]
    have r25 : Mr0.1 25 = upd (upd (upd (upd (upd (M1.1 25) 21 4) 22 2) 23 (-9)) 24 0) 17 0 := by rw [← hR, zs_row, zs_row, zs_row, zs_row, zs_row]
    obtain ⟨r, Mc', Mr', e1, e2, e3⟩ := lp (L := L) (b := fun j => (M.1 2 j).toNatClampNeg) L 0 0 zFU zFU Mc0 Mr0 4 2 0 (by omega) (by omega) (zFU_gt (by omega)) (zFU_gt (by omega)) (by omega) ⟨l1, by rw [c1, upd_n (by decide), upd_n (by decide)]; exact l2, by rw [r25, upd_n (by decide), upd_n (by decide), upd_n (by decide), upd_n (by decide), upd_n (by decide), h16]; exact l3, fun j hj => by
      obtain ⟨x1, x, x2, x3⟩ := l4 j hj
      show (M.1 2 j).toNatClampNeg ≤ 255 ∧ _ = nI (M.1 2 j).toNatClampNeg ∧ _ = nI (M.1 2 j).toNatClampNeg
      rw [cq 2 (by decide) (by decide), rq 34 (by decide), h34, ← x1, x3, nI_clamp (by omega)]
      exact ⟨x2, rfl, rfl⟩⟩ (by rw [c1, upd_s, nI_0]) (by rw [r25, upd_s, nI_0]) ⟨⟨by omega, by omega, by omega, by omega⟩, by rw [c6]; rfl, by rw [r25]; rfl, by rw [c6]; rfl, by rw [r25]; rfl, by rw [c6]; rfl, by rw [r25]; rfl, Or.inl ⟨by rw [c1]; rfl, by rw [r25]; rfl, by rw [c6]; rfl⟩, fun x hx => absurd hx (Nat.not_lt_zero _)⟩
    refine ⟨r, Mc', Mr', e1, ?_, e3⟩
    show f_X12_reads_0 M1 = _
    rw [f_X12_reads_0, hR, f_X12_reads_26]
    rw [nI_0] at e2
    exact e2
  obtain ⟨r, Mc', Mr0', e1, _, f1, _, h1⟩ := main M rfl rfl
  have hFC : ∀ q, q ≠ 1 → q ≠ 6 → q ≠ 7 → q ≠ 8 → Mc'.1 q = M.1 q := fun q a1 a2 a3 a4 => by rw [f1.1 q a1 a2 a3 a4, cq q a1 a2]
  have hF11 : Mc'.1 1 1 = M.1 1 1 := by rw [f1.2.1, c1, upd_n (by decide), upd_n (by decide)]
  have hFL : Mc'.2 = M.2 := by rw [f1.2.2, cL]
  have rr : ∀ (M1 : zM) (Mr' : zM), FR (zs (zs (zs (zs (zs M1 25 21 4) 25 22 2) 25 23 (-9)) 25 24 0) 25 17 0) Mr' → (∀ q, q ≠ 25 → q ≠ 35 → q ≠ 36 → Mr'.1 q = M1.1 q) ∧ (∀ j, j < 17 → Mr'.1 25 j = M1.1 25 j) ∧ Mr'.2 = M1.2 := by
    intro M1 Mr' h
    refine ⟨fun q h1 h2 h3 => by rw [h.1 q h1 h2 h3, zs_ne h1, zs_ne h1, zs_ne h1, zs_ne h1, zs_ne h1], fun j hj => ?_, h.2.2⟩
    rw [h.2.1 j hj, zs_row, upd_n (by omega), zs_row, upd_n (by omega), zs_row, upd_n (by omega), zs_row, upd_n (by omega), zs_row, upd_n (by omega)]
  by_cases hneg : r < 0
  · obtain ⟨r2, Mc2, Mr', e1', e2, _, f2, _⟩ := main Mc' (hFC 34 (by decide) (by decide) (by decide) (by decide)) (by rw [hFC 25 (by decide) (by decide) (by decide) (by decide)])
    obtain ⟨rfl, rfl⟩ : r2 = r ∧ Mc2 = Mc' := Prod.mk.inj (Option.some.inj (e1'.symm.trans e1))
    obtain ⟨k1, k2, k3⟩ := rr _ _ f2
    refine ⟨r2, Mc2, Mr', ?_, ?_, ?_⟩
    · show f_X11_door_0 M = _
      rw [f_X11_door_0, hct, e1, zbi_s, if_neg (i_nle.mpr hneg)]
    · show f_X12_door_0 Mc2 = _
      rw [f_X12_door_0, e2, zbi_s, if_neg (i_nle.mpr hneg)]
    · refine wI_tr (wI_mono (Nat.le_succ _) X) (fun q hq q1 q25 => ?_) ?_ (fun j hj => ?_) (fun q _ => ?_)
      · unfold wLo at hq
        rw [k1 q q25 (by omega) (by omega), hFC q q1 (by omega) (by omega) (by omega)]
      · rw [k1 1 (by decide) (by decide) (by decide), hF11]
      · rw [k2 j hj, hFC 25 (by decide) (by decide) (by decide) (by decide)]
      · rw [k3, hFL]
  · obtain ⟨m', R', W', S', hm', er, hd'⟩ := h1.resolve_left hneg
    have hpos : (0 : Int32) ≤ r := i_nlt.mp hneg
    obtain ⟨M7, p1, p2, p3, p4, p5, p6, p7, p8⟩ := c_pcopy Mc'
    generalize hN : zs (zs (zs (zs (zs (zs (zs M7 1 1 0) 37 1 0) 37 2 0) 9 2 0) 13 4 0) 12 0 0) 12 1 0 = M1
    have nq : ∀ q, q ≠ 1 → q ≠ 37 → q ≠ 9 → q ≠ 13 → q ≠ 12 → M1.1 q = M7.1 q := fun q b1 b2 b3 b4 b5 => by rw [← hN, zs_ne b5, zs_ne b5, zs_ne b4, zs_ne b3, zs_ne b2, zs_ne b2, zs_ne b1]
    have n1 : M1.1 1 = upd (M7.1 1) 1 0 := by rw [← hN, zs_ne (by decide), zs_ne (by decide), zs_ne (by decide), zs_ne (by decide), zs_ne (by decide), zs_ne (by decide), zs_row]
    have n37 : M1.1 37 = upd (upd (M7.1 37) 1 0) 2 0 := by rw [← hN, zs_ne (by decide), zs_ne (by decide), zs_ne (by decide), zs_ne (by decide), zs_row, zs_row, zs_ne (by decide)]
    have n9 : M1.1 9 = upd (M7.1 9) 2 0 := by rw [← hN, zs_ne (by decide), zs_ne (by decide), zs_ne (by decide), zs_row, zs_ne (by decide), zs_ne (by decide), zs_ne (by decide)]
    have n13 : M1.1 13 = upd (M7.1 13) 4 0 := by rw [← hN, zs_ne (by decide), zs_ne (by decide), zs_row, zs_ne (by decide), zs_ne (by decide), zs_ne (by decide), zs_ne (by decide)]
    have n12 : M1.1 12 = upd (upd (M7.1 12) 0 0) 1 0 := by rw [← hN, zs_row, zs_row, zs_ne (by decide), zs_ne (by decide), zs_ne (by decide), zs_ne (by decide), zs_ne (by decide)]
    have nL : M1.2 = M7.2 := by rw [← hN]; rfl
    obtain ⟨r2, Mc2, Mr', e1', e2, _, f2, h2⟩ := main M1 (by rw [nq 34 (by decide) (by decide) (by decide) (by decide) (by decide), p2 34 (by decide) (by decide) (by decide), hFC 34 (by decide) (by decide) (by decide) (by decide)]) (by rw [nq 25 (by decide) (by decide) (by decide) (by decide) (by decide), p2 25 (by decide) (by decide) (by decide), hFC 25 (by decide) (by decide) (by decide) (by decide)])
    obtain ⟨rfl, rfl⟩ : r2 = r ∧ Mc2 = Mc' := Prod.mk.inj (Option.some.inj (e1'.symm.trans e1))
    obtain ⟨k1, k2, k3⟩ := rr _ _ f2
    obtain ⟨m, R, W, S, hm, er2, hd⟩ := h2.resolve_left hneg
    obtain ⟨d1, d2, d3, d4, d5, d6, d7, d8, d9⟩ := hd
    have hH : ∃ H, H ≤ 20 ∧ Mc2.1 6 2 = nI H ∧ ∃ M2, f_X12_door M1 = some (r2, M2) ∧ (∀ q, q ≠ 25 → q ≠ 26 → q ≠ 27 → q ≠ 28 → q ≠ 32 → M2.1 q = Mr'.1 q) ∧ M2.2 = Mr'.2 ∧ M2.1 25 0 = nI R ∧ M2.1 25 1 = nI W ∧ M2.1 25 2 = nI H ∧ M2.1 25 3 = nI S ∧ M2.1 25 9 = 0 ∧ M2.1 25 13 = 0 ∧ M2.1 25 16 = 0 ∧ M2.1 32 0 = 0 ∧ M2.1 32 1 = 0 ∧ M2.1 28 0 = 0 ∧ M2.1 28 1 = 0 ∧ ∀ j, j < 6 → M2.1 26 j = Mr'.1 35 j ∧ M2.1 27 j = Mr'.1 36 j := by
      have hrd : f_X12_door M1 = (if Mr'.1 25 23 = (-9 : Int32) then (f_X12_door_45 (zs (zs Mr' 25 0 (nI R)) 25 1 (nI W)) r2 (3 : Int32)) else (f_X12_door_45 (zs (zs Mr' 25 0 (nI R)) 25 1 (nI W)) r2 (Mr'.1 25 23))) := by
        show f_X12_door_0 M1 = _
        have z1 : (zs Mr' 25 0 (nI R)).1 25 22 = nI W := by rw [zs_row, upd_n (by decide)]; exact d5
        have z2 : (zs (zs Mr' 25 0 (nI R)) 25 1 (nI W)).1 25 23 = Mr'.1 25 23 := by rw [zs_row, upd_n (by decide), zs_row, upd_n (by decide)]
        rw [f_X12_door_0, e2, zbi_s, if_pos hpos, d3, z1, z2]
      have fin : ∀ s0 : Int32, ∃ M2, f_X12_door_45 (zs (zs Mr' 25 0 (nI R)) 25 1 (nI W)) r2 s0 = some (r2, M2) ∧ (∀ q, q ≠ 25 → q ≠ 26 → q ≠ 27 → q ≠ 28 → q ≠ 32 → M2.1 q = Mr'.1 q) ∧ M2.2 = Mr'.2 ∧ M2.1 25 0 = nI R ∧ M2.1 25 1 = nI W ∧ M2.1 25 2 = s0 ∧ M2.1 25 3 = nI S ∧ M2.1 25 9 = 0 ∧ M2.1 25 13 = 0 ∧ M2.1 25 16 = 0 ∧ M2.1 32 0 = 0 ∧ M2.1 32 1 = 0 ∧ M2.1 28 0 = 0 ∧ M2.1 28 1 = 0 ∧ ∀ j, j < 6 → M2.1 26 j = Mr'.1 35 j ∧ M2.1 27 j = Mr'.1 36 j := by
        intro s0
        obtain ⟨M2, t1, t2, t3, t4, t5, t6, t7, t8, t9, t10, t11, t12, t13, t14, t15⟩ := r_door45 (zs (zs Mr' 25 0 (nI R)) 25 1 (nI W)) r2 s0
        refine ⟨M2, t1, fun q b1 b2 b3 b4 b5 => by rw [t2 q b1 b2 b3 b4 b5, zs_ne b1, zs_ne b1], t3, ?_, ?_, t6, ?_, t8, t9, t10, t11, t12, t13, t14, fun j hj => ?_⟩
        · rw [t4, zs_row, upd_n (by decide), zs_row, upd_s]
        · rw [t5, zs_row, upd_s]
        · rw [t7, zs_row, upd_n (by decide), zs_row, upd_n (by decide)]; exact d7
        · have := t15 j hj
          rw [zs_ne (q := 35) (by decide), zs_ne (q := 35) (by decide), zs_ne (q := 36) (by decide), zs_ne (q := 36) (by decide)] at this
          exact this
      rcases d8 with ⟨u1, u2, u3⟩ | ⟨u1, H, hH, u2, u3⟩
      · rw [if_pos u2] at hrd
        refine ⟨3, by omega, u3, ?_⟩
        rw [hrd]
        exact fin 3
      · rw [if_neg (by rw [u3]; exact nI_m9 (by omega)), u3] at hrd
        refine ⟨H, hH, u2, ?_⟩
        rw [hrd]
        exact fin (nI H)
    obtain ⟨H, hH1, hH2, M2, t1, t2, t3, t4, t5, t6, t7, t8, t9, t10, t11, t12, t13, t14, t15⟩ := hH
    have m2 : ∀ q, q ≠ 25 → q ≠ 26 → q ≠ 27 → q ≠ 28 → q ≠ 32 → q ≠ 35 → q ≠ 36 → M2.1 q = M1.1 q := fun q b1 b2 b3 b4 b5 b6 b7 => by rw [t2 q b1 b2 b3 b4 b5, k1 q b1 b6 b7]
    refine ⟨r2, M1, M2, ?_, t1, ?_⟩
    · show f_X11_door_0 M = _
      rw [f_X11_door_0, hct, e1, zbi_s, if_pos hpos, p1, zbv_s]
      show f_X11_door_62 zFU (zs (zs (zs (zs (zs M7 1 1 0) 37 1 0) 37 2 0) 9 2 0) 13 4 0) r2 0 = _
      rw [c_door62, hN]
    · refine ⟨R, W, H, S, ⟨⟨d1.1, d1.2.1, d1.2.2.1, hH1, d1.2.2.2⟩, ⟨?_, ?_, ?_, ?_⟩, ⟨t4, t5, t6, t7⟩, fun x hx => ?_⟩, ⟨0, 0, ⟨by omega, by omega, ?_, ?_, ?_, ?_⟩, fun g hg => absurd hg (Nat.not_lt_zero _), fun g h hg => absurd hg (Nat.not_lt_zero _)⟩, ?_, fun i hi => ?_, ⟨0, by omega, ?_, ?_, fun k hk => absurd hk (Nat.not_lt_zero _)⟩, ⟨0, by omega, ?_, ?_, fun k hk => absurd hk (Nat.not_lt_zero _)⟩, ?_⟩
      · rw [m2 3 (by decide) (by decide) (by decide) (by decide) (by decide) (by decide) (by decide), nq 3 (by decide) (by decide) (by decide) (by decide) (by decide), p4]; exact d2
      · rw [m2 3 (by decide) (by decide) (by decide) (by decide) (by decide) (by decide) (by decide), nq 3 (by decide) (by decide) (by decide) (by decide) (by decide), p5]; exact d4
      · rw [m2 3 (by decide) (by decide) (by decide) (by decide) (by decide) (by decide) (by decide), nq 3 (by decide) (by decide) (by decide) (by decide) (by decide), p6]; exact hH2
      · rw [m2 3 (by decide) (by decide) (by decide) (by decide) (by decide) (by decide) (by decide), nq 3 (by decide) (by decide) (by decide) (by decide) (by decide), p7]; exact d6
      · obtain ⟨bb, pp, y1, y2, y3, y4, y5, y6⟩ := d9 x hx
        have hx6 : x < 6 := by omega
        rw [m2 4 (by decide) (by decide) (by decide) (by decide) (by decide) (by decide) (by decide), nq 4 (by decide) (by decide) (by decide) (by decide) (by decide), (p8 x hx6).1, m2 5 (by decide) (by decide) (by decide) (by decide) (by decide) (by decide) (by decide), nq 5 (by decide) (by decide) (by decide) (by decide) (by decide), (p8 x hx6).2, (t15 x hx6).1, (t15 x hx6).2, y3, y4, y5, y6]
        exact ⟨rfl, rfl, ⟨bb, y1, rfl⟩, ⟨pp, y2, rfl⟩⟩
      · show M2.1 37 2 = nI 0
        rw [m2 37 (by decide) (by decide) (by decide) (by decide) (by decide) (by decide) (by decide), n37, upd_s, nI_0]
      · rw [t13, nI_0]
      · show M2.1 37 1 = nI 0
        rw [m2 37 (by decide) (by decide) (by decide) (by decide) (by decide) (by decide) (by decide), n37, upd_n (by decide), upd_s, nI_0]
      · rw [t14, nI_0]
      · obtain ⟨o, z, z1, z2, z3, z4, z5, z6⟩ := a3
        refine ⟨o, 0, z1, by omega, ?_, ?_, ?_, fun k hk => absurd hk (Nat.not_lt_zero _)⟩
        · rw [m2 9 (by decide) (by decide) (by decide) (by decide) (by decide) (by decide) (by decide), n9, upd_n (by decide), p2 9 (by decide) (by decide) (by decide), hFC 9 (by decide) (by decide) (by decide) (by decide)]; exact z3
        · rw [m2 9 (by decide) (by decide) (by decide) (by decide) (by decide) (by decide) (by decide), n9, upd_s, nI_0]
        · rw [t8, nI_0]
      · have e12 : M2.1 12 i = 0 := by
          rw [m2 12 (by decide) (by decide) (by decide) (by decide) (by decide) (by decide) (by decide), n12]
          obtain rfl | rfl : i = 0 ∨ i = 1 := by omega
          · rw [upd_n (by decide), upd_s]
          · rw [upd_s]
        have e32 : M2.1 32 i = 0 := by
          obtain rfl | rfl : i = 0 ∨ i = 1 := by omega
          · exact t11
          · exact t12
        exact ⟨e12.trans e32.symm, fun q => absurd e12 q⟩
      · rw [m2 13 (by decide) (by decide) (by decide) (by decide) (by decide) (by decide) (by decide), n13, upd_s, nI_0]
      · rw [t9, nI_0]
      · rw [m2 1 (by decide) (by decide) (by decide) (by decide) (by decide) (by decide) (by decide), n1, upd_s, nI_0]
      · rw [t10, nI_0]
      · exact wTc_tr a7 (fun q _ => by rw [t3, k3, nL, p3, hFL])
