/-! the law's loop over the two functions -/
theorem pure_start : wI 0 zM0 := by
  refine ⟨4, 2, 3, 0, ⟨⟨by decide, by decide, by decide, by decide, by decide⟩, ⟨rfl, rfl, rfl, rfl⟩, ⟨rfl, rfl, rfl, rfl⟩, fun x hx => absurd hx (Nat.not_lt_zero x)⟩, ⟨0, 0, ⟨by decide, by decide, rfl, rfl, rfl, rfl⟩, fun g hg => absurd hg (Nat.not_lt_zero g), fun g h hg => absurd hg (Nat.not_lt_zero g)⟩, ⟨0, 0, by decide, by decide, rfl, rfl, rfl, fun k hk => absurd hk (Nat.not_lt_zero k)⟩, fun i hi => ⟨rfl, fun q => absurd rfl q⟩, ⟨0, by decide, rfl, rfl, fun k hk => absurd hk (Nat.not_lt_zero k)⟩, ⟨0, by decide, rfl, rfl, fun k hk => absurd hk (Nat.not_lt_zero k)⟩, rfl⟩
set_option maxRecDepth 20000 in
set_option maxHeartbeats 4000000 in
theorem pure_loop (xs : Nat → Int32) (L : Nat) (hL : L ≤ 2048) : ∀ k j n (M : zM), j + k = L / 4 → k < n → wI j M → ∃ M' : zM, f_L_law_18 L xs n M (nI (4 * j)) = some ((1 : Int32), M') := by
  intro k
  induction k with
  | zero =>
    intro j n M hj hn X
    obtain ⟨n, rfl⟩ : ∃ m, n = m + 1 := ⟨n - 1, by omega⟩
    refine ⟨M, ?_⟩
    rw [f_L_law_18, if_pos]
    rw [i_lt, show (Int32.ofNat L - (4 : Int32)).toInt = (L : Int) - 4 from pk_sub_toInt (a := L) (b := 4) (by omega) (by decide), nI_t (by omega)]
    omega
  | succ k ih =>
    intro j n M hj hn X
    obtain ⟨n, rfl⟩ : ∃ m, n = m + 1 := ⟨n - 1, by omega⟩
    have hjn : j < 900 := by omega
    have go : ∀ M2, wI (j + 1) M2 → ∃ M' : zM, f_L_law_18 L xs n M2 (nI (4 * j + 4)) = some ((1 : Int32), M') := fun M2 h => ih (j + 1) n M2 (by omega) (by omega) h
    have hlt : ¬ (Int32.ofNat L - (4 : Int32)) < nI (4 * j) := by
      rw [i_lt, show (Int32.ofNat L - (4 : Int32)).toInt = (L : Int) - 4 from pk_sub_toInt (a := L) (b := 4) (by omega) (by decide), nI_t (by omega)]
      omega
    rw [f_L_law_18, if_neg hlt, zg_in (j := 4 * j) (by omega) (by omega)]
    rw [show nI (4 * j) + (1 : Int32) = nI (4 * j + 1) from nI_add _ 1, show nI (4 * j) + (2 : Int32) = nI (4 * j + 2) from nI_add _ 2, show nI (4 * j) + (3 : Int32) = nI (4 * j + 3) from nI_add _ 3, show nI (4 * j) + (4 : Int32) = nI (4 * j + 4) from nI_add _ 4]
    have z1 : zin (nI (4 * j + 1)) L = true := zin_t (by omega) (by omega)
    have z2 : zin (nI (4 * j + 2)) L = true := zin_t (by omega) (by omega)
    have z3 : zin (nI (4 * j + 3)) L = true := zin_t (by omega) (by omega)
    generalize xs (nI (4 * j)).toNatClampNeg &&& (31 : Int32) = o
    generalize xs (nI (4 * j + 1)).toNatClampNeg = a
    generalize xs (nI (4 * j + 2)).toNatClampNeg = b
    generalize xs (nI (4 * j + 3)).toNatClampNeg = c
    by_cases h0 : o = (0 : Int32)
    · obtain ⟨r, M1, M2, e1, e2, e3⟩ := p_type X a
      have e1 : f_X11_type M a = some (r, M1) := e1
      have e2 : f_X12_type M1 a = some (r, M2) := e2
      rw [if_pos h0, zg_t z1, e1, zbi_s, zg_t z1, e2, zbi_s, if_pos rfl]
      exact go M2 e3
    rw [if_neg h0]
    by_cases h1 : o = (1 : Int32)
    · obtain ⟨r, M1, M2, e1, e2, e3⟩ := p_clear X 
      have e1 : f_X11_clear M  = some (r, M1) := e1
      have e2 : f_X12_clear M1  = some (r, M2) := e2
      rw [if_pos h1, e1, zbi_s, e2, zbi_s, if_pos rfl]
      exact go M2 e3
    rw [if_neg h1]
    by_cases h2 : o = (2 : Int32)
    · obtain ⟨r, M1, M2, e1, e2, e3⟩ := p_door X 
      have e1 : f_X11_door M  = some (r, M1) := e1
      have e2 : f_X12_door M1  = some (r, M2) := e2
      rw [if_pos h2, e1, zbi_s, e2, zbi_s, if_pos rfl]
      exact go M2 e3
    rw [if_neg h2]
    by_cases h3 : o = (3 : Int32)
    · obtain ⟨r, M1, M2, e1, e2, e3⟩ := p_sort X a b
      have e1 : f_X11_sort M a b = some (r, M1) := e1
      have e2 : f_X12_sort M1 a b = some (r, M2) := e2
      rw [if_pos h3, zg_t z1, zg_t z2, e1, zbi_s, zg_t z1, zg_t z2, e2, zbi_s, if_pos rfl]
      exact go M2 e3
    rw [if_neg h3]
    by_cases h4 : o = (4 : Int32)
    · obtain ⟨r, M1, M2, e1, e2, e3⟩ := p_goer X a b
      have e1 : f_X11_goer M a b = some (r, M1) := e1
      have e2 : f_X12_goer M1 a b = some (r, M2) := e2
      rw [if_pos h4, zg_t z1, zg_t z2, e1, zbi_s, zg_t z1, zg_t z2, e2, zbi_s, if_pos rfl]
      exact go M2 e3
    rw [if_neg h4]
    by_cases h5 : o = (5 : Int32)
    · obtain ⟨r, M1, M2, e1, e2, e3⟩ := p_room X a b
      have e1 : f_X11_room M a b = some (r, M1) := e1
      have e2 : f_X12_room M1 a b = some (r, M2) := e2
      rw [if_pos h5, zg_t z1, zg_t z2, e1, zbi_s, zg_t z1, zg_t z2, e2, zbi_s, if_pos rfl]
      exact go M2 e3
    rw [if_neg h5]
    by_cases h6 : o = (6 : Int32)
    · obtain ⟨r, M1, M2, e1, e2, e3⟩ := p_now X a
      have e1 : f_X11_now M a = some (r, M1) := e1
      have e2 : f_X12_now M1 a = some (r, M2) := e2
      rw [if_pos h6, zg_t z1, e1, zbi_s, zg_t z1, e2, zbi_s, if_pos rfl]
      exact go M2 e3
    rw [if_neg h6]
    by_cases h7 : o = (7 : Int32)
    · obtain ⟨r, M1, M2, e1, e2, e3⟩ := p_comes hjn X a b
      have e1 : f_X11_comes M a b = some (r, M1) := e1
      have e2 : f_X12_comes M1 a b = some (r, M2) := e2
      rw [if_pos h7, zg_t z1, zg_t z2, e1, zbi_s, zg_t z1, zg_t z2, e2, zbi_s, if_pos rfl]
      exact go M2 e3
    rw [if_neg h7]
    by_cases h8 : o = (8 : Int32)
    · obtain ⟨r, M1, M2, e1, e2, e3⟩ := p_steps X 
      have e1 : f_X11_steps M  = some (r, M1) := e1
      have e2 : f_X12_steps M1  = some (r, M2) := e2
      rw [if_pos h8, e1, zbi_s, e2, zbi_s, if_pos rfl]
      exact go M2 e3
    rw [if_neg h8]
    by_cases h9 : o = (9 : Int32)
    · obtain ⟨r, M1, M2, e1, e2, e3⟩ := p_leaves X a
      have e1 : f_X11_leaves M a = some (r, M1) := e1
      have e2 : f_X12_leaves M1 a = some (r, M2) := e2
      rw [if_pos h9, zg_t z1, e1, zbi_s, zg_t z1, e2, zbi_s, if_pos rfl]
      exact go M2 e3
    rw [if_neg h9]
    by_cases h10 : o = (10 : Int32)
    · obtain ⟨r, M1, M2, e1, e2, e3⟩ := p_lets hjn X a
      have e1 : f_X11_lets M a = some (r, M1) := e1
      have e2 : f_X12_lets M1 a = some (r, M2) := e2
      rw [if_pos h10, zg_t z1, e1, zbi_s, zg_t z1, e2, zbi_s, if_pos rfl]
      exact go M2 e3
    rw [if_neg h10]
    by_cases h11 : o = (11 : Int32)
    · obtain ⟨r, M1, M2, e1, e2, e3⟩ := p_undo X 
      have e1 : f_X11_undo M  = some (r, M1) := e1
      have e2 : f_X12_undo M1  = some (r, M2) := e2
      rw [if_pos h11, e1, zbi_s, e2, zbi_s, if_pos rfl]
      exact go M2 e3
    rw [if_neg h11]
    by_cases h12 : o = (12 : Int32)
    · obtain ⟨r, M1, M2, e1, e2, e3⟩ := p_spare X a
      have e1 : f_X11_spare M a = some (r, M1) := e1
      have e2 : f_X12_spare M1 a = some (r, M2) := e2
      rw [if_pos h12, zg_t z1, e1, zbi_s, zg_t z1, e2, zbi_s, if_pos rfl]
      exact go M2 e3
    rw [if_neg h12]
    by_cases h13 : o = (13 : Int32)
    · obtain ⟨r, M1, M2, e1, e2, e3⟩ := p_ahead hjn X a
      have e1 : f_X11_ahead M a = some (r, M1) := e1
      have e2 : f_X12_ahead M1 a = some (r, M2) := e2
      rw [if_pos h13, zg_t z1, e1, zbi_s, zg_t z1, e2, zbi_s, if_pos rfl]
      exact go M2 e3
    rw [if_neg h13]
    by_cases h14 : o = (14 : Int32)
    · obtain ⟨r, M1, M2, e1, e2, e3⟩ := p_odds X a b
      have e1 : f_X11_odds M a b = some (r, M1) := e1
      have e2 : f_X12_odds M1 a b = some (r, M2) := e2
      rw [if_pos h14, zg_t z1, zg_t z2, e1, zbi_s, zg_t z1, zg_t z2, e2, zbi_s, if_pos rfl]
      exact go M2 e3
    rw [if_neg h14]
    by_cases h15 : o = (15 : Int32)
    · obtain ⟨r, M1, M2, e1, e2, e3⟩ := p_sees X a b c
      have e1 : f_X11_sees M a b c = some (r, M1) := e1
      have e2 : f_X12_sees M1 a b c = some (r, M2) := e2
      rw [if_pos h15, zg_t z1, zg_t z2, zg_t z3, e1, zbi_s, zg_t z1, zg_t z2, zg_t z3, e2, zbi_s, if_pos rfl]
      exact go M2 e3
    rw [if_neg h15]
    by_cases h16 : o = (16 : Int32)
    · obtain ⟨r, M1, M2, e1, e2, e3⟩ := p_forget X 
      have e1 : f_X11_forget M  = some (r, M1) := e1
      have e2 : f_X12_forget M1  = some (r, M2) := e2
      rw [if_pos h16, e1, zbi_s, e2, zbi_s, if_pos rfl]
      exact go M2 e3
    rw [if_neg h16]
    by_cases h17 : o = (17 : Int32)
    · obtain ⟨r, M1, M2, e1, e2, e3⟩ := p_which X 
      have e1 : f_X11_which M  = some (r, M1) := e1
      have e2 : f_X12_which M1  = some (r, M2) := e2
      rw [if_pos h17, e1, zbi_s, e2, zbi_s, if_pos rfl]
      exact go M2 e3
    rw [if_neg h17]
    by_cases h18 : o = (18 : Int32)
    · obtain ⟨r, M1, M2, e1, e2, e3⟩ := p_look X a
      have e1 : f_X11_look M a = some (r, M1) := e1
      have e2 : f_X12_look M1 a = some (r, M2) := e2
      rw [if_pos h18, zg_t z1, e1, zbi_s, zg_t z1, e2, zbi_s, if_pos rfl]
      exact go M2 e3
    rw [if_neg h18]
    by_cases h19 : o = (19 : Int32)
    · obtain ⟨r, M1, M2, e1, e2, e3⟩ := p_rate X a b
      have e1 : f_X11_rate M a b = some (r, M1) := e1
      have e2 : f_X12_rate M1 a b = some (r, M2) := e2
      rw [if_pos h19, zg_t z1, zg_t z2, e1, zbi_s, zg_t z1, zg_t z2, e2, zbi_s, if_pos rfl]
      exact go M2 e3
    rw [if_neg h19]
    by_cases h20 : o = (20 : Int32)
    · obtain ⟨r, M1, M2, e1, e2, e3⟩ := p_keep X a
      have e1 : f_X11_keep M a = some (r, M1) := e1
      have e2 : f_X12_keep M1 a = some (r, M2) := e2
      rw [if_pos h20, zg_t z1, e1, zbi_s, zg_t z1, e2, zbi_s, if_pos rfl]
      exact go M2 e3
    rw [if_neg h20]
    by_cases h21 : o = (21 : Int32)
    · obtain ⟨r, M1, M2, e1, e2, e3⟩ := p_back X a
      have e1 : f_X11_back M a = some (r, M1) := e1
      have e2 : f_X12_back M1 a = some (r, M2) := e2
      rw [if_pos h21, zg_t z1, e1, zbi_s, zg_t z1, e2, zbi_s, if_pos rfl]
      exact go M2 e3
    rw [if_neg h21]
    by_cases h22 : o = (22 : Int32)
    · obtain ⟨r, M1, M2, e1, e2, e3⟩ := p_count X a
      have e1 : f_X11_count M a = some (r, M1) := e1
      have e2 : f_X12_count M1 a = some (r, M2) := e2
      rw [if_pos h22, zg_t z1, e1, zbi_s, zg_t z1, e2, zbi_s, if_pos rfl]
      exact go M2 e3
    rw [if_neg h22]
    by_cases h23 : o = (23 : Int32)
    · obtain ⟨r, M1, M2, e1, e2, e3⟩ := p_trace X 
      have e1 : f_X11_trace M  = some (r, M1) := e1
      have e2 : f_X12_trace M1  = some (r, M2) := e2
      rw [if_pos h23, e1, zbi_s, e2, zbi_s, if_pos ((lg_cmp_eq _ _).mpr rfl)]
      exact go M2 e3
    rw [if_neg h23]
    exact go M (wI_mono (Nat.le_succ _) X)
/-- the law's loop over the two functions: it comes to its end with 1 -/
theorem pure_law (xs : Nat → Int32) (L : Nat) (hL : L ≤ 2048) : ∃ M' : zM, f_L_law_18 L xs zFU zM0 0 = some ((1 : Int32), M') := by
  have h := pure_loop xs L hL (L / 4) 0 zFU zM0 (by omega) (zFU_gt (by omega)) pure_start
  rw [show nI (4 * 0) = 0 from rfl] at h
  exact h
