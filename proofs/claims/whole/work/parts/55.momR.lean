/-! the reference's rows: what its loops answer -/
theorem ix2 (j : Nat) : (2 : Int32) + nI j = nI (2 + j) := nI_add 2 j
theorem ix11 (j : Nat) : (11 : Int32) + nI j = nI (11 + j) := nI_add 11 j
theorem ix20 (j : Nat) : (20 : Int32) + nI j = nI (20 + j) := nI_add 20 j
theorem ix29 (j : Nat) : (29 : Int32) + nI j = nI (29 + j) := nI_add 29 j
theorem ix38 (j : Nat) : (38 : Int32) + nI j = nI (38 + j) := nI_add 38 j
def rwp (r : Nat → Int32) (s : aS) : Nat → Int32 := fun j => if 20 ≤ j ∧ j < 29 then s.1 (j - 20) else if 29 ≤ j ∧ j < 38 then s.2 (j - 29) else r j
def zrw (M : zM) (t : Nat) (s : aS) : zM := zr M t (rwp (M.1 t) s)
theorem zrw_q {M : zM} {t : Nat} {s : aS} {q : Nat} (h : q ≠ t) : (zrw M t s).1 q = M.1 q := by rw [zrw, zr_ne h]
theorem zrw_w {M : zM} {t : Nat} {s : aS} {g : Nat} (hg : g < 9) : (zrw M t s).1 t (20 + g) = s.1 g := by
  rw [zrw, zr_row, rwp, if_pos ⟨by omega, by omega⟩, Nat.add_sub_cancel_left]
theorem zrw_p {M : zM} {t : Nat} {s : aS} {g : Nat} (hg : g < 9) : (zrw M t s).1 t (29 + g) = s.2 g := by
  rw [zrw, zr_row, rwp, if_neg (by omega), if_pos ⟨by omega, by omega⟩, Nat.add_sub_cancel_left]
theorem zrw_o {M : zM} {t : Nat} {s : aS} {j : Nat} (h : j < 20 ∨ 38 ≤ j) : (zrw M t s).1 t j = M.1 t j := by
  rw [zrw, zr_row, rwp, if_neg (by omega), if_neg (by omega)]
theorem zrw_2 (M : zM) (t : Nat) (s : aS) : (zrw M t s).2 = M.2 := rfl
theorem zrw_putw {M : zM} {t : Nat} {s : aS} {g : Nat} (hg : g < 9) (v : Int32) : zs (zrw M t s) t (20 + g) v = zrw M t (upd s.1 g v, s.2) := by
  unfold zs zrw
  rw [zr_row, zr_zr]
  congr 1
  funext j
  unfold rwp upd
  dsimp only
  by_cases h1 : j = 20 + g
  · subst h1
    simp [show 20 + g < 29 by omega]
  · rw [if_neg h1]
    by_cases h2 : 20 ≤ j ∧ j < 29
    · rw [if_pos h2, if_pos h2]
      show _ = if j - 20 = g then v else s.1 (j - 20)
      rw [if_neg (by omega)]
    · rw [if_neg h2, if_neg h2]
theorem zrw_putp {M : zM} {t : Nat} {s : aS} {g : Nat} (hg : g < 9) (v : Int32) : zs (zrw M t s) t (29 + g) v = zrw M t (s.1, upd s.2 g v) := by
  unfold zs zrw
  rw [zr_row, zr_zr]
  congr 1
  funext j
  unfold rwp upd
  dsimp only
  by_cases h1 : j = 29 + g
  · subst h1
    rw [if_pos rfl, if_neg (by omega), if_pos (by omega)]
    show v = if 29 + g - 29 = g then v else _
    rw [if_pos (by omega)]
  · rw [if_neg h1]
    by_cases h2 : 20 ≤ j ∧ j < 29
    · rw [if_pos h2, if_pos h2]
    · rw [if_neg h2, if_neg h2]
      by_cases h3 : 29 ≤ j ∧ j < 38
      · rw [if_pos h3, if_pos h3]
        show _ = if j - 29 = g then v else s.2 (j - 29)
        rw [if_neg (by omega)]
      · rw [if_neg h3, if_neg h3]
theorem zrw_st (M : zM) (t : Nat) (s : aS) (v : Int32) : zs (zrw M t s) t 1 v = zrw (zs M t 1 v) t s := by
  unfold zs zrw
  rw [zr_row, zr_row, zr_zr, zr_zr]
  congr 1
  funext j
  unfold rwp upd
  by_cases h1 : j = 1
  · subst h1
    rfl
  · rw [if_neg h1, if_neg h1]
theorem zrw_self (M : zM) (t : Nat) : zrw M t (fun g => M.1 t (20 + g), fun g => M.1 t (29 + g)) = M := by
  unfold zrw
  have e : rwp (M.1 t) (fun g => M.1 t (20 + g), fun g => M.1 t (29 + g)) = M.1 t := by
    funext j
    unfold rwp
    by_cases h2 : 20 ≤ j ∧ j < 29
    · rw [if_pos h2]
      show M.1 t (20 + (j - 20)) = _
      rw [show 20 + (j - 20) = j by omega]
    · rw [if_neg h2]
      by_cases h3 : 29 ≤ j ∧ j < 38
      · rw [if_pos h3]
        show M.1 t (29 + (j - 29)) = _
        rw [show 29 + (j - 29) = j by omega]
      · rw [if_neg h3]
  rw [e, zr_self]
/-- a row's own facts, and the reference's plan -/
def zRx (M : zM) (t G S : Nat) : Prop := 28 ≤ t ∧ M.1 t 0 = nI G ∧ G ≤ 9 ∧ S ≤ 6 ∧ zSo (fun g => M.1 t (2 + g)) G S
theorem zRx.wp {M : zM} {t G S : Nat} (X : zRx M t G S) (s : aS) : zRx (zrw M t s) t G S := by
  obtain ⟨h1, h2, h3, h4, h5⟩ := X
  refine ⟨h1, ?_, h3, h4, fun g hg => ?_⟩
  · rw [zrw_o (by omega)]; exact h2
  · obtain ⟨x, hx, e⟩ := h5 g hg
    exact ⟨x, hx, by show (zrw M t s).1 t (2 + g) = _; rw [zrw_o (by omega)]; exact e⟩
theorem zRx.st {M : zM} {t G S : Nat} (X : zRx M t G S) (v : Int32) : zRx (zs M t 1 v) t G S := by
  obtain ⟨h1, h2, h3, h4, h5⟩ := X
  refine ⟨h1, ?_, h3, h4, fun g hg => ?_⟩
  · rw [zs_row, upd_n (by decide)]; exact h2
  · obtain ⟨x, hx, e⟩ := h5 g hg
    exact ⟨x, hx, by show (zs M t 1 v).1 t (2 + g) = _; rw [zs_row, upd_n (by omega)]; exact e⟩
theorem r_those {M : zM} {t G S : Nat} (X : zRx M t G S) (s : aS) (w : Int32) : f_X12_those (zrw M t s) t w = some (aWho s.1 w G, zrw M t s) := by
  have hG := (X.wp s).2.1
  have h3 := X.2.2.1
  refine zloop0 (fun n a i => f_X12_those_4 t w n (zrw M t s) a i) (fun j a => if s.1 j = w then a ||| zbit j else a) (fun a => some (a, zrw M t s)) G (fun n j a hj => ?_) (fun n a => ?_) (zFU_gt (by omega))
  · show f_X12_those_4 t w (n + 1) (zrw M t s) a (nI j) = f_X12_those_4 t w n (zrw M t s) _ (nI (j + 1))
    rw [f_X12_those_4, zg_t (by decide), sb_cl0, hG, if_neg (nI_ge hj (by omega)), ix20, zg_in (by omega) (by decide), nI_clamp (by omega), zrw_w (by omega)]
    by_cases h : s.1 j = w
    · rw [if_pos h, if_pos h, f_X12_those_29, nI_1]; rfl
    · rw [if_neg h, if_neg h, f_X12_those_29, nI_1, Int32.or_zero]
  · show f_X12_those_4 t w (n + 1) (zrw M t s) a (nI G) = _
    rw [f_X12_those_4, zg_t (by decide), sb_cl0, hG, if_pos (Int32.le_refl _)]
theorem r_inRoom {M : zM} {t G S : Nat} (X : zRx M t G S) (s : aS) (p : Int32) : f_X12_inRoom (zrw M t s) t p = some (aRoom s.1 s.2 p G, zrw M t s) := by
  have hG := (X.wp s).2.1
  have h3 := X.2.2.1
  refine zloop0 (fun n a i => f_X12_inRoom_4 t p n (zrw M t s) a i) (fun j a => if s.1 j = 1 ∧ s.2 j = p then a ||| zbit j else a) (fun a => some (a, zrw M t s)) G (fun n j a hj => ?_) (fun n a => ?_) (zFU_gt (by omega))
  · show f_X12_inRoom_4 t p (n + 1) (zrw M t s) a (nI j) = f_X12_inRoom_4 t p n (zrw M t s) _ (nI (j + 1))
    rw [f_X12_inRoom_4, zg_t (by decide), sb_cl0, hG, if_neg (nI_ge hj (by omega)), ix20, zg_in (by omega) (by decide), nI_clamp (by omega), zrw_w (by omega)]
    by_cases h : s.1 j = 1
    · rw [if_pos h, ix29, zg_in (by omega) (by decide), nI_clamp (by omega), zrw_p (by omega)]
      by_cases h2 : s.2 j = p
      · rw [if_pos h2, if_pos ⟨h, h2⟩, f_X12_inRoom_39, nI_1]; rfl
      · rw [if_neg h2, if_neg (fun q => h2 q.2), f_X12_inRoom_39, nI_1, Int32.or_zero]
    · rw [if_neg h, if_neg (fun q => h q.1), f_X12_inRoom_39, nI_1, Int32.or_zero]
  · show f_X12_inRoom_4 t p (n + 1) (zrw M t s) a (nI G) = _
    rw [f_X12_inRoom_4, zg_t (by decide), sb_cl0, hG, if_pos (Int32.le_refl _)]
theorem r_bulkOf {M : zM} {t G S g : Nat} (X : zRx M t G S) (s : aS) (hg : g < G) : f_X12_bulkOf (zrw M t s) t (nI g) = some (M.1 26 (M.1 t (2 + g)).toNatClampNeg, zrw M t s) := by
  obtain ⟨h1, h2, h3, h4, h5⟩ := X
  obtain ⟨x, hx, e⟩ := h5 g hg
  have e : M.1 t (2 + g) = nI x := e
  show f_X12_bulkOf_0 t (nI g) (zrw M t s) = _
  rw [f_X12_bulkOf_0, ix2, zg_in (by omega) (by decide), nI_clamp (by omega), zrw_o (by omega), e, zg_in (by omega) (by decide), zrw_q (by omega)]
theorem room_has {wh pl : Nat → Int32} {p : Int32} {G j : Nat} (h9 : G ≤ 9) (hj : j < G) : ((aRoom wh pl p G >>> (nI j &&& 31)) &&& 1 = 1) ↔ (wh j = 1 ∧ pl j = p) := by
  rw [room_bits wh pl p h9, bit_has (bN_512 _ h9) (by omega), bN_test, decide_eq_true hj, Bool.true_and, decide_eq_true_iff]
theorem r_bulkIn {M : zM} {t G S : Nat} (X : zRx M t G S) (s : aS) (p : Int32) : f_X12_bulkIn (zrw M t s) t p = some (aBulk (fun g => M.1 t (2 + g)) (M.1 26) s.1 s.2 p G, zrw M t s) := by
  have hG := (X.wp s).2.1
  have h3 := X.2.2.1
  refine zloop0 (fun n a i => f_X12_bulkIn_5 t p n (zrw M t s) a i) (fun j a => if s.1 j = 1 ∧ s.2 j = p then a + M.1 26 (M.1 t (2 + j)).toNatClampNeg else a) (fun a => some (a, zrw M t s)) G (fun n j a hj => ?_) (fun n a => ?_) (zFU_gt (by omega))
  · show f_X12_bulkIn_5 t p (n + 1) (zrw M t s) a (nI j) = f_X12_bulkIn_5 t p n (zrw M t s) _ (nI (j + 1))
    rw [f_X12_bulkIn_5, zg_t (by decide), sb_cl0, hG, if_neg (nI_ge hj (by omega)), r_inRoom X, zbi_s]
    have hh : f_X12_has (zrw M t s) (aRoom s.1 s.2 p G) (nI j) = some (if s.1 j = 1 ∧ s.2 j = p then 1 else 0, zrw M t s) := by
      show f_X12_has_0 _ _ _ = _
      rw [f_X12_has_0]
      by_cases h : s.1 j = 1 ∧ s.2 j = p
      · rw [if_pos ((room_has h3 hj).mpr h), if_pos h]
      · rw [if_neg (fun q => h ((room_has h3 hj).mp q)), if_neg h]
    rw [hh, zbi_s]
    by_cases h : s.1 j = 1 ∧ s.2 j = p
    · rw [if_pos h, if_pos h, if_neg (by decide), r_bulkOf X s hj, zbi_s, f_X12_bulkIn_38, nI_1]
    · rw [if_neg h, if_neg h, if_pos rfl, f_X12_bulkIn_38, nI_1, Int32.add_zero]
  · show f_X12_bulkIn_5 t p (n + 1) (zrw M t s) a (nI G) = _
    rw [f_X12_bulkIn_5, zg_t (by decide), sb_cl0, hG, if_pos (Int32.le_refl _)]
def e9 : Option Nat → Int32
  | none => -9
  | some f => nI f
theorem r_firstOn {M : zM} {t G S : Nat} (X : zRx M t G S) (s : aS) (side : Int32) : f_X12_firstOn (zrw M t s) t side = some (e9 (aFirst (fun g => M.1 t (11 + g)) s.1 (fun g => M.1 t (38 + g)) side G), zrw M t s) := by
  have hG := (X.wp s).2.1
  have h3 := X.2.2.1
  refine zloop (fun n (a : Option Nat) i => f_X12_firstOn_5 t side n (zrw M t s) (e9 a) i) (aFs (fun g => M.1 t (11 + g)) s.1 (fun g => M.1 t (38 + g)) side) (fun j a => ∀ f, a = some f → f < j) (fun a => some (e9 a, zrw M t s)) G (fun n j a hj hi => ⟨?_, aFs_lt hi⟩) (fun n a _ => ?_) (a0 := none) (fun f e => by cases e) (zFU_gt (by omega))
  · show f_X12_firstOn_5 t side (n + 1) (zrw M t s) (e9 a) (nI j) = f_X12_firstOn_5 t side n (zrw M t s) (e9 (aFs _ _ _ side j a)) (nI (j + 1))
    rw [f_X12_firstOn_5, zg_t (by decide), sb_cl0, hG, if_neg (nI_ge hj (by omega)), ix20, zg_in (by omega) (by decide), nI_clamp (by omega), zrw_w (by omega)]
    unfold aFs
    by_cases h : s.1 j = 0
    · rw [if_pos h, ix11, zg_in (by omega) (by decide), nI_clamp (by omega), zrw_o (by omega)]
      by_cases h2 : M.1 t (11 + j) = side
      · rw [if_pos h2, if_pos ⟨h, h2⟩, f_X12_firstOn_36, if_neg (by decide)]
        cases a with
        | none => rw [if_pos (by rfl), f_X12_firstOn_69, nI_1]; rfl
        | some f =>
          have hf := hi f rfl
          rw [show e9 (some f) = nI f from rfl, if_neg (nI_m9 (by omega)), ix38, ix38, zg_in (j := 38 + j) (by omega) (by decide), zg_in (j := 38 + f) (by omega) (by decide), nI_clamp (n := 38 + f) (by omega), nI_clamp (n := 38 + j) (by omega), zrw_o (by omega), zrw_o (by omega)]
          show (if M.1 t (38 + f) ≤ M.1 t (38 + j) then _ else _) = f_X12_firstOn_5 t side n (zrw M t s) (e9 (if M.1 t (38 + j) < M.1 t (38 + f) then some j else some f)) (nI (j + 1))
          by_cases h4 : M.1 t (38 + f) ≤ M.1 t (38 + j)
          · rw [if_pos h4, if_neg (i_nlt.mpr h4), f_X12_firstOn_69, nI_1]; rfl
          · rw [if_neg h4, if_pos (i_nle.mp h4), f_X12_firstOn_69, nI_1]; rfl
      · rw [if_neg h2, if_neg (fun q => h2 q.2), f_X12_firstOn_36, if_pos rfl, f_X12_firstOn_69, nI_1]
    · rw [if_neg h, if_neg (fun q => h q.1), f_X12_firstOn_36, if_pos rfl, f_X12_firstOn_69, nI_1]
  · show f_X12_firstOn_5 t side (n + 1) (zrw M t s) (e9 a) (nI G) = _
    rw [f_X12_firstOn_5, zg_t (by decide), sb_cl0, hG, if_pos (Int32.le_refl _)]
theorem r_placeOf {M : zM} (x : Int32) : f_X12_placeOf M x = some (if x = 0 then 0 else M.1 25 0 / 2, M) := by
  show f_X12_placeOf_0 x M = _
  rw [f_X12_placeOf_0]
  by_cases h : x = 0
  · rw [if_pos h, if_pos h]
  · rw [if_neg h, if_neg h]
theorem r_fills13 {M : zM} {t G S : Nat} (X : zRx M t G S) (k2 : zM → Int32 → Option zM) (x2 : Int32) : ∀ (n k : Nat) (s : aS), aCnt s.1 G ≤ k → k < n → f_X12_fills_13 t k2 n (zrw M t s) x2 (e9 (aFirst (fun g => M.1 t (11 + g)) s.1 (fun g => M.1 t (38 + g)) x2 G)) = k2 (zrw M t (aPut G (fun g => M.1 t (2 + g)) (fun g => M.1 t (11 + g)) (fun g => M.1 t (38 + g)) (M.1 26) (M.1 25 1) x2 (if x2 = 0 then 0 else M.1 25 0 / 2) k s)) (x2 + 1) := by
  intro n
  induction n with
  | zero => intro k s _ h; omega
  | succ n ih =>
    intro k s hw hn
    obtain ⟨h1, h2, h3, h4, h5⟩ := id X
    rw [f_X12_fills_13]
    cases hf : aFirst (fun g => M.1 t (11 + g)) s.1 (fun g => M.1 t (38 + g)) x2 G with
    | none => rw [show e9 none = (-9 : Int32) from rfl, if_pos rfl, aPut_none hf]
    | some g =>
      obtain ⟨hg, hg0, hgs⟩ := aFirst_some hf
      have hpos := aCnt_pos hg0 G hg
      obtain ⟨m, rfl⟩ : ∃ m, k = m + 1 := ⟨k - 1, by omega⟩
      rw [show e9 (some g) = nI g from rfl, if_neg (nI_m9 (by omega)), r_placeOf, zbi_s, zrw_q (by omega), r_bulkIn X, zbi_s, r_bulkOf X s hg, zbi_s, zrw_q (by omega)]
      by_cases hc : aBulk (fun g => M.1 t (2 + g)) (M.1 26) s.1 s.2 (if x2 = 0 then 0 else M.1 25 0 / 2) G + M.1 26 (M.1 t (2 + g)).toNatClampNeg ≤ M.1 25 1
      · rw [if_neg (i_nlt.mpr hc), ix20, zg_in (by omega) (by decide), nI_clamp (by omega), zrw_putw (by omega), r_placeOf, zbi_s, zrw_q (by omega), ix29, zg_in (by omega) (by decide), nI_clamp (by omega), zrw_putp (by omega)]
        have hfo := r_firstOn X (upd s.1 g 1, upd s.2 g (if x2 = 0 then 0 else M.1 25 0 / 2)) x2
        rw [hfo, zbi_s]
        have hcnt := (aCnt_upd (wh := s.1) (g := g) (v := 1) (by decide) G).2 hg hg0
        rw [aPut_go hf hc]
        exact ih m (upd s.1 g 1, upd s.2 g (if x2 = 0 then 0 else M.1 25 0 / 2)) (by show aCnt (upd s.1 g 1) G ≤ m; omega) (by omega)
      · rw [if_pos (i_nle.mp hc), aPut_stop hf hc]
theorem r_fills1 {M : zM} {t G S : Nat} (X : zRx M t G S) (n : Nat) (x2 : Int32) (hx : ¬ (2 : Int32) ≤ x2) (s : aS) : f_X12_fills_2 t (n + 1) (zrw M t s) x2 = f_X12_fills_2 t n (zrw M t (aPut G (fun g => M.1 t (2 + g)) (fun g => M.1 t (11 + g)) (fun g => M.1 t (38 + g)) (M.1 26) (M.1 25 1) x2 (if x2 = 0 then 0 else M.1 25 0 / 2) G s)) (x2 + 1) := by
  rw [f_X12_fills_2, if_neg hx, r_firstOn X, zbi_s]
  exact r_fills13 X (f_X12_fills_2 t n) x2 zFU G s (aCnt_le _ _) (zFU_gt (by have := X.2.2.1; omega))
theorem r_fills {M : zM} {t G S : Nat} (X : zRx M t G S) (s : aS) : f_X12_fills (zrw M t s) t = some (zrw M t (aFill G (fun g => M.1 t (2 + g)) (fun g => M.1 t (11 + g)) (fun g => M.1 t (38 + g)) (M.1 26) (M.1 25 1) (M.1 25 0 / 2) s)) := by
  show f_X12_fills_2 t (1997 + 1 + 1 + 1) (zrw M t s) 0 = _
  rw [r_fills1 X _ 0 (by decide), if_pos rfl, show (0 : Int32) + 1 = 1 from rfl, r_fills1 X _ 1 (by decide), if_neg (by decide), show (1 : Int32) + 1 = 2 from rfl, f_X12_fills_2, if_pos (by decide)]
  rfl
theorem r_loadOn {M : zM} {t G S : Nat} (X : zRx M t G S) (s : aS) : f_X12_loadOn (zrw M t s) t = some (aLoad (fun g => M.1 t (2 + g)) (M.1 27) s.1 G, zrw M t s) := by
  have hG := (X.wp s).2.1
  obtain ⟨h1, h2, h3, h4, h5⟩ := id X
  refine zloop0 (fun n a i => f_X12_loadOn_4 t n (zrw M t s) a i) (fun j a => if s.1 j = 1 then a + M.1 27 (M.1 t (2 + j)).toNatClampNeg else a) (fun a => some (a, zrw M t s)) G (fun n j a hj => ?_) (fun n a => ?_) (zFU_gt (by omega))
  · show f_X12_loadOn_4 t (n + 1) (zrw M t s) a (nI j) = f_X12_loadOn_4 t n (zrw M t s) _ (nI (j + 1))
    obtain ⟨x, hx, e⟩ := h5 j hj
    have e : M.1 t (2 + j) = nI x := e
    rw [f_X12_loadOn_4, zg_t (by decide), sb_cl0, hG, if_neg (nI_ge hj (by omega)), ix20, zg_in (by omega) (by decide), nI_clamp (by omega), zrw_w (by omega)]
    by_cases h : s.1 j = 1
    · rw [if_pos h, if_pos h, ix2, zg_in (by omega) (by decide), nI_clamp (by omega), zrw_o (by omega), e, zg_in (by omega) (by decide), f_X12_loadOn_36, nI_1, zrw_q (by omega)]
    · rw [if_neg h, if_neg h, f_X12_loadOn_36, nI_1, Int32.add_zero]
  · show f_X12_loadOn_4 t (n + 1) (zrw M t s) a (nI G) = _
    rw [f_X12_loadOn_4, zg_t (by decide), sb_cl0, hG, if_pos (Int32.le_refl _)]
theorem r_bitsWho {M : zM} (wh : Nat → Int32) (w : Int32) {G : Nat} (h : G ≤ 9) : f_X12_bits M (aWho wh w G) = some (zbc (aWho wh w G), M) := by
  rw [who_bits wh w h]
  exact r_bits M (bN_512 _ h)
theorem r_dragOn {M : zM} {t G S : Nat} (X : zRx M t G S) (s : aS) : f_X12_dragOn (zrw M t s) t = some (M.1 25 2 + zbc (aWho s.1 1 G), zrw M t s) := by
  have h1 := X.1
  show f_X12_dragOn_0 t (zrw M t s) = _
  rw [f_X12_dragOn_0, r_those X, zbi_s, r_bitsWho _ _ X.2.2.1, zbi_s, zrw_q (by omega)]
theorem r_sticksOn {M : zM} {t G S : Nat} (X : zRx M t G S) (s : aS) : f_X12_sticksOn (zrw M t s) t = some (if aSt G (fun g => M.1 t (2 + g)) (M.1 27) (M.1 25 2) s.1 = true then 1 else 0, zrw M t s) := by
  show f_X12_sticksOn_0 t (zrw M t s) = _
  rw [f_X12_sticksOn_0, r_those X, zbi_s]
  unfold aSt
  by_cases h : aWho s.1 1 G = 0
  · rw [if_pos h, decide_eq_true h]
    rfl
  · rw [if_neg h, r_loadOn X, zbi_s, r_dragOn X, zbi_s, decide_eq_false h, Bool.false_or]
    by_cases h9 : M.1 25 2 + zbc (aWho s.1 1 G) ≤ aLoad (fun g => M.1 t (2 + g)) (M.1 27) s.1 G
    · rw [if_pos h9, decide_eq_false (i_nlt.mpr h9)]
      rfl
    · rw [if_neg h9, decide_eq_true (i_nle.mp h9)]
      rfl
theorem r_aheadOf {M : zM} {t G S g : Nat} (X : zRx M t G S) (s : aS) (hg : g < 9) : f_X12_aheadOf (zrw M t s) t (nI g) = some (aAhead (fun g => M.1 t (11 + g)) s.1 (fun g => M.1 t (38 + g)) g G, zrw M t s) := by
  have hG := (X.wp s).2.1
  have h3 := X.2.2.1
  refine zloop0 (fun n a i => f_X12_aheadOf_4 t (nI g) n (zrw M t s) a i) (fun k a => if (s.1 k = 0 ∧ M.1 t (11 + k) = M.1 t (11 + g)) ∧ M.1 t (38 + k) < M.1 t (38 + g) then a + 1 else a) (fun a => some (a, zrw M t s)) G (fun n j a hj => ?_) (fun n a => ?_) (zFU_gt (by omega))
  · show f_X12_aheadOf_4 t (nI g) (n + 1) (zrw M t s) a (nI j) = f_X12_aheadOf_4 t (nI g) n (zrw M t s) _ (nI (j + 1))
    rw [f_X12_aheadOf_4, zg_t (by decide), sb_cl0, hG, if_neg (nI_ge hj (by omega)), ix20, zg_in (by omega) (by decide), nI_clamp (by omega), zrw_w (by omega)]
    by_cases h : s.1 j = 0
    · rw [if_pos h, ix11, ix11, zg_in (j := 11 + j) (by omega) (by decide), zg_in (j := 11 + g) (by omega) (by decide), nI_clamp (n := 11 + j) (by omega), nI_clamp (n := 11 + g) (by omega), zrw_o (j := 11 + j) (by omega), zrw_o (j := 11 + g) (by omega)]
      by_cases h2 : M.1 t (11 + j) = M.1 t (11 + g)
      · rw [if_pos h2, ix38, ix38, zg_in (j := 38 + j) (by omega) (by decide), zg_in (j := 38 + g) (by omega) (by decide), nI_clamp (n := 38 + j) (by omega), nI_clamp (n := 38 + g) (by omega), zrw_o (j := 38 + j) (by omega), zrw_o (j := 38 + g) (by omega)]
        by_cases h4 : M.1 t (38 + g) ≤ M.1 t (38 + j)
        · rw [if_pos h4, if_neg (fun q => i_nlt.mpr h4 q.2), f_X12_aheadOf_56, nI_1, Int32.add_zero]
        · rw [if_neg h4, if_pos ⟨⟨h, h2⟩, i_nle.mp h4⟩, f_X12_aheadOf_56, nI_1]
      · rw [if_neg h2, if_neg (fun q => h2 q.1.2), f_X12_aheadOf_56, nI_1, Int32.add_zero]
    · rw [if_neg h, if_neg (fun q => h q.1.1), f_X12_aheadOf_56, nI_1, Int32.add_zero]
  · show f_X12_aheadOf_4 t (nI g) (n + 1) (zrw M t s) a (nI G) = _
    rw [f_X12_aheadOf_4, zg_t (by decide), sb_cl0, hG, if_pos (Int32.le_refl _)]
