/-! a step, as a function of where all are; the class's turn and the three runs -/
def zbc (x : Int32) : Int32 :=
  let a := x - (((x.toUInt32 >>> ((1 : Int32).toUInt32 &&& Int32.toUInt32 31)).toInt32) &&& (1431655765 : Int32))
  let b := (a &&& (858993459 : Int32)) + (((a.toUInt32 >>> ((2 : Int32).toUInt32 &&& Int32.toUInt32 31)).toInt32) &&& (858993459 : Int32))
  let d := (b + ((b.toUInt32 >>> ((4 : Int32).toUInt32 &&& Int32.toUInt32 31)).toInt32)) &&& (252645135 : Int32)
  let e := d + ((d.toUInt32 >>> ((8 : Int32).toUInt32 &&& Int32.toUInt32 31)).toInt32)
  let f := e + ((e.toUInt32 >>> ((16 : Int32).toUInt32 &&& Int32.toUInt32 31)).toInt32)
  f &&& (63 : Int32)
theorem c_bc (M : zM) (x : Int32) : f_J6_bitCount_0f7a4 M x = some (zbc x, M) := rfl
theorem c_are {M : zM} {c G : Nat} (hG : M.1 c 2 = nI G) (h9 : G ≤ 9) (w : Int32) : f_X5_howManyAre M c w = some (zbc (aWho (M.1 (c + 3)) w G), M) := by
  show f_X5_howManyAre_0 c w M = _
  rw [f_X5_howManyAre_0, c_whoIs hG h9, zbi_s, c_bc, zbi_s]
theorem c_drag {M : zM} {c G : Nat} (hG : M.1 c 2 = nI G) (h9 : G ≤ 9) : f_X5_drag M c = some (M.1 3 2 + zbc (aWho (M.1 (c + 3)) 1 G), M) := by
  show f_X5_drag_0 c M = _
  rw [f_X5_drag_0, c_whoIs hG h9, zbi_s, c_bc, zbi_s]
/-- it sticks -/
def aSt (G : Nat) (so pu : Nat → Int32) (Hd : Int32) (wh : Nat → Int32) : Bool := decide (aWho wh 1 G = 0) || decide (aLoad so pu wh G < Hd + zbc (aWho wh 1 G))
theorem c_sticks {M : zM} {c G S : Nat} (X : zCx M c G S) : f_X5_sticks M c = some (if aSt G (M.1 (c + 1)) (M.1 5) (M.1 3 2) (M.1 (c + 3)) = true then 1 else 0, M) := by
  obtain ⟨h1, h2, h3, h4, h5, h6, h7, h8⟩ := X
  show f_X5_sticks_0 c M = _
  rw [f_X5_sticks_0, c_whoIs h2 h3, zbi_s]
  unfold aSt
  by_cases h : aWho (M.1 (c + 3)) 1 G = 0
  · rw [if_pos h, decide_eq_true h]
    rfl
  · rw [if_neg h, c_load h2 h3 h4 h5 h6, zbi_s, c_drag h2 h3, zbi_s, decide_eq_false h, Bool.false_or]
    by_cases h9 : M.1 3 2 + zbc (aWho (M.1 (c + 3)) 1 G) ≤ aLoad (M.1 (c + 1)) (M.1 5) (M.1 (c + 3)) G
    · rw [if_pos h9, decide_eq_false (i_nlt.mpr h9)]
      rfl
    · rw [if_neg h9, decide_eq_true (i_nle.mp h9)]
      rfl
/-- the next place; where one who came from a side is through -/
def aNx (R p : Int32) : Int32 := if R ≤ p + 1 then 0 else p + 1
def aTo (hp sd : Int32) : Int32 := if 1 - sd = 0 then 0 else hp
def aCar (si : Nat → Int32) (R hp : Int32) (j : Nat) (q : Int32 × aS) : Int32 × aS :=
  if q.2.1 j = 1 then (if aNx R (q.2.2 j) = aTo hp (si j) then (q.1 + 1, upd q.2.1 j 2, upd q.2.2 j (aNx R (q.2.2 j))) else (q.1, q.2.1, upd q.2.2 j (aNx R (q.2.2 j)))) else q
def aGo (G : Nat) (si : Nat → Int32) (R hp : Int32) (s : aS) : Int32 × aS := zfo (aCar si R hp) G (0, s)
theorem c_carry {M : zM} {c G S g : Nat} (X : zCx M c G S) (hg : g < G) (s : aS) : f_X5_carry (zwp M c s) c (nI g) = some (if aNx (M.1 3 0) (s.2 g) = aTo (M.1 3 0 / 2) (M.1 (c + 2) g) then 1 else 0, zwp M c (if aNx (M.1 3 0) (s.2 g) = aTo (M.1 3 0 / 2) (M.1 (c + 2) g) then upd s.1 g 2 else s.1, upd s.2 g (aNx (M.1 3 0) (s.2 g)))) := by
  obtain ⟨h1, h2, h3, h4, h5, h6, h7, h8⟩ := X
  show f_X5_carry_0 c (nI g) (zwp M c s) = _
  have hpb : f_X7_placeBehind (zwp M c s) 3 (s.2 g) = some (aNx (M.1 3 0) (s.2 g), zwp M c s) := by
    show f_X7_placeBehind_0 3 (s.2 g) (zwp M c s) = _
    rw [f_X7_placeBehind_0, zwp_q (q := 3) (by omega) (by omega), aNx]
    by_cases h : M.1 3 0 ≤ s.2 g + 1
    · rw [if_pos h, if_pos h]
    · rw [if_neg h, if_neg h]
  have hps : ∀ (t : aS) (x : Int32), f_X7_placeOfSide (zwp M c t) 3 (1 - x) = some (aTo (M.1 3 0 / 2) x, zwp M c t) := by
    intro t x
    show f_X7_placeOfSide_0 3 (1 - x) (zwp M c t) = _
    rw [f_X7_placeOfSide_0, zwp_q (q := 3) (by omega) (by omega), aTo]
    by_cases h : 1 - x = 0
    · rw [if_pos h, if_pos h]
    · rw [if_neg h, if_neg h]
  rw [f_X5_carry_0, zg_in (j := g) (by omega) (by decide), nI_clamp (n := g) (by omega), zwp_p, hpb, zbi_s, zg_in (j := g) (by omega) (by decide), zg_in (j := g) (by omega) (by decide), zg_in (j := g) (by omega) (by decide), zwp_putp, zwp_q (q := c + 2) (by omega) (by omega), hps, zbi_s, zwp_p]
  show (if upd s.2 g (aNx (M.1 3 0) (s.2 g)) g = _ then _ else _) = _
  rw [upd_s]
  by_cases h : aNx (M.1 3 0) (s.2 g) = aTo (M.1 3 0 / 2) (M.1 (c + 2) g)
  · rw [if_pos h, if_pos h, if_pos h, f_X5_carry_48, if_neg (by decide), zg_in (j := g) (by omega) (by decide), zg_t (by decide), nI_clamp (n := g) (by omega), zwp_putw]
  · rw [if_neg h, if_neg h, if_neg h, f_X5_carry_48, if_pos rfl, zg_t (by decide)]
def aTurn (G : Nat) (so si tu bu pu : Nat → Int32) (R W Hd : Int32) (s : aS) : Int32 × aS := if aSt G so pu Hd s.1 = true then (0, s) else ((aGo G si R (R / 2) s).1, aFill G so si tu bu W (R / 2) (aGo G si R (R / 2) s).2)
theorem c_turn25 {M : zM} {c G S : Nat} (X : zCx M c G S) (s : aS) : f_X5_turn_25 c zFU (zwp M c s) 0 0 = some ((aGo G (M.1 (c + 2)) (M.1 3 0) (M.1 3 0 / 2) s).1, zwp M c (aFill G (M.1 (c + 1)) (M.1 (c + 2)) (M.1 (c + 5)) (M.1 4) (M.1 3 1) (M.1 3 0 / 2) (aGo G (M.1 (c + 2)) (M.1 3 0) (M.1 3 0 / 2) s).2)) := by
  have h3 := X.2.2.1
  refine zloop0 (fun n (q : Int32 × aS) i => f_X5_turn_25 c n (zwp M c q.2) q.1 i) (aCar (M.1 (c + 2)) (M.1 3 0) (M.1 3 0 / 2)) (fun q => some (q.1, zwp M c (aFill G (M.1 (c + 1)) (M.1 (c + 2)) (M.1 (c + 5)) (M.1 4) (M.1 3 1) (M.1 3 0 / 2) q.2))) G (fun n j q hj => ?_) (fun n q => ?_) (a0 := (0, s)) (zFU_gt (by omega))
  · show f_X5_turn_25 c (n + 1) (zwp M c q.2) q.1 (nI j) = f_X5_turn_25 c n (zwp M c (aCar (M.1 (c + 2)) (M.1 3 0) (M.1 3 0 / 2) j q).2) (aCar (M.1 (c + 2)) (M.1 3 0) (M.1 3 0 / 2) j q).1 (nI (j + 1))
    rw [f_X5_turn_25, (X.wp q.2).2.1, if_neg (nI_ge hj (by omega)), zg_in (by omega) (by decide), nI_clamp (by omega), zwp_w, nI_1]
    unfold aCar
    by_cases h : q.2.1 j = 1
    · rw [if_pos h, if_pos h, c_carry X hj, zbi_s]
      by_cases h2 : aNx (M.1 3 0) (q.2.2 j) = aTo (M.1 3 0 / 2) (M.1 (c + 2) j)
      · rw [if_pos h2, if_pos h2, if_pos h2, if_neg (by decide)]
      · rw [if_neg h2, if_neg h2, if_neg h2, if_pos rfl]
    · rw [if_neg h, if_neg h]
  · show f_X5_turn_25 c (n + 1) (zwp M c q.2) q.1 (nI G) = _
    rw [f_X5_turn_25, (X.wp q.2).2.1, if_pos (Int32.le_refl _), c_fill X, zbv_s]
/-- the step counts on: the moment's own row -/
theorem zCx.st {M : zM} {c G S : Nat} (X : zCx M c G S) (v : Int32) : zCx (zs M c 1 v) c G S := by
  obtain ⟨h1, h2, h3, h4, h5, h6, h7, h8⟩ := X
  refine ⟨h1, ?_, h3, ?_, h5, ?_, ?_, ?_⟩
  · rw [zs_row, upd_n (by decide)]; exact h2
  · rw [zs_ne (by omega)]; exact h4
  · rw [zs_ne (by omega)]; exact h6
  · rw [zs_ne (by omega)]; exact h7
  · rw [zs_ne (by omega)]; exact h8
theorem zwp_st (M : zM) (c : Nat) (s : aS) (v : Int32) : zs (zwp M c s) c 1 v = zwp (zs M c 1 v) c s := by
  unfold zs
  rw [zwp_q (by omega) (by omega)]
  unfold zwp
  rw [zr_comm _ (show c + 4 ≠ c by omega), zr_comm _ (show c + 3 ≠ c by omega)]
theorem c_turn {M : zM} {c G S : Nat} (X : zCx M c G S) (s : aS) : f_X5_turn (zwp M c s) c = some ((aTurn G (M.1 (c + 1)) (M.1 (c + 2)) (M.1 (c + 5)) (M.1 4) (M.1 5) (M.1 3 0) (M.1 3 1) (M.1 3 2) s).1, zwp (zs M c 1 (M.1 c 1 + 1)) c (aTurn G (M.1 (c + 1)) (M.1 (c + 2)) (M.1 (c + 5)) (M.1 4) (M.1 5) (M.1 3 0) (M.1 3 1) (M.1 3 2) s).2) := by
  have h1 := X.1
  show f_X5_turn_0 c (zwp M c s) = _
  have hs := c_sticks (X.wp s)
  rw [zwp_q (q := c + 1) (by omega) (by omega), zwp_q (q := 5) (by omega) (by omega), zwp_q (q := 3) (by omega) (by omega), zwp_w] at hs
  rw [f_X5_turn_0, hs, zbi_s, zwp_q (q := c) (by omega) (by omega), zwp_st]
  unfold aTurn
  by_cases h : aSt G (M.1 (c + 1)) (M.1 5) (M.1 3 2) s.1 = true
  · rw [if_pos h, if_pos h, if_neg (by decide)]
  · rw [if_neg h, if_neg h, if_pos rfl]
    have h25 := c_turn25 (X.st (M.1 c 1 + 1)) s
    rw [zs_ne (q := c + 1) (by omega), zs_ne (q := c + 2) (by omega), zs_ne (q := c + 5) (by omega), zs_ne (q := 4) (by omega), zs_ne (q := 3) (by omega)] at h25
    exact h25
theorem zs_zs (M : zM) (k j : Nat) (v w : Int32) : zs (zs M k j v) k j w = zs M k j w := by
  unfold zs
  rw [zr_row, zr_zr]
  congr 1
  funext i
  unfold upd
  by_cases h : i = j <;> simp [h]
/-- when one is through -/
def aWhen (T : aS → aS) (st : aS → Bool) (g : Nat) : Nat → aS → Nat → Nat
  | 0, _, _ => 61
  | k + 1, s, n => if s.1 g = 2 then n else if st s = true then 61 else aWhen T st g k (T s) (n + 1)
theorem aWhen_le (T : aS → aS) (st : aS → Bool) (g : Nat) : ∀ k s n, n + k = 61 → aWhen T st g k s n ≤ 61 := by
  intro k
  induction k with
  | zero => intro s n _; exact Nat.le_refl _
  | succ k ih =>
    intro s n h
    rw [aWhen]
    by_cases h1 : s.1 g = 2
    · rw [if_pos h1]; omega
    · rw [if_neg h1]
      by_cases h2 : st s = true
      · rw [if_pos h2]; exact Nat.le_refl _
      · rw [if_neg h2]; exact ih _ _ (by omega)
theorem c_through {M : zM} {c G S g : Nat} (X : zCx M c G S) (hg : g < G) : ∀ (k n m : Nat) (v : Int32) (s : aS), n + k = 61 → k < m → ∃ (v' : Int32) (s' : aS), f_X5_runUntilThrough_2 c (nI g) m (zwp (zs M c 1 v) c s) (nI n) = some (nI (aWhen (fun s => (aTurn G (M.1 (c + 1)) (M.1 (c + 2)) (M.1 (c + 5)) (M.1 4) (M.1 5) (M.1 3 0) (M.1 3 1) (M.1 3 2) s).2) (fun s => aSt G (M.1 (c + 1)) (M.1 5) (M.1 3 2) s.1) g k s n), zwp (zs M c 1 v') c s') := by
  intro k
  induction k with
  | zero =>
    intro n m v s hn hm
    obtain ⟨m, rfl⟩ : ∃ q, m = q + 1 := ⟨m - 1, by omega⟩
    obtain rfl : n = 61 := by omega
    refine ⟨v, s, ?_⟩
    rw [f_X5_runUntilThrough_2, if_pos (by decide), aWhen]
    rfl
  | succ k ih =>
    intro n m v s hn hm
    obtain ⟨m, rfl⟩ : ∃ q, m = q + 1 := ⟨m - 1, by omega⟩
    have h1 := X.1
    have h3 := X.2.2.1
    have Xv := X.st v
    have Xs := Xv.wp s
    have hs := c_sticks Xs
    rw [zwp_q (q := c + 1) (by omega) (by omega), zwp_q (q := 5) (by omega) (by omega), zwp_q (q := 3) (by omega) (by omega), zwp_w, zs_ne (q := c + 1) (by omega), zs_ne (q := 5) (by omega), zs_ne (q := 3) (by omega)] at hs
    rw [f_X5_runUntilThrough_2, if_neg (show ¬ (60 : Int32) < nI n from by rw [nI_lit 60]; exact nI_nlt (by omega) (by omega)), c_hasGoer Xs.2.1 h3 hg, zbi_s, if_neg (by decide), zg_in (j := g) (by omega) (by decide), nI_clamp (n := g) (by omega), zwp_w, aWhen]
    by_cases h2 : s.1 g = 2
    · exact ⟨v, s, by rw [if_pos h2, if_pos h2]⟩
    · rw [if_neg h2, if_neg h2, hs, zbi_s]
      by_cases h4 : aSt G (M.1 (c + 1)) (M.1 5) (M.1 3 2) s.1 = true
      · exact ⟨v, s, by rw [if_pos h4, if_pos h4, if_neg (by decide)]; rfl⟩
      · rw [if_neg h4, if_neg h4, if_pos rfl]
        have ht := c_turn Xv s
        rw [zs_ne (q := c + 1) (by omega), zs_ne (q := c + 2) (by omega), zs_ne (q := c + 5) (by omega), zs_ne (q := 4) (by omega), zs_ne (q := 5) (by omega), zs_ne (q := 3) (by omega), zs_zs] at ht
        rw [ht, zbi_s, nI_1]
        exact ih (n + 1) m _ _ (by omega) (by omega)
/-- when it sticks first; when all are out -/
def aStick (T : aS → aS) (st : aS → Bool) : Nat → aS → Nat → Nat
  | 0, _, _ => 61
  | k + 1, s, n => if st s = true then n else aStick T st k (T s) (n + 1)
theorem c_itSticks {M : zM} {c G S : Nat} (X : zCx M c G S) : ∀ (k n m : Nat) (v : Int32) (s : aS), n + k = 61 → k < m → ∃ (v' : Int32) (s' : aS), f_X5_runUntilItSticks_2 c m (zwp (zs M c 1 v) c s) (nI n) = some (nI (aStick (fun s => (aTurn G (M.1 (c + 1)) (M.1 (c + 2)) (M.1 (c + 5)) (M.1 4) (M.1 5) (M.1 3 0) (M.1 3 1) (M.1 3 2) s).2) (fun s => aSt G (M.1 (c + 1)) (M.1 5) (M.1 3 2) s.1) k s n), zwp (zs M c 1 v') c s') := by
  intro k
  induction k with
  | zero =>
    intro n m v s hn hm
    obtain ⟨m, rfl⟩ : ∃ q, m = q + 1 := ⟨m - 1, by omega⟩
    obtain rfl : n = 61 := by omega
    refine ⟨v, s, ?_⟩
    rw [f_X5_runUntilItSticks_2, if_pos (by decide), aStick]
    rfl
  | succ k ih =>
    intro n m v s hn hm
    obtain ⟨m, rfl⟩ : ∃ q, m = q + 1 := ⟨m - 1, by omega⟩
    have h1 := X.1
    have h3 := X.2.2.1
    have Xv := X.st v
    have Xs := Xv.wp s
    have hs := c_sticks Xs
    rw [zwp_q (q := c + 1) (by omega) (by omega), zwp_q (q := 5) (by omega) (by omega), zwp_q (q := 3) (by omega) (by omega), zwp_w, zs_ne (q := c + 1) (by omega), zs_ne (q := 5) (by omega), zs_ne (q := 3) (by omega)] at hs
    rw [f_X5_runUntilItSticks_2, if_neg (show ¬ (60 : Int32) < nI n from by rw [nI_lit 60]; exact nI_nlt (by omega) (by omega)), hs, zbi_s, aStick]
    by_cases h4 : aSt G (M.1 (c + 1)) (M.1 5) (M.1 3 2) s.1 = true
    · exact ⟨v, s, by rw [if_pos h4, if_pos h4, if_neg (by decide)]⟩
    · rw [if_neg h4, if_neg h4, if_pos rfl]
      have ht := c_turn Xv s
      rw [zs_ne (q := c + 1) (by omega), zs_ne (q := c + 2) (by omega), zs_ne (q := c + 5) (by omega), zs_ne (q := 4) (by omega), zs_ne (q := 5) (by omega), zs_ne (q := 3) (by omega), zs_zs] at ht
      rw [ht, zbi_s, nI_1]
      exact ih (n + 1) m _ _ (by omega) (by omega)
def aAll (T : aS → aS) (st out : aS → Bool) : Nat → aS → Nat → Nat
  | 0, _, _ => 61
  | k + 1, s, n => if out s = true then n else if st s = true then 61 else aAll T st out k (T s) (n + 1)
def aOut (G : Nat) (wh : Nat → Int32) : Bool := decide (aWho wh 0 G = 0) && decide (aWho wh 1 G = 0)
theorem c_empty {M : zM} {c G S : Nat} (X : zCx M c G S) : ∀ (k n m : Nat) (v : Int32) (s : aS), n + k = 61 → k < m → ∃ (v' : Int32) (s' : aS), f_X5_runUntilEmpty_2 c m (zwp (zs M c 1 v) c s) (nI n) = some (nI (aAll (fun s => (aTurn G (M.1 (c + 1)) (M.1 (c + 2)) (M.1 (c + 5)) (M.1 4) (M.1 5) (M.1 3 0) (M.1 3 1) (M.1 3 2) s).2) (fun s => aSt G (M.1 (c + 1)) (M.1 5) (M.1 3 2) s.1) (fun s => aOut G s.1) k s n), zwp (zs M c 1 v') c s') := by
  intro k
  induction k with
  | zero =>
    intro n m v s hn hm
    obtain ⟨m, rfl⟩ : ∃ q, m = q + 1 := ⟨m - 1, by omega⟩
    obtain rfl : n = 61 := by omega
    refine ⟨v, s, ?_⟩
    rw [f_X5_runUntilEmpty_2, if_pos (by decide), aAll]
    rfl
  | succ k ih =>
    intro n m v s hn hm
    obtain ⟨m, rfl⟩ : ∃ q, m = q + 1 := ⟨m - 1, by omega⟩
    have h1 := X.1
    have h3 := X.2.2.1
    have Xv := X.st v
    have Xs := Xv.wp s
    have hs := c_sticks Xs
    rw [zwp_q (q := c + 1) (by omega) (by omega), zwp_q (q := 5) (by omega) (by omega), zwp_q (q := 3) (by omega) (by omega), zwp_w, zs_ne (q := c + 1) (by omega), zs_ne (q := 5) (by omega), zs_ne (q := 3) (by omega)] at hs
    have hw0 := c_whoIs Xs.2.1 h3 0
    have hw1 := c_whoIs Xs.2.1 h3 1
    rw [zwp_w] at hw0 hw1
    have go : ∃ (v' : Int32) (s' : aS), f_X5_runUntilEmpty_26 c (f_X5_runUntilEmpty_2 c m) (zwp (zs M c 1 v) c s) (nI n) = some (nI (if aSt G (M.1 (c + 1)) (M.1 5) (M.1 3 2) s.1 = true then 61 else aAll (fun s => (aTurn G (M.1 (c + 1)) (M.1 (c + 2)) (M.1 (c + 5)) (M.1 4) (M.1 5) (M.1 3 0) (M.1 3 1) (M.1 3 2) s).2) (fun s => aSt G (M.1 (c + 1)) (M.1 5) (M.1 3 2) s.1) (fun s => aOut G s.1) k (aTurn G (M.1 (c + 1)) (M.1 (c + 2)) (M.1 (c + 5)) (M.1 4) (M.1 5) (M.1 3 0) (M.1 3 1) (M.1 3 2) s).2 (n + 1)), zwp (zs M c 1 v') c s') := by
      rw [f_X5_runUntilEmpty_26, hs, zbi_s]
      by_cases h4 : aSt G (M.1 (c + 1)) (M.1 5) (M.1 3 2) s.1 = true
      · exact ⟨v, s, by rw [if_pos h4, if_pos h4, if_neg (by decide)]; rfl⟩
      · rw [if_neg h4, if_neg h4, if_pos rfl]
        have ht := c_turn Xv s
        rw [zs_ne (q := c + 1) (by omega), zs_ne (q := c + 2) (by omega), zs_ne (q := c + 5) (by omega), zs_ne (q := 4) (by omega), zs_ne (q := 5) (by omega), zs_ne (q := 3) (by omega), zs_zs] at ht
        rw [ht, zbi_s, nI_1]
        exact ih (n + 1) m _ _ (by omega) (by omega)
    rw [f_X5_runUntilEmpty_2, if_neg (show ¬ (60 : Int32) < nI n from by rw [nI_lit 60]; exact nI_nlt (by omega) (by omega)), hw0, zbi_s, aAll]
    show ∃ (v' : Int32) (s' : aS), _ = some (nI (if aOut G s.1 = true then n else _), _)
    unfold aOut
    by_cases h0 : aWho s.1 0 G = 0
    · rw [if_pos h0, hw1, zbi_s, decide_eq_true h0, Bool.true_and]
      by_cases h5 : aWho s.1 1 G = 0
      · exact ⟨v, s, by rw [if_pos h5, decide_eq_true h5, if_pos rfl]⟩
      · rw [if_neg h5, decide_eq_false h5, if_neg (by decide)]
        exact go
    · rw [if_neg h0, decide_eq_false h0, Bool.false_and, if_neg (by decide)]
      exact go
