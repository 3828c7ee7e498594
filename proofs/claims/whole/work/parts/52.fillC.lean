/-! filling a side, as a function of where all are; the class's fill is it -/
theorem fb_rng (x : Int32) : -2147483648 ≤ x.toInt ∧ x.toInt < 2147483648 := by
  have h1 := Int32.le_toInt x
  have h2 := Int32.toInt_lt x
  omega
theorem fb_bmod {z : Int} (h1 : -2147483648 ≤ z) (h2 : z < 2147483648) : z.bmod (2 ^ 32) = z := by
  rw [Int.bmod_eq_of_le (by omega) (by omega)]
theorem fb_addI {x y : Int32} (h1 : -2147483648 ≤ x.toInt + y.toInt) (h2 : x.toInt + y.toInt < 2147483648) : (x + y).toInt = x.toInt + y.toInt := by
  rw [Int32.toInt_add, fb_bmod h1 h2]
theorem fb_subI {x y : Int32} (h1 : -2147483648 ≤ x.toInt - y.toInt) (h2 : x.toInt - y.toInt < 2147483648) : (x - y).toInt = x.toInt - y.toInt := by
  rw [Int32.toInt_sub, fb_bmod h1 h2]
theorem fb_mulI {x y : Int32} (h1 : -2147483648 ≤ x.toInt * y.toInt) (h2 : x.toInt * y.toInt < 2147483648) : (x * y).toInt = x.toInt * y.toInt := by
  rw [Int32.toInt_mul, fb_bmod h1 h2]
abbrev aS : Type := (Nat → Int32) × (Nat → Int32)
def aCnt (wh : Nat → Int32) (G : Nat) : Nat := zfo (fun j a => if wh j = 0 then a + 1 else a) G 0
theorem aCnt_succ (wh : Nat → Int32) (n : Nat) : aCnt wh (n + 1) = if wh n = 0 then aCnt wh n + 1 else aCnt wh n := rfl
theorem aCnt_upd {wh : Nat → Int32} {g : Nat} {v : Int32} (hv : ¬ v = 0) : ∀ n, (n ≤ g → aCnt (upd wh g v) n = aCnt wh n) ∧ (g < n → wh g = 0 → aCnt (upd wh g v) n + 1 = aCnt wh n) := by
  intro n
  induction n with
  | zero => exact ⟨fun _ => rfl, fun h => absurd h (Nat.not_lt_zero _)⟩
  | succ n ih =>
    rw [aCnt_succ, aCnt_succ]
    by_cases hn : n = g
    · subst hn
      rw [upd_s, if_neg hv]
      refine ⟨fun h => absurd h (by omega), fun _ h0 => ?_⟩
      rw [if_pos h0, ih.1 (Nat.le_refl _)]
    · rw [upd_n hn]
      refine ⟨fun h => ?_, fun h h0 => ?_⟩
      · rw [ih.1 (by omega)]
      · have := ih.2 (by omega) h0
        by_cases hc : wh n = 0
        · rw [if_pos hc, if_pos hc]; omega
        · rw [if_neg hc, if_neg hc]; omega
theorem aCnt_le (wh : Nat → Int32) : ∀ n, aCnt wh n ≤ n := by
  intro n
  induction n with
  | zero => exact Nat.le_refl _
  | succ n ih =>
    rw [aCnt_succ]
    by_cases hc : wh n = 0
    · rw [if_pos hc]; omega
    · rw [if_neg hc]; omega
theorem aCnt_pos {wh : Nat → Int32} {j : Nat} (h0 : wh j = 0) : ∀ n, j < n → 0 < aCnt wh n := by
  intro n
  induction n with
  | zero => intro h; omega
  | succ n ih =>
    intro h
    rw [aCnt_succ]
    by_cases hc : wh n = 0
    · rw [if_pos hc]; omega
    · rw [if_neg hc]
      have : j ≠ n := fun e => hc (e ▸ h0)
      exact ih (by omega)
theorem aFs_cases (si wh tu : Nat → Int32) (side : Int32) (j : Nat) (a : Option Nat) : aFs si wh tu side j a = a ∨ (aFs si wh tu side j a = some j ∧ wh j = 0 ∧ si j = side) := by
  unfold aFs
  by_cases hc : wh j = 0 ∧ si j = side
  · rw [if_pos hc]
    cases a with
    | none => exact Or.inr ⟨rfl, hc⟩
    | some k =>
      by_cases h2 : tu j < tu k
      · exact Or.inr ⟨by show (if tu j < tu k then some j else some k) = _; rw [if_pos h2], hc⟩
      · exact Or.inl (by show (if tu j < tu k then some j else some k) = _; rw [if_neg h2])
  · rw [if_neg hc]
    exact Or.inl rfl
theorem aFs_none {si wh tu : Nat → Int32} {side : Int32} {j : Nat} {a : Option Nat} (h : aFs si wh tu side j a = none) : a = none ∧ ¬ (wh j = 0 ∧ si j = side) := by
  unfold aFs at h
  by_cases hc : wh j = 0 ∧ si j = side
  · rw [if_pos hc] at h
    cases a with
    | none => cases h
    | some k =>
      have h : (if tu j < tu k then some j else some k) = none := h
      by_cases h2 : tu j < tu k
      · rw [if_pos h2] at h; cases h
      · rw [if_neg h2] at h; cases h
  · rw [if_neg hc] at h
    exact ⟨h, hc⟩
theorem aFirst_some {si wh tu : Nat → Int32} {side : Int32} {G g : Nat} (h : aFirst si wh tu side G = some g) : g < G ∧ wh g = 0 ∧ si g = side := by
  refine zfo_inv (F := aFs si wh tu side) (I := fun j a => ∀ f, a = some f → f < j ∧ wh f = 0 ∧ si f = side) (n := G) (a := none) (fun f e => by cases e) (fun j a hj hi f e => ?_) g h
  rcases aFs_cases si wh tu side j a with h1 | ⟨h1, h2⟩
  · rw [h1] at e
    obtain ⟨q1, q2⟩ := hi f e
    exact ⟨by omega, q2⟩
  · rw [h1] at e
    cases e
    exact ⟨Nat.lt_succ_self _, h2⟩
theorem aFirst_none {si wh tu : Nat → Int32} {side : Int32} {G : Nat} (h : aFirst si wh tu side G = none) : ∀ j, j < G → ¬ (wh j = 0 ∧ si j = side) := by
  refine zfo_inv (F := aFs si wh tu side) (I := fun j a => a = none → ∀ i, i < j → ¬ (wh i = 0 ∧ si i = side)) (n := G) (a := none) (fun _ i hi => absurd hi (Nat.not_lt_zero _)) (fun j a hj hi e i hij => ?_) h
  obtain ⟨q1, q2⟩ := aFs_none e
  by_cases hn : i = j
  · subst hn; exact q2
  · exact hi q1 i (by omega)
theorem aBulk_succ (so bu wh pl : Nat → Int32) (p : Int32) (n : Nat) : aBulk so bu wh pl p (n + 1) = if wh n = 1 ∧ pl n = p then aBulk so bu wh pl p n + bu (so n).toNatClampNeg else aBulk so bu wh pl p n := rfl
theorem aBulk_upd {so bu wh pl : Nat → Int32} {p : Int32} {g : Nat} : ∀ n, (n ≤ g → aBulk so bu (upd wh g 1) (upd pl g p) p n = aBulk so bu wh pl p n) ∧ (g < n → wh g = 0 → aBulk so bu (upd wh g 1) (upd pl g p) p n = aBulk so bu wh pl p n + bu (so g).toNatClampNeg) := by
  intro n
  induction n with
  | zero => exact ⟨fun _ => rfl, fun h => absurd h (Nat.not_lt_zero _)⟩
  | succ n ih =>
    rw [aBulk_succ, aBulk_succ]
    by_cases hn : n = g
    · subst hn
      rw [upd_s, upd_s, if_pos ⟨rfl, rfl⟩]
      refine ⟨fun h => absurd h (by omega), fun _ h0 => ?_⟩
      rw [if_neg (fun q => by rw [h0] at q; exact absurd q.1 (by decide)), ih.1 (Nat.le_refl _)]
    · rw [upd_n hn, upd_n hn]
      refine ⟨fun h => ?_, fun h h0 => ?_⟩
      · rw [ih.1 (by omega)]
      · rw [ih.2 (by omega) h0]
        by_cases hc : wh n = 1 ∧ pl n = p
        · rw [if_pos hc, if_pos hc, Int32.add_assoc, Int32.add_assoc, Int32.add_comm (bu (so g).toNatClampNeg)]
        · rw [if_neg hc, if_neg hc]
theorem aBulk_bd {so bu wh pl : Nat → Int32} {p : Int32} {G : Nat} (hb : ∀ g, g < G → 0 ≤ (bu (so g).toNatClampNeg).toInt ∧ (bu (so g).toNatClampNeg).toInt ≤ 9) : ∀ n, n ≤ G → n ≤ 9 → 0 ≤ (aBulk so bu wh pl p n).toInt ∧ (aBulk so bu wh pl p n).toInt ≤ 9 * n := by
  intro n
  induction n with
  | zero =>
    intro _ _
    have h0 : (aBulk so bu wh pl p 0).toInt = 0 := rfl
    omega
  | succ n ih =>
    intro h h9
    obtain ⟨q1, q2⟩ := ih (by omega) (by omega)
    obtain ⟨q3, q4⟩ := hb n (by omega)
    rw [aBulk_succ]
    by_cases hc : wh n = 1 ∧ pl n = p
    · rw [if_pos hc, fb_addI (by omega) (by omega)]
      omega
    · rw [if_neg hc]
      omega
def aPut (G : Nat) (so si tu bu : Nat → Int32) (W side p : Int32) : Nat → aS → aS
  | 0, s => s
  | n + 1, s => match aFirst si s.1 tu side G with
    | none => s
    | some g => if aBulk so bu s.1 s.2 p G + bu (so g).toNatClampNeg ≤ W then aPut G so si tu bu W side p n (upd s.1 g 1, upd s.2 g p) else s
theorem aPut_none {G : Nat} {so si tu bu : Nat → Int32} {W side p : Int32} {n : Nat} {s : aS} (h : aFirst si s.1 tu side G = none) : aPut G so si tu bu W side p n s = s := by
  cases n with
  | zero => rfl
  | succ n => rw [aPut, h]
theorem aPut_go {G : Nat} {so si tu bu : Nat → Int32} {W side p : Int32} {n : Nat} {s : aS} {g : Nat} (h : aFirst si s.1 tu side G = some g) (hc : aBulk so bu s.1 s.2 p G + bu (so g).toNatClampNeg ≤ W) : aPut G so si tu bu W side p (n + 1) s = aPut G so si tu bu W side p n (upd s.1 g 1, upd s.2 g p) := by
  rw [aPut, h]
  show (if _ then _ else _) = _
  rw [if_pos hc]
theorem aPut_stop {G : Nat} {so si tu bu : Nat → Int32} {W side p : Int32} {n : Nat} {s : aS} {g : Nat} (h : aFirst si s.1 tu side G = some g) (hc : ¬ aBulk so bu s.1 s.2 p G + bu (so g).toNatClampNeg ≤ W) : aPut G so si tu bu W side p n s = s := by
  cases n with
  | zero => rfl
  | succ n =>
    rw [aPut, h]
    show (if _ then _ else _) = _
    rw [if_neg hc]
/-- where all are, laid into a moment -/
def zwp (M : zM) (c : Nat) (s : aS) : zM := zr (zr M (c + 3) s.1) (c + 4) s.2
theorem zwp_q {M : zM} {c : Nat} {s : aS} {q : Nat} (h1 : q ≠ c + 3) (h2 : q ≠ c + 4) : (zwp M c s).1 q = M.1 q := by rw [zwp, zr_ne h2, zr_ne h1]
theorem zwp_w (M : zM) (c : Nat) (s : aS) : (zwp M c s).1 (c + 3) = s.1 := by rw [zwp, zr_ne (by omega), zr_row]
theorem zwp_p (M : zM) (c : Nat) (s : aS) : (zwp M c s).1 (c + 4) = s.2 := by rw [zwp, zr_row]
theorem zwp_2 (M : zM) (c : Nat) (s : aS) : (zwp M c s).2 = M.2 := rfl
theorem zwp_self (M : zM) (c : Nat) : zwp M c (M.1 (c + 3), M.1 (c + 4)) = M := by
  rw [zwp, zr_self]
  show zr M (c + 4) (M.1 (c + 4)) = M
  rw [zr_self]
theorem zwp_zwp (M : zM) (c : Nat) (s t : aS) : zwp (zwp M c s) c t = zwp M c t := by
  unfold zwp
  rw [zr_comm _ (show c + 4 ≠ c + 3 by omega), zr_zr, zr_zr]
theorem zwp_put (M : zM) (c : Nat) (s : aS) (g : Nat) (v w : Int32) : zs (zs (zwp M c s) (c + 3) g v) (c + 4) g w = zwp M c (upd s.1 g v, upd s.2 g w) := by
  have h1 : zs (zwp M c s) (c + 3) g v = zwp M c (upd s.1 g v, s.2) := by
    unfold zs
    rw [zwp_w]
    unfold zwp
    rw [zr_comm _ (show c + 4 ≠ c + 3 by omega), zr_zr]
  rw [h1]
  unfold zs
  rw [zwp_p]
  unfold zwp
  rw [zr_zr]
theorem zwp_putw (M : zM) (c : Nat) (s : aS) (g : Nat) (v : Int32) : zs (zwp M c s) (c + 3) g v = zwp M c (upd s.1 g v, s.2) := by
  unfold zs
  rw [zwp_w]
  unfold zwp
  rw [zr_comm _ (show c + 4 ≠ c + 3 by omega), zr_zr]
theorem zwp_putp (M : zM) (c : Nat) (s : aS) (g : Nat) (v : Int32) : zs (zwp M c s) (c + 4) g v = zwp M c (s.1, upd s.2 g v) := by
  unfold zs
  rw [zwp_p]
  unfold zwp
  rw [zr_zr]
/-- a moment's own facts, and the plan's -/
def zCx (M : zM) (c G S : Nat) : Prop := 37 ≤ c ∧ M.1 c 2 = nI G ∧ G ≤ 9 ∧ M.1 3 3 = nI S ∧ S ≤ 6 ∧ zSo (M.1 (c + 1)) G S ∧ (∀ x, x < S → 0 ≤ (M.1 4 x).toInt ∧ (M.1 4 x).toInt ≤ 9) ∧ 0 ≤ (M.1 3 1).toInt ∧ (M.1 3 1).toInt ≤ 9
theorem zCx.wp {M : zM} {c G S : Nat} (X : zCx M c G S) (s : aS) : zCx (zwp M c s) c G S := by
  obtain ⟨h1, h2, h3, h4, h5, h6, h7, h8⟩ := X
  refine ⟨h1, ?_, h3, ?_, h5, ?_, ?_, ?_⟩
  · rw [zwp_q (by omega) (by omega)]; exact h2
  · rw [zwp_q (by omega) (by omega)]; exact h4
  · rw [zwp_q (by omega) (by omega)]; exact h6
  · rw [zwp_q (by omega) (by omega)]; exact h7
  · rw [zwp_q (by omega) (by omega)]; exact h8
theorem zCx.bd {M : zM} {c G S : Nat} (X : zCx M c G S) {g : Nat} (hg : g < G) : 0 ≤ (M.1 4 (M.1 (c + 1) g).toNatClampNeg).toInt ∧ (M.1 4 (M.1 (c + 1) g).toNatClampNeg).toInt ≤ 9 := by
  obtain ⟨h1, h2, h3, h4, h5, h6, h7, h8⟩ := X
  obtain ⟨x, hx, e⟩ := h6 g hg
  rw [e, nI_clamp (by omega)]
  exact h7 x hx
theorem c_fill40 {M : zM} {c G S : Nat} (X : zCx M c G S) (k2 : zM → Int32 → Option zM) (x1 p : Int32) : ∀ (n j : Nat) (s : aS), j ≤ G → aCnt s.1 G + j ≤ G → G - j < n → f_X5_fill_40 c k2 n (zwp M c s) x1 p (M.1 3 1 - aBulk (M.1 (c + 1)) (M.1 4) s.1 s.2 p G) (e1 (aFirst (M.1 (c + 2)) s.1 (M.1 (c + 5)) x1 G)) (nI j) = k2 (zwp M c (aPut G (M.1 (c + 1)) (M.1 (c + 2)) (M.1 (c + 5)) (M.1 4) (M.1 3 1) x1 p (G - j) s)) (x1 + 1) := by
  intro n
  induction n with
  | zero => intro j s _ _ h; omega
  | succ n ih =>
    intro j s hj hw hn
    have Xs := X.wp s
    obtain ⟨h1, h2, h3, h4, h5, h6, h7, h8⟩ := id X
    have hG := Xs.2.1
    rw [f_X5_fill_40, hG]
    by_cases hjG : j = G
    · subst hjG
      rw [if_pos (Int32.le_refl _), Nat.sub_self]
      rfl
    · rw [if_neg (nI_ge (show j < G by omega) (by omega))]
      cases hf : aFirst (M.1 (c + 2)) s.1 (M.1 (c + 5)) x1 G with
      | none =>
        rw [show e1 none = (-1 : Int32) from rfl, if_pos rfl, aPut_none hf]
      | some g =>
        obtain ⟨hg, hg0, hgs⟩ := aFirst_some hf
        rw [show e1 (some g) = nI g from rfl, if_neg (nI_m1 (by omega)), zg_in (j := g) (by omega) (by decide), nI_clamp (n := g) (by omega), zwp_q (q := c + 1) (by omega) (by omega)]
        have hb : f_X7_bulkOf (zwp M c s) 3 (M.1 (c + 1) g) = some (M.1 4 (M.1 (c + 1) g).toNatClampNeg, zwp M c s) := by
          have := c_gbulk (M := zwp M c s) (so := M.1 (c + 1)) Xs.2.2.2.1 h5 h6 hg
          rw [zwp_q (q := 4) (by omega) (by omega)] at this
          exact this
        rw [hb, zbi_s]
        have hbd := X.bd hg
        have hA := aBulk_bd (so := M.1 (c + 1)) (bu := M.1 4) (wh := s.1) (pl := s.2) (p := p) (G := G) (fun g hg => X.bd hg) G (Nat.le_refl _) h3
        have hcond : 0 ≤ M.1 3 1 - aBulk (M.1 (c + 1)) (M.1 4) s.1 s.2 p G - M.1 4 (M.1 (c + 1) g).toNatClampNeg ↔ aBulk (M.1 (c + 1)) (M.1 4) s.1 s.2 p G + M.1 4 (M.1 (c + 1) g).toNatClampNeg ≤ M.1 3 1 := by
          have e1' : (M.1 3 1 - aBulk (M.1 (c + 1)) (M.1 4) s.1 s.2 p G).toInt = (M.1 3 1).toInt - (aBulk (M.1 (c + 1)) (M.1 4) s.1 s.2 p G).toInt := fb_subI (by omega) (by omega)
          have e2' := fb_subI (x := M.1 3 1 - aBulk (M.1 (c + 1)) (M.1 4) s.1 s.2 p G) (y := M.1 4 (M.1 (c + 1) g).toNatClampNeg) (by omega) (by omega)
          have e3' := fb_addI (x := aBulk (M.1 (c + 1)) (M.1 4) s.1 s.2 p G) (y := M.1 4 (M.1 (c + 1) g).toNatClampNeg) (by omega) (by omega)
          rw [i_le, i_le, e2', e1', e3']
          have e0 : (0 : Int32).toInt = 0 := rfl
          omega
        obtain ⟨m, hm⟩ : ∃ m, G - j = m + 1 := ⟨G - j - 1, by omega⟩
        by_cases hc : aBulk (M.1 (c + 1)) (M.1 4) s.1 s.2 p G + M.1 4 (M.1 (c + 1) g).toNatClampNeg ≤ M.1 3 1
        · rw [if_pos (hcond.mpr hc), zg_in (j := g) (by omega) (by decide), zg_in (j := g) (by omega) (by decide), zwp_put]
          have Xt := X.wp (upd s.1 g 1, upd s.2 g p)
          have hfo := c_firstOn (M := zwp M c (upd s.1 g 1, upd s.2 g p)) Xt.2.1 h3 x1
          rw [zwp_q (q := c + 2) (by omega) (by omega), zwp_w, zwp_q (q := c + 5) (by omega) (by omega)] at hfo
          rw [hfo, zbi_s, nI_1, hm, aPut_go hf hc]
          have hcnt := (aCnt_upd (wh := s.1) (g := g) (v := 1) (by decide) G).2 hg hg0
          have hih := ih (j + 1) (upd s.1 g 1, upd s.2 g p) (by omega) (by show aCnt (upd s.1 g 1) G + (j + 1) ≤ G; omega) (by omega)
          rw [show (upd s.1 g 1, upd s.2 g p).1 = upd s.1 g 1 from rfl, show (upd s.1 g 1, upd s.2 g p).2 = upd s.2 g p from rfl, (aBulk_upd (so := M.1 (c + 1)) (bu := M.1 4) (wh := s.1) (pl := s.2) (p := p) (g := g) G).2 hg hg0, show G - (j + 1) = m by omega] at hih
          rw [Int32.sub_sub]
          exact hih
        · rw [if_neg (fun q => hc (hcond.mp q)), aPut_stop hf hc]
/-- both sides -/
def aFill (G : Nat) (so si tu bu : Nat → Int32) (W hp : Int32) (s : aS) : aS := aPut G so si tu bu W 1 hp G (aPut G so si tu bu W 0 0 G s)
theorem c_fill1 {M : zM} {c G S : Nat} (X : zCx M c G S) (n : Nat) (x1 : Int32) (hx : ¬ (1 : Int32) < x1) (s : aS) : f_X5_fill_2 c (n + 1) (zwp M c s) x1 = f_X5_fill_2 c n (zwp M c (aPut G (M.1 (c + 1)) (M.1 (c + 2)) (M.1 (c + 5)) (M.1 4) (M.1 3 1) x1 (if x1 = 0 then 0 else M.1 3 0 / 2) G s)) (x1 + 1) := by
  have Xs := X.wp s
  obtain ⟨h1, h2, h3, h4, h5, h6, h7, h8⟩ := id X
  rw [f_X5_fill_2, if_neg hx]
  have hpl : f_X7_placeOfSide (zwp M c s) 3 x1 = some (if x1 = 0 then 0 else M.1 3 0 / 2, zwp M c s) := by
    show f_X7_placeOfSide_0 3 x1 (zwp M c s) = _
    rw [f_X7_placeOfSide_0, zwp_q (q := 3) (by omega) (by omega)]
    by_cases h : x1 = 0
    · rw [if_pos h, if_pos h]
    · rw [if_neg h, if_neg h]
  rw [hpl, zbi_s]
  have hbk := c_bulkAt (M := zwp M c s) (p := if x1 = 0 then 0 else M.1 3 0 / 2) Xs.2.1 h3 Xs.2.2.2.1 h5 Xs.2.2.2.2.2.1
  rw [zwp_q (q := c + 1) (by omega) (by omega), zwp_q (q := 4) (by omega) (by omega), zwp_w, zwp_p] at hbk
  rw [hbk, zbi_s]
  have hfo := c_firstOn (M := zwp M c s) Xs.2.1 h3 x1
  rw [zwp_q (q := c + 2) (by omega) (by omega), zwp_w, zwp_q (q := c + 5) (by omega) (by omega)] at hfo
  rw [hfo, zbi_s, zwp_q (q := 3) (by omega) (by omega)]
  have h40 := c_fill40 X (f_X5_fill_2 c n) x1 (if x1 = 0 then 0 else M.1 3 0 / 2) zFU 0 s (Nat.zero_le _) (aCnt_le _ _) (zFU_gt (by omega))
  rw [nI_0, Nat.sub_zero] at h40
  exact h40
theorem c_fill {M : zM} {c G S : Nat} (X : zCx M c G S) (s : aS) : f_X5_fill (zwp M c s) c = some (zwp M c (aFill G (M.1 (c + 1)) (M.1 (c + 2)) (M.1 (c + 5)) (M.1 4) (M.1 3 1) (M.1 3 0 / 2) s)) := by
  show f_X5_fill_2 c (1997 + 1 + 1 + 1) (zwp M c s) 0 = _
  rw [c_fill1 X _ 0 (by decide), if_pos rfl, show (0 : Int32) + 1 = 1 from rfl, c_fill1 X _ 1 (by decide), if_neg (by decide), show (1 : Int32) + 1 = 2 from rfl, f_X5_fill_2, if_pos (by decide)]
  rfl
