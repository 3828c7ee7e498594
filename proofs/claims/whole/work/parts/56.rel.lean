/-! two tellings of one moment: same answers -/
def aSi (G : Nat) (s s' : aS) : Prop := ∀ g, g < G → s.1 g = s'.1 g ∧ s.2 g = s'.2 g
def aOr (G : Nat) (si wh tu sa : Nat → Int32) : Prop := ∀ g h, g < G → h < G → wh g = 0 → wh h = 0 → si g = si h → (tu g < tu h ↔ sa g < sa h)
def aEv (G : Nat) (so si so' si' bu pu bu' pu' : Nat → Int32) : Prop := ∀ g, g < G → si g = si' g ∧ bu (so g).toNatClampNeg = bu' (so' g).toNatClampNeg ∧ pu (so g).toNatClampNeg = pu' (so' g).toNatClampNeg
theorem aOr_mono {G : Nat} {si wh wh2 tu sa : Nat → Int32} (h : aOr G si wh tu sa) (hz : ∀ g, g < G → wh2 g = 0 → wh g = 0) : aOr G si wh2 tu sa := fun g k hg hk h1 h2 h3 => h g k hg hk (hz g hg h1) (hz k hk h2) h3
theorem aFirst_succ (si wh tu : Nat → Int32) (side : Int32) (n : Nat) : aFirst si wh tu side (n + 1) = aFs si wh tu side n (aFirst si wh tu side n) := rfl
theorem aFs_y {si wh tu : Nat → Int32} {side : Int32} {j f : Nat} (h : wh j = 0 ∧ si j = side) : aFs si wh tu side j (some f) = if tu j < tu f then some j else some f := by
  unfold aFs
  rw [if_pos h]
theorem aFs_e {si wh tu : Nat → Int32} {side : Int32} {j : Nat} (h : wh j = 0 ∧ si j = side) : aFs si wh tu side j none = some j := by
  unfold aFs
  rw [if_pos h]
theorem aFs_o {si wh tu : Nat → Int32} {side : Int32} {j : Nat} {a : Option Nat} (h : ¬ (wh j = 0 ∧ si j = side)) : aFs si wh tu side j a = a := by
  unfold aFs
  rw [if_neg h]
theorem aFirst_0 (si wh tu : Nat → Int32) (side : Int32) : aFirst si wh tu side 0 = none := rfl
theorem aFirst_rel {G : Nat} {si si' wh wh' tu sa : Nat → Int32} {side : Int32} (hs : ∀ g, g < G → si g = si' g) (hw : ∀ g, g < G → wh g = wh' g) (ho : aOr G si wh tu sa) : aFirst si wh tu side G = aFirst si' wh' sa side G := by
  have key : ∀ n, n ≤ G → aFirst si wh tu side n = aFirst si' wh' sa side n := by
    intro n
    induction n with
    | zero => intro _; rw [aFirst_0, aFirst_0]
    | succ n ih =>
      intro hn
      have ih := ih (by omega)
      have e1 := hs n (by omega)
      have e2 := hw n (by omega)
      rw [aFirst_succ, aFirst_succ, ← ih]
      by_cases hc : wh n = 0 ∧ si n = side
      · have hc' : wh' n = 0 ∧ si' n = side := by rw [← e1, ← e2]; exact hc
        cases hf : aFirst si wh tu side n with
        | none => rw [aFs_e hc, aFs_e hc']
        | some f =>
          obtain ⟨q1, q2, q3⟩ := aFirst_some hf
          have := ho n f (by omega) (by omega) hc.1 q2 (by rw [hc.2, q3])
          rw [aFs_y hc, aFs_y hc']
          by_cases h : tu n < tu f
          · rw [if_pos h, if_pos (this.mp h)]
          · rw [if_neg h, if_neg (fun q => h (this.mpr q))]
      · have hc' : ¬ (wh' n = 0 ∧ si' n = side) := by rw [← e1, ← e2]; exact hc
        rw [aFs_o hc, aFs_o hc']
  exact key G (Nat.le_refl _)
theorem aWho_rel {G : Nat} {wh wh' : Nat → Int32} {w : Int32} (hw : ∀ g, g < G → wh g = wh' g) : aWho wh w G = aWho wh' w G := by
  unfold aWho
  refine zfo_congr (fun j a hj => ?_)
  rw [hw j hj]
theorem aRoom_rel {G : Nat} {s s' : aS} {p : Int32} (h : aSi G s s') : aRoom s.1 s.2 p G = aRoom s'.1 s'.2 p G := by
  unfold aRoom
  refine zfo_congr (fun j a hj => ?_)
  rw [(h j hj).1, (h j hj).2]
theorem aBulk_rel {G : Nat} {so si so' si' bu pu bu' pu' : Nat → Int32} (E : aEv G so si so' si' bu pu bu' pu') {s s' : aS} {p : Int32} (h : aSi G s s') : aBulk so bu s.1 s.2 p G = aBulk so' bu' s'.1 s'.2 p G := by
  unfold aBulk
  refine zfo_congr (fun j a hj => ?_)
  rw [(h j hj).1, (h j hj).2, (E j hj).2.1]
theorem aLoad_rel {G : Nat} {so si so' si' bu pu bu' pu' : Nat → Int32} (E : aEv G so si so' si' bu pu bu' pu') {wh wh' : Nat → Int32} (hw : ∀ g, g < G → wh g = wh' g) : aLoad so pu wh G = aLoad so' pu' wh' G := by
  unfold aLoad
  refine zfo_congr (fun j a hj => ?_)
  rw [hw j hj, (E j hj).2.2]
theorem aSt_rel {G : Nat} {so si so' si' bu pu bu' pu' : Nat → Int32} (E : aEv G so si so' si' bu pu bu' pu') {wh wh' : Nat → Int32} (Hd : Int32) (hw : ∀ g, g < G → wh g = wh' g) : aSt G so pu Hd wh = aSt G so' pu' Hd wh' := by
  unfold aSt
  rw [aWho_rel hw, aLoad_rel E hw]
theorem aPut_zero {G : Nat} {so si tu bu : Nat → Int32} {W side p : Int32} : ∀ (n : Nat) (s : aS) (g : Nat), (aPut G so si tu bu W side p n s).1 g = 0 → s.1 g = 0 := by
  intro n
  induction n with
  | zero => intro s g h; exact h
  | succ n ih =>
    intro s g h
    rw [aPut] at h
    cases hf : aFirst si s.1 tu side G with
    | none =>
      rw [hf] at h
      exact h
    | some f =>
      rw [hf] at h
      have h : (if aBulk so bu s.1 s.2 p G + bu (so f).toNatClampNeg ≤ W then aPut G so si tu bu W side p n (upd s.1 f 1, upd s.2 f p) else s).1 g = 0 := h
      by_cases hc : aBulk so bu s.1 s.2 p G + bu (so f).toNatClampNeg ≤ W
      · rw [if_pos hc] at h
        have := ih _ g h
        have this : upd s.1 f 1 g = 0 := this
        by_cases hg : g = f
        · subst hg
          rw [upd_s] at this
          exact absurd this (by decide)
        · rw [upd_n hg] at this
          exact this
      · rw [if_neg hc] at h
        exact h
theorem aPut_rel {G : Nat} {so si so' si' bu pu bu' pu' : Nat → Int32} (E : aEv G so si so' si' bu pu bu' pu') {tu sa : Nat → Int32} {W side p : Int32} : ∀ (n : Nat) (s s' : aS), aSi G s s' → aOr G si s.1 tu sa → aSi G (aPut G so si tu bu W side p n s) (aPut G so' si' sa bu' W side p n s') := by
  intro n
  induction n with
  | zero => intro s s' h _; exact h
  | succ n ih =>
    intro s s' h ho
    have hf := aFirst_rel (side := side) (fun g hg => (E g hg).1) (fun g hg => (h g hg).1) ho
    rw [aPut, aPut, ← hf]
    cases hf2 : aFirst si s.1 tu side G with
    | none => exact h
    | some f =>
      obtain ⟨q1, q2, q3⟩ := aFirst_some hf2
      show aSi G (if _ then _ else _) (if _ then _ else _)
      rw [← aBulk_rel E h, ← (E f q1).2.1]
      by_cases hc : aBulk so bu s.1 s.2 p G + bu (so f).toNatClampNeg ≤ W
      · rw [if_pos hc, if_pos hc]
        refine ih _ _ (fun g hg => ?_) (aOr_mono ho (fun g _ hz => ?_))
        · show upd s.1 f 1 g = upd s'.1 f 1 g ∧ upd s.2 f p g = upd s'.2 f p g
          by_cases hgf : g = f
          · subst hgf
            rw [upd_s, upd_s, upd_s, upd_s]
            exact ⟨rfl, rfl⟩
          · rw [upd_n hgf, upd_n hgf, upd_n hgf, upd_n hgf]
            exact h g hg
        · have hz : upd s.1 f 1 g = 0 := hz
          by_cases hgf : g = f
          · subst hgf
            exact q2
          · rw [upd_n hgf] at hz
            exact hz
      · rw [if_neg hc, if_neg hc]
        exact h
theorem aFill_zero {G : Nat} {so si tu bu : Nat → Int32} {W hp : Int32} (s : aS) (g : Nat) (h : (aFill G so si tu bu W hp s).1 g = 0) : s.1 g = 0 := aPut_zero G s g (aPut_zero G _ g h)
theorem aFill_rel {G : Nat} {so si so' si' bu pu bu' pu' : Nat → Int32} (E : aEv G so si so' si' bu pu bu' pu') {tu sa : Nat → Int32} {W hp : Int32} {s s' : aS} (h : aSi G s s') (ho : aOr G si s.1 tu sa) : aSi G (aFill G so si tu bu W hp s) (aFill G so' si' sa bu' W hp s') :=
  aPut_rel E G _ _ (aPut_rel E G _ _ h ho) (aOr_mono ho (fun g _ hz => aPut_zero G s g hz))
theorem aGo_zero (si : Nat → Int32) (R hp : Int32) (s : aS) (g : Nat) : ∀ n, (zfo (aCar si R hp) n (0, s)).2.1 g = 0 → s.1 g = 0 := by
  intro n
  induction n with
  | zero => intro h; exact h
  | succ n ih =>
    intro h
    have h : (aCar si R hp n (zfo (aCar si R hp) n (0, s))).2.1 g = 0 := h
    unfold aCar at h
    by_cases h1 : (zfo (aCar si R hp) n (0, s)).2.1 n = 1
    · unfold aCar at h1
      rw [if_pos h1] at h
      by_cases h2 : aNx R ((zfo (aCar si R hp) n (0, s)).2.2 n) = aTo hp (si n)
      · unfold aCar at h2
        rw [if_pos h2] at h
        have h : upd (zfo (aCar si R hp) n (0, s)).2.1 n 2 g = 0 := h
        by_cases hg : g = n
        · subst hg
          rw [upd_s] at h
          exact absurd h (by decide)
        · rw [upd_n hg] at h
          exact ih h
      · unfold aCar at h2
        rw [if_neg h2] at h
        exact ih h
    · unfold aCar at h1
      rw [if_neg h1] at h
      exact ih h
theorem aGo_rel {G : Nat} {si si' : Nat → Int32} (hs : ∀ g, g < G → si g = si' g) (R hp : Int32) {s s' : aS} (h : aSi G s s') : ∀ n, n ≤ G → (zfo (aCar si R hp) n (0, s)).1 = (zfo (aCar si' R hp) n (0, s')).1 ∧ aSi G (zfo (aCar si R hp) n (0, s)).2 (zfo (aCar si' R hp) n (0, s')).2 := by
  intro n
  induction n with
  | zero => intro _; exact ⟨rfl, h⟩
  | succ n ih =>
    intro hn
    obtain ⟨i1, i2⟩ := ih (by omega)
    have e1 : zfo (aCar si R hp) (n + 1) (0, s) = aCar si R hp n (zfo (aCar si R hp) n (0, s)) := rfl
    have e2 : zfo (aCar si' R hp) (n + 1) (0, s') = aCar si' R hp n (zfo (aCar si' R hp) n (0, s')) := rfl
    rw [e1, e2]
    generalize zfo (aCar si R hp) n (0, s) = a at *
    generalize zfo (aCar si' R hp) n (0, s') = b at *
    unfold aCar
    obtain ⟨j1, j2⟩ := i2 n (by omega)
    rw [← j1, ← j2, ← hs n (by omega)]
    by_cases h1 : a.2.1 n = 1
    · rw [if_pos h1, if_pos h1]
      by_cases h2 : aNx R (a.2.2 n) = aTo hp (si n)
      · rw [if_pos h2, if_pos h2]
        refine ⟨by show a.1 + 1 = b.1 + 1; rw [i1], fun g hg => ?_⟩
        show upd a.2.1 n 2 g = upd b.2.1 n 2 g ∧ upd a.2.2 n _ g = upd b.2.2 n _ g
        by_cases hgn : g = n
        · subst hgn
          rw [upd_s, upd_s, upd_s, upd_s]
          exact ⟨rfl, rfl⟩
        · rw [upd_n hgn, upd_n hgn, upd_n hgn, upd_n hgn]
          exact i2 g hg
      · rw [if_neg h2, if_neg h2]
        refine ⟨i1, fun g hg => ?_⟩
        show a.2.1 g = b.2.1 g ∧ upd a.2.2 n _ g = upd b.2.2 n _ g
        by_cases hgn : g = n
        · subst hgn
          rw [upd_s, upd_s]
          exact ⟨j1, rfl⟩
        · rw [upd_n hgn, upd_n hgn]
          exact i2 g hg
    · rw [if_neg h1, if_neg h1]
      exact ⟨i1, i2⟩
theorem aTurn_zero {G : Nat} {so si tu bu pu : Nat → Int32} {R W Hd : Int32} (s : aS) (g : Nat) (h : (aTurn G so si tu bu pu R W Hd s).2.1 g = 0) : s.1 g = 0 := by
  unfold aTurn at h
  by_cases hc : aSt G so pu Hd s.1 = true
  · rw [if_pos hc] at h
    exact h
  · rw [if_neg hc] at h
    exact aGo_zero si R (R / 2) s g G (aFill_zero _ g h)
theorem aTurn_rel {G : Nat} {so si so' si' bu pu bu' pu' : Nat → Int32} (E : aEv G so si so' si' bu pu bu' pu') {tu sa : Nat → Int32} (R W Hd : Int32) {s s' : aS} (h : aSi G s s') (ho : aOr G si s.1 tu sa) : (aTurn G so si tu bu pu R W Hd s).1 = (aTurn G so' si' sa bu' pu' R W Hd s').1 ∧ aSi G (aTurn G so si tu bu pu R W Hd s).2 (aTurn G so' si' sa bu' pu' R W Hd s').2 := by
  unfold aTurn
  rw [← aSt_rel E Hd (fun g hg => (h g hg).1)]
  by_cases hc : aSt G so pu Hd s.1 = true
  · rw [if_pos hc, if_pos hc]
    exact ⟨rfl, h⟩
  · rw [if_neg hc, if_neg hc]
    obtain ⟨g1, g2⟩ := aGo_rel (fun g hg => (E g hg).1) R (R / 2) h G (Nat.le_refl _)
    exact ⟨g1, aFill_rel E g2 (aOr_mono ho (fun g _ hz => aGo_zero si R (R / 2) s g G hz))⟩
theorem aWhen_gen {T T' : aS → aS} {st st' : aS → Bool} {g : Nat} (Q : aS → aS → Prop) (h1 : ∀ s s', Q s s' → s.1 g = s'.1 g) (h2 : ∀ s s', Q s s' → st s = st' s') (h3 : ∀ s s', Q s s' → Q (T s) (T' s')) : ∀ k s s' n, Q s s' → aWhen T st g k s n = aWhen T' st' g k s' n := by
  intro k
  induction k with
  | zero => intro s s' n _; rfl
  | succ k ih =>
    intro s s' n q
    rw [aWhen, aWhen, h1 s s' q, h2 s s' q, ih _ _ _ (h3 s s' q)]
theorem aStick_gen {T T' : aS → aS} {st st' : aS → Bool} (Q : aS → aS → Prop) (h2 : ∀ s s', Q s s' → st s = st' s') (h3 : ∀ s s', Q s s' → Q (T s) (T' s')) : ∀ k s s' n, Q s s' → aStick T st k s n = aStick T' st' k s' n := by
  intro k
  induction k with
  | zero => intro s s' n _; rfl
  | succ k ih =>
    intro s s' n q
    rw [aStick, aStick, h2 s s' q, ih _ _ _ (h3 s s' q)]
theorem aAll_gen {T T' : aS → aS} {st st' ou ou' : aS → Bool} (Q : aS → aS → Prop) (h1 : ∀ s s', Q s s' → ou s = ou' s') (h2 : ∀ s s', Q s s' → st s = st' s') (h3 : ∀ s s', Q s s' → Q (T s) (T' s')) : ∀ k s s' n, Q s s' → aAll T st ou k s n = aAll T' st' ou' k s' n := by
  intro k
  induction k with
  | zero => intro s s' n _; rfl
  | succ k ih =>
    intro s s' n q
    rw [aAll, aAll, h1 s s' q, h2 s s' q, ih _ _ _ (h3 s s' q)]
/-- those who are in are at a place -/
def aBd (G R : Nat) (s : aS) : Prop := ∀ g, g < G → s.1 g = 1 → ∃ q, q < R ∧ s.2 g = nI q
theorem aPut_bd {G R : Nat} {so si tu bu : Nat → Int32} {W side : Int32} {p : Nat} (hp : p < R) : ∀ (n : Nat) (s : aS), aBd G R s → aBd G R (aPut G so si tu bu W side (nI p) n s) := by
  intro n
  induction n with
  | zero => intro s h; exact h
  | succ n ih =>
    intro s h
    rw [aPut]
    cases hf : aFirst si s.1 tu side G with
    | none => exact h
    | some f =>
      show aBd G R (if _ then _ else _)
      by_cases hc : aBulk so bu s.1 s.2 (nI p) G + bu (so f).toNatClampNeg ≤ W
      · rw [if_pos hc]
        refine ih _ (fun g hg h1 => ?_)
        have h1 : upd s.1 f 1 g = 1 := h1
        show ∃ q, q < R ∧ upd s.2 f (nI p) g = nI q
        by_cases hgf : g = f
        · subst hgf
          rw [upd_s]
          exact ⟨p, hp, rfl⟩
        · rw [upd_n hgf] at h1
          rw [upd_n hgf]
          exact h g hg h1
      · rw [if_neg hc]
        exact h
theorem aFill_bd {G R : Nat} {so si tu bu : Nat → Int32} {W : Int32} (hR : 0 < R) (hR2 : R < 2 ^ 31) {s : aS} (h : aBd G R s) : aBd G R (aFill G so si tu bu W (nI R / 2) s) := by
  unfold aFill
  rw [nI_lit 2, pk_div hR2 (by decide) (by decide), ← nI_0]
  exact aPut_bd (by omega) G _ (aPut_bd hR G s h)
theorem aNx_n {R q : Nat} (hq : q < R) (hR : R < 2 ^ 30) : aNx (nI R) (nI q) = nI ((q + 1) % R) := by
  unfold aNx
  rw [nI_1]
  by_cases h : q + 1 = R
  · rw [if_pos (by rw [h]; exact Int32.le_refl _), h, Nat.mod_self, nI_0]
  · rw [if_neg (nI_ge (by omega) (by omega)), Nat.mod_eq_of_lt (by omega)]
theorem aGo_bd {G R : Nat} (si : Nat → Int32) (hp : Int32) (hR : R < 2 ^ 30) {s : aS} (h : aBd G R s) : ∀ n, n ≤ G → aBd G R (zfo (aCar si (nI R) hp) n (0, s)).2 := by
  intro n
  induction n with
  | zero => intro _; exact h
  | succ n ih =>
    intro hn
    have ih := ih (by omega)
    have e1 : zfo (aCar si (nI R) hp) (n + 1) (0, s) = aCar si (nI R) hp n (zfo (aCar si (nI R) hp) n (0, s)) := rfl
    rw [e1]
    generalize zfo (aCar si (nI R) hp) n (0, s) = a at *
    unfold aCar
    by_cases h1 : a.2.1 n = 1
    · rw [if_pos h1]
      obtain ⟨q, hq, e⟩ := ih n (by omega) h1
      rw [e, aNx_n hq hR]
      by_cases h2 : nI ((q + 1) % R) = aTo hp (si n)
      · rw [if_pos h2]
        intro g hg hg1
        have hg1 : upd a.2.1 n 2 g = 1 := hg1
        show ∃ x, x < R ∧ upd a.2.2 n _ g = nI x
        by_cases hgn : g = n
        · subst hgn
          rw [upd_s] at hg1
          exact absurd hg1 (by decide)
        · rw [upd_n hgn] at hg1
          rw [upd_n hgn]
          exact ih g hg hg1
      · rw [if_neg h2]
        intro g hg hg1
        show ∃ x, x < R ∧ upd a.2.2 n _ g = nI x
        by_cases hgn : g = n
        · subst hgn
          rw [upd_s]
          exact ⟨_, Nat.mod_lt _ (by omega), rfl⟩
        · rw [upd_n hgn]
          exact ih g hg hg1
    · rw [if_neg h1]
      exact ih
theorem aTurn_bd {G R : Nat} {so si tu bu pu : Nat → Int32} {W Hd : Int32} (hR : 0 < R) (hR2 : R < 2 ^ 30) {s : aS} (h : aBd G R s) : aBd G R (aTurn G so si tu bu pu (nI R) W Hd s).2 := by
  unfold aTurn
  by_cases hc : aSt G so pu Hd s.1 = true
  · rw [if_pos hc]
    exact h
  · rw [if_neg hc]
    exact aFill_bd hR (by omega) (aGo_bd si _ hR2 h G (Nat.le_refl _))
theorem aTurn_stuck {G : Nat} {so si tu bu pu : Nat → Int32} {R W Hd : Int32} {s : aS} (h : aSt G so pu Hd s.1 = true) : aTurn G so si tu bu pu R W Hd s = (0, s) := by
  unfold aTurn
  rw [if_pos h]
