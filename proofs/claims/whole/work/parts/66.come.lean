/-! comes, leaves, lets -/
theorem wMo_come {n R S G K s : Nat} {A A' : Nat → Nat → Int32} {r r' : Nat → Int32} {y v : Int32} (X : wMo n R S G K A r) (hG : G < 9) (hs : s < S) (hy : y = 0 ∨ y = 1) (hn : n < 1000) (hv : ∀ g, g < G → (r (38 + g)).toInt < v.toInt) (hv0 : 0 ≤ v.toInt) (hv1 : v.toInt ≤ n + 1) (h1 : A' 0 1 = A 0 1) (h2 : A' 0 2 = nI (G + 1)) (hA : ∀ g, g < G → A' 1 g = A 1 g ∧ A' 2 g = A 2 g ∧ A' 3 g = A 3 g ∧ A' 4 g = A 4 g ∧ A' 5 g = A 5 g) (hN : A' 1 G = nI s ∧ A' 2 G = y ∧ A' 3 G = 0 ∧ A' 4 G = 0 ∧ A' 5 G = nI G) (h3 : r' 0 = nI (G + 1)) (h4 : r' 1 = r 1) (hr : ∀ g, g < G → r' (2 + g) = r (2 + g) ∧ r' (11 + g) = r (11 + g) ∧ r' (20 + g) = r (20 + g) ∧ r' (29 + g) = r (29 + g) ∧ r' (38 + g) = r (38 + g)) (hM : r' (2 + G) = nI s ∧ r' (11 + G) = y ∧ r' (20 + G) = 0 ∧ r' (29 + G) = 0 ∧ r' (38 + G) = v) : wMo (n + 1) R S (G + 1) K A' r' := by
  obtain ⟨⟨a1, a2, a3, a4, a5, a6⟩, b, d⟩ := X
  obtain ⟨n1, n2, n3, n4, n5⟩ := hN
  obtain ⟨m1, m2, m3, m4, m5⟩ := hM
  have tG : (nI G).toInt = (G : Int) := nI_t (by omega)
  refine ⟨⟨by omega, a2, h2, h3, by rw [h1]; exact a5, by rw [h4]; exact a6⟩, fun g hg => ?_, fun g h hg hh => ?_⟩
  · unfold wGo
    by_cases hgG : g = G
    · subst hgG
      rw [n1, n2, n3, n4, n5, m1, m2, m3, m4, m5, tG]
      exact ⟨⟨s, hs, rfl⟩, rfl, hy, rfl, rfl, rfl, fun q => absurd q (by decide), ⟨by omega, by omega⟩, ⟨by omega, by omega⟩⟩
    · obtain ⟨q1, q2, q3, q4, q5, q6, q7, q8, q9⟩ := b g (by omega)
      obtain ⟨e1, e2, e3, e4, e5⟩ := hA g (by omega)
      obtain ⟨f1, f2, f3, f4, f5⟩ := hr g (by omega)
      rw [e1, e2, e3, e4, e5, f1, f2, f3, f4, f5]
      exact ⟨q1, q2, q3, q4, q5, q6, q7, ⟨by omega, q8.2⟩, ⟨by omega, by omega⟩⟩
  · by_cases hgG : g = G
    · subst hgG
      by_cases hhG : h = g
      · subst hhG
        rw [i_lt, i_lt]
        exact fun _ _ _ => ⟨⟨fun q => by omega, fun q => by omega⟩, fun q => absurd rfl q⟩
      · obtain ⟨e1, e2, e3, e4, e5⟩ := hA h (by omega)
        obtain ⟨f1, f2, f3, f4, f5⟩ := hr h (by omega)
        have q8 := (b h (by omega)).2.2.2.2.2.2.2.1
        have hvh := hv h (by omega)
        rw [n5, m5, e5, f5, i_lt, i_lt, tG]
        exact fun _ _ _ => ⟨⟨fun q => by omega, fun q => by omega⟩, fun _ q => by have := congrArg Int32.toInt q; rw [tG] at this; omega⟩
    · by_cases hhG : h = G
      · subst hhG
        obtain ⟨e1, e2, e3, e4, e5⟩ := hA g (by omega)
        obtain ⟨f1, f2, f3, f4, f5⟩ := hr g (by omega)
        have q8 := (b g (by omega)).2.2.2.2.2.2.2.1
        have hvg := hv g (by omega)
        rw [n5, m5, e5, f5, i_lt, i_lt, tG]
        exact fun _ _ _ => ⟨⟨fun q => by omega, fun q => by omega⟩, fun _ q => by have := congrArg Int32.toInt q; rw [tG] at this; omega⟩
      · obtain ⟨e1, e2, e3, e4, e5⟩ := hA g (by omega)
        obtain ⟨f1, f2, f3, f4, f5⟩ := hr g (by omega)
        obtain ⟨i1, i2, i3, i4, i5⟩ := hA h (by omega)
        obtain ⟨j1, j2, j3, j4, j5⟩ := hr h (by omega)
        rw [e2, e3, e5, f5, i2, i3, i5, j5]
        exact d g h (by omega) (by omega)
theorem wMo_let {n R S G K f g : Nat} {A A' : Nat → Nat → Int32} {r r' : Nat → Int32} {v w : Int32} (X : wMo n R S G K A r) (hg : g < G) (h0 : A 3 g = 0) (hf : aFirst (A 2) (A 3) (A 5) (A 2 g) G = some f) (hn : n < 1000) (hv : v.toInt = (A 5 f).toInt - 1) (hw : w.toInt = (r (38 + f)).toInt - 1) (h1 : A' 0 1 = A 0 1) (h2 : A' 0 2 = A 0 2) (h3 : ∀ i j, 1 ≤ i → i ≤ 4 → j < 9 → A' i j = A i j) (h5 : A' 5 g = v) (h6 : ∀ j, j < 9 → j ≠ g → A' 5 j = A 5 j) (h7 : r' (38 + g) = w) (h8 : ∀ j, j < 47 → j ≠ 38 + g → r' j = r j) : wMo (n + 1) R S G K A' r' := by
  have hm := aFirst_min G f hf
  obtain ⟨f1, f2, f3⟩ := aFirst_some hf
  have hmr : ∀ h, h < G → A 3 h = 0 → A 2 h = A 2 g → (r (38 + f)).toInt ≤ (r (38 + h)).toInt := by
    intro h hh z1 z2
    have q := hm h hh z1 z2
    have p := (X.2.2 h f hh f1 z1 f2 (by rw [z2, f3])).1
    rw [i_le] at q
    rw [i_lt, i_lt] at p
    omega
  have hme : ∀ h, h < G → A 3 h = 0 → A 2 h = A 2 g → (A 5 f).toInt ≤ (A 5 h).toInt := fun h hh z1 z2 => (i_le _ _).mp (hm h hh z1 z2)
  obtain ⟨⟨a1, a2, a3, a4, a5, a6⟩, b, d⟩ := X
  have r0 := h8 0 (by omega) (by omega)
  have r1 := h8 1 (by omega) (by omega)
  refine ⟨⟨a1, a2, by rw [h2]; exact a3, by rw [r0]; exact a4, by rw [h1]; exact a5, by rw [r1]; exact a6⟩, fun k hk => ?_, fun k h hk hh => ?_⟩
  · obtain ⟨q1, q2, q3, q4, q5, q6, q7, q8, q9⟩ := b k hk
    unfold wGo
    rw [h3 1 k (by omega) (by omega) (by omega), h3 2 k (by omega) (by omega) (by omega), h3 3 k (by omega) (by omega) (by omega), h3 4 k (by omega) (by omega) (by omega), h8 (2 + k) (by omega) (by omega), h8 (11 + k) (by omega) (by omega), h8 (20 + k) (by omega) (by omega), h8 (29 + k) (by omega) (by omega)]
    by_cases hkg : k = g
    · subst hkg
      have y1 := (b f f1).2.2.2.2.2.2.2.1
      have y2 := (b f f1).2.2.2.2.2.2.2.2
      have y3 := hme k hk h0 rfl
      rw [h5, h7, hv, hw]
      exact ⟨q1, q2, q3, q4, q5, q6, q7, ⟨by omega, by omega⟩, ⟨by omega, by omega⟩⟩
    · rw [h6 k (by omega) hkg, h8 (38 + k) (by omega) (by omega)]
      exact ⟨q1, q2, q3, q4, q5, q6, q7, ⟨by omega, q8.2⟩, ⟨by omega, by omega⟩⟩
  · rw [h3 2 k (by omega) (by omega) (by omega), h3 3 k (by omega) (by omega) (by omega), h3 2 h (by omega) (by omega) (by omega), h3 3 h (by omega) (by omega) (by omega)]
    by_cases hkg : k = g
    · subst hkg
      by_cases hhg : h = k
      · subst hhg
        rw [i_lt, i_lt]
        exact fun _ _ _ => ⟨⟨fun q => by omega, fun q => by omega⟩, fun q => absurd rfl q⟩
      · rw [h5, h7, h6 h (by omega) hhg, h8 (38 + h) (by omega) (by omega), i_lt, i_lt]
        intro z1 z2 z3
        have y1 := hme h hh z2 z3.symm
        have y2 := hmr h hh z2 z3.symm
        exact ⟨⟨fun q => by omega, fun q => by omega⟩, fun _ q => by have := congrArg Int32.toInt q; omega⟩
    · by_cases hhg : h = g
      · subst hhg
        rw [h5, h7, h6 k (by omega) hkg, h8 (38 + k) (by omega) (by omega), i_lt, i_lt]
        intro z1 z2 z3
        have y1 := hme k hk z1 z3
        have y2 := hmr k hk z1 z3
        exact ⟨⟨fun q => by omega, fun q => by omega⟩, fun _ q => by have := congrArg Int32.toInt q; omega⟩
      · rw [h6 k (by omega) hkg, h8 (38 + k) (by omega) (by omega), h6 h (by omega) hhg, h8 (38 + h) (by omega) (by omega)]
        exact d k h hk hh
/-- fill, wherever all are -/
theorem q_fillG {M1 M3 : zM} {n R W H S G K c t : Nat} (P1 : wP M1 R W H S) (h26 : M3.1 26 = M1.1 26) (h27 : M3.1 27 = M1.1 27) (h25 : ∀ j, j < 4 → M3.1 25 j = M1.1 25 j) (X : wMo n R S G K (fun i => M1.1 (c + i)) (M3.1 t)) {s s' : aS} (hs : aSi G s s') (hz : ∀ g, g < G → s.1 g = 0 → M1.1 (c + 3) g = 0) (hb : aBd G R s) : aSi G (aFill G (M1.1 (c + 1)) (M1.1 (c + 2)) (M1.1 (c + 5)) (M1.1 4) (M1.1 3 1) (M1.1 3 0 / 2) s) (aFill G (fun g => M3.1 t (2 + g)) (fun g => M3.1 t (11 + g)) (fun g => M3.1 t (38 + g)) (M3.1 26) (M3.1 25 1) (M3.1 25 0 / 2) s') ∧ aBd G R (aFill G (M1.1 (c + 1)) (M1.1 (c + 2)) (M1.1 (c + 5)) (M1.1 4) (M1.1 3 1) (M1.1 3 0 / 2) s) ∧ ∀ g, g < G → (aFill G (M1.1 (c + 1)) (M1.1 (c + 2)) (M1.1 (c + 5)) (M1.1 4) (M1.1 3 1) (M1.1 3 0 / 2) s).1 g = 0 → M1.1 (c + 3) g = 0 := by
  have E := q_ev P1 h26 h27 X
  obtain ⟨⟨p1, p2, _⟩, ⟨c0, c1, c2, _⟩, ⟨d0, d1, d2, _⟩, _⟩ := id P1
  rw [h25 0 (by omega), h25 1 (by omega), c0, c1, d0, d1]
  exact ⟨aFill_rel E hs (aOr_mono X.or hz), aFill_bd (by omega) (by omega) hb, fun g hg q => hz g hg (aFill_zero s g q)⟩
theorem q_put0 {M1 M3 : zM} {n R S G K c t : Nat} (hc : 37 ≤ c) (X : wMo n R S G K (fun i => M1.1 (c + i)) (M3.1 t)) {s s' : aS} (hs : aSi G s s') (hz : ∀ g, g < G → s.1 g = 0 → M1.1 (c + 3) g = 0) (hb : aBd G R s) : wMo n R S G K (fun i => (zwp M1 c s).1 (c + i)) ((zrw M3 t s').1 t) := by
  have := q_put (v := M1.1 c 1) (w := M3.1 t 1) hc X hs hz hb X.1.2.1 X.1.2.2.2.2.1 X.1.2.2.2.2.2
  rw [zs_self, zs_self] at this
  exact this
theorem up_si {G g : Nat} {s s' : aS} {v : Int32} (h : aSi G s s') : aSi G (upd s.1 g v, s.2) (upd s'.1 g v, s'.2) := by
  intro k hk
  refine ⟨?_, (h k hk).2⟩
  show upd s.1 g v k = upd s'.1 g v k
  by_cases hkg : k = g
  · subst hkg; rw [upd_s, upd_s]
  · rw [upd_n hkg, upd_n hkg]; exact (h k hk).1
theorem up3_z {G g : Nat} {wh : Nat → Int32} (k : Nat) (_ : k < G) (h : upd wh g 3 k = 0) : wh k = 0 := by
  by_cases hkg : k = g
  · subst hkg; rw [upd_s] at h; exact absurd h (by decide)
  · rw [upd_n hkg] at h; exact h
theorem up3_bd {G R g : Nat} {s : aS} (h : aBd G R s) : aBd G R (upd s.1 g 3, s.2) := by
  intro k hk h1
  have h1 : upd s.1 g 3 k = 1 := h1
  by_cases hkg : k = g
  · subst hkg; rw [upd_s] at h1; exact absurd h1 (by decide)
  · rw [upd_n hkg] at h1; exact h k hk h1
/-- one gives up: the class's, the reference's -/
theorem c_give {M : zM} {c G S g : Nat} (X : zCx M c G S) (hg : g < G) (h0 : M.1 (c + 3) g = 0) : f_X5_giveUp M c (nI g) = some (zwp M c (aFill G (M.1 (c + 1)) (M.1 (c + 2)) (M.1 (c + 5)) (M.1 4) (M.1 3 1) (M.1 3 0 / 2) (upd (M.1 (c + 3)) g 3, M.1 (c + 4)))) := by
  have h9 := X.2.2.1
  have e := zwp_putw M c (M.1 (c + 3), M.1 (c + 4)) g 3
  rw [zwp_self] at e
  show f_X5_giveUp_0 c (nI g) M = _
  rw [f_X5_giveUp_0, c_hasGoer X.2.1 h9 hg, zbi_s, if_neg (by decide), zg_in (by omega) (by decide), nI_clamp (by omega), if_pos h0, zg_in (by omega) (by decide), e, c_fill X, zbv_s]
theorem r_give {M : zM} {t G S g : Nat} (X : zRx M t G S) (hg : g < G) : zbv (f_X12_leavesOn M t (nI g)) (fun M => f_X12_fills M t) = some (zrw M t (aFill G (fun g => M.1 t (2 + g)) (fun g => M.1 t (11 + g)) (fun g => M.1 t (38 + g)) (M.1 26) (M.1 25 1) (M.1 25 0 / 2) (upd (fun g => M.1 t (20 + g)) g 3, fun g => M.1 t (29 + g)))) := by
  have h9 := X.2.2.1
  have e := zrw_putw (M := M) (t := t) (s := (fun g => M.1 t (20 + g), fun g => M.1 t (29 + g))) (g := g) (by omega) 3
  rw [zrw_self] at e
  show zbv (f_X12_leavesOn_0 t (nI g) M) _ = _
  rw [f_X12_leavesOn_0, ix20, zg_in (by omega) (by decide), nI_clamp (by omega), zbv_s, e, r_fills X]
theorem p_leaves {n : Nat} {M : zM} (X : wI n M) (x : Int32) : wOp n M (fun M => f_X11_leaves M x) (fun M => f_X12_leaves M x) := by
  obtain ⟨R, W, H, S, a1, a2, a3, a4, a5, a6, a7⟩ := id X
  obtain ⟨G, K, b⟩ := id a2
  have hx := b.cx a1 (by omega)
  have hr := b.rx a1 (by omega)
  have h9 := hx.2.2.1
  have no : x < 0 ∨ nI G ≤ x → wOp n M (fun M => f_X11_leaves M x) (fun M => f_X12_leaves M x) := by
    intro h
    refine wOp_same X (-1) ?_ ?_
    · show f_X11_leaves_0 x M = _
      rw [f_X11_leaves_0, c_noGoer hx.2.1 h, zbi_s, if_pos rfl]
    · show f_X12_leaves_0 x M = _
      rw [f_X12_leaves_0, r_isGoerF hr.2.1 h9 h, zbi_s, if_pos rfl]
  rcases pk_ix x (n := G) (by omega) with h | h | ⟨g, hg, rfl⟩
  · exact no (Or.inl h)
  · exact no (Or.inr h)
  have q5 : M.1 (37 + 3) g = M.1 28 (20 + g) := (b.2.1 g hg).2.2.2.2.1
  by_cases h0 : M.1 (37 + 3) g = 0
  · obtain ⟨M1, r0, r1, r2, r3⟩ := wNote a3 a2
    have P1 : wP M1 R W H S := wP_tr a1 (r1 _ (by decide) (by omega)) (r1 _ (by decide) (by omega)) (r1 _ (by decide) (by omega)) (r1 _ (by decide) (by omega)) (r1 _ (by decide) (by omega)) (fun j _ => by rw [r1 _ (by decide) (by omega)])
    have b1 : wMo n R S G K (fun i => M1.1 (37 + i)) (M.1 28) := wMo_tr b (by show M1.1 37 1 = M.1 37 1; rw [r1 _ (by decide) (by omega)]) (by show M1.1 37 2 = M.1 37 2; rw [r1 _ (by decide) (by omega)]) (fun i j h1 h5 hj => by show M1.1 (37 + i) j = M.1 (37 + i) j; rw [r1 _ (by omega) (by omega)]) (fun _ _ => rfl)
    have x1 := b1.cx P1 (by omega)
    have cg := c_give x1 hg (by rw [r1 _ (by decide) (by omega)]; exact h0)
    generalize hs : aFill G (M1.1 (37 + 1)) (M1.1 (37 + 2)) (M1.1 (37 + 5)) (M1.1 4) (M1.1 3 1) (M1.1 3 0 / 2) (upd (M1.1 (37 + 3)) g 3, M1.1 (37 + 4)) = q at cg
    have s1 : ∀ k, ¬ (37 ≤ k ∧ k < 43) → (zwp M1 37 q).1 k = M1.1 k := fun k hk => zwp_q (by omega) (by omega)
    obtain ⟨M3, t0, t1, t2, t3, t4⟩ := r3 (zwp M1 37 q) (by rw [s1 25 (by omega), r1 25 (by decide) (by omega)]) (by rw [s1 28 (by omega), r1 28 (by decide) (by omega)]) (by rw [s1 30 (by omega), r1 30 (by decide) (by omega)])
    have h28 : M3.1 28 = M.1 28 := by rw [t1 28 (by decide) (by decide), s1 28 (by omega), r1 28 (by decide) (by omega)]
    have P3 : wP M3 R W H S := wP_tr P1 (by rw [t1 _ (by decide) (by decide), s1 _ (by omega)]) (by rw [t1 _ (by decide) (by decide), s1 _ (by omega)]) (by rw [t1 _ (by decide) (by decide), s1 _ (by omega)]) (by rw [t1 _ (by decide) (by decide), s1 _ (by omega)]) (by rw [t1 _ (by decide) (by decide), s1 _ (by omega)]) (fun j hj => by rw [t2 j (by omega), s1 _ (by omega)])
    have b3 : wMo n R S G K (fun i => M1.1 (37 + i)) (M3.1 28) := by rw [h28]; exact b1
    obtain ⟨e1, e2, e3⟩ := q_fillG P1 (by rw [t1 _ (by decide) (by decide), s1 _ (by omega)]) (by rw [t1 _ (by decide) (by decide), s1 _ (by omega)]) (fun j hj => by rw [t2 j (by omega), s1 _ (by omega)]) b3 (up_si (g := g) (v := 3) b3.si) (fun k hk z => up3_z (G := G) (g := g) k hk z) (up3_bd (g := g) b3.bd)
    have hr3 := b3.rx P3 (by omega)
    have rg := r_give hr3 hg
    generalize hs' : aFill G (fun g => M3.1 28 (2 + g)) (fun g => M3.1 28 (11 + g)) (fun g => M3.1 28 (38 + g)) (M3.1 26) (M3.1 25 1) (M3.1 25 0 / 2) (upd (fun g => M3.1 28 (20 + g)) g 3, fun g => M3.1 28 (29 + g)) = q' at rg e1
    have e1 : aSi G q q' := by rw [← hs]; exact e1
    have e2 : aBd G R q := by rw [← hs]; exact e2
    have e3 : ∀ k, k < G → q.1 k = 0 → M1.1 (37 + 3) k = 0 := by rw [← hs]; exact e3
    have hG2 : (zwp M1 37 q).1 37 2 = nI G := by rw [zwp_q (by decide) (by decide)]; exact x1.2.1
    have are := c_are hG2 h9 0
    rw [zwp_w] at are
    have those := r_those hr3 q' 0
    refine ⟨zbc (aWho q.1 0 G), zwp M1 37 q, zrw M3 28 q', ?_, ?_, ?_⟩
    · show f_X11_leaves_0 _ M = _
      rw [f_X11_leaves_0, c_hasGoer hx.2.1 h9 hg, zbi_s, if_neg (by decide), zg_in (by omega) (by decide), nI_clamp (by omega), if_pos h0, r0, zbv_s, cg, zbv_s, are, zbi_s]
    · show f_X12_leaves_0 _ _ = _
      have hw28 : (zwp M1 37 q).1 28 = M.1 28 := by rw [s1 28 (by omega), r1 28 (by decide) (by omega)]
      rw [f_X12_leaves_0, r_isGoerT (by rw [hw28]; exact hr.2.1) h9 hg, zbi_s, if_neg (by decide), ix20, zg_in (by omega) (by decide), nI_clamp (by omega), hw28, if_pos (by rw [← q5]; exact h0), t0, zbv_s]
      have rg' : ∀ (k : zM → Option (Int32 × zM)), zbv (f_X12_leavesOn M3 28 (nI g)) (fun M12 => zbv (f_X12_fills M12 28) k) = k (zrw M3 28 q') := by
        intro k
        cases hl : f_X12_leavesOn M3 28 (nI g) with
        | none => rw [hl] at rg; cases rg
        | some Y =>
          rw [hl, zbv_s] at rg
          rw [zbv_s, rg, zbv_s]
      rw [rg', those, zbi_s, r_bitsWho _ _ h9, zbi_s, aWho_rel (fun k hk => (e1 k hk).1)]
    · refine wDone a1 a4 a5 a6 a7 r1 r2 s1 rfl t1 t2 t3 (fun k hk => zrw_q hk) rfl t4 ⟨G, K, wMo_mono ?_ (Nat.le_succ _)⟩
      exact q_put0 (by omega) b3 e1 e3 e2
  · refine wOp_same X (-2) ?_ ?_
    · show f_X11_leaves_0 _ M = _
      rw [f_X11_leaves_0, c_hasGoer hx.2.1 h9 hg, zbi_s, if_neg (by decide), zg_in (by omega) (by decide), nI_clamp (by omega), if_neg h0]
    · show f_X12_leaves_0 _ M = _
      rw [f_X12_leaves_0, r_isGoerT hr.2.1 h9 hg, zbi_s, if_neg (by decide), ix20, zg_in (by omega) (by decide), nI_clamp (by omega), if_neg (by rw [← q5]; exact h0)]
