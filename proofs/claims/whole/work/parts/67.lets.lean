/-! lets, comes -/
theorem zCx.tu {M : zM} {c G S : Nat} (X : zCx M c G S) (g : Nat) (v : Int32) : zCx (zs M (c + 5) g v) c G S := by
  obtain ⟨h1, h2, h3, h4, h5, h6, h7, h8⟩ := X
  refine ⟨h1, ?_, h3, ?_, h5, ?_, ?_, ?_⟩
  · rw [zs_ne (by omega)]; exact h2
  · rw [zs_ne (by omega)]; exact h4
  · rw [zs_ne (by omega)]; exact h6
  · rw [zs_ne (by omega)]; exact h7
  · rw [zs_ne (by omega)]; exact h8
theorem c_fill0 {M : zM} {c G S : Nat} (X : zCx M c G S) : f_X5_fill M c = some (zwp M c (aFill G (M.1 (c + 1)) (M.1 (c + 2)) (M.1 (c + 5)) (M.1 4) (M.1 3 1) (M.1 3 0 / 2) (M.1 (c + 3), M.1 (c + 4)))) := by
  have := c_fill X (M.1 (c + 3), M.1 (c + 4))
  rw [zwp_self] at this
  exact this
theorem r_fills0 {M : zM} {t G S : Nat} (X : zRx M t G S) : f_X12_fills M t = some (zrw M t (aFill G (fun g => M.1 t (2 + g)) (fun g => M.1 t (11 + g)) (fun g => M.1 t (38 + g)) (M.1 26) (M.1 25 1) (M.1 25 0 / 2) (fun g => M.1 t (20 + g), fun g => M.1 t (29 + g)))) := by
  have := r_fills X (fun g => M.1 t (20 + g), fun g => M.1 t (29 + g))
  rw [zrw_self] at this
  exact this
theorem c_letA {M : zM} {c G S g f : Nat} (X : zCx M c G S) (hg : g < G) (h0 : M.1 (c + 3) g = 0) (hf : aFirst (M.1 (c + 2)) (M.1 (c + 3)) (M.1 (c + 5)) (M.1 (c + 2) g) G = some f) : f_X5_letAhead M c (nI g) = if f = g then some M else f_X5_fill (zs M (c + 5) g (M.1 (c + 5) f - 1)) c := by
  have h9 := X.2.2.1
  obtain ⟨f1, f2, f3⟩ := aFirst_some hf
  show f_X5_letAhead_0 c (nI g) M = _
  rw [f_X5_letAhead_0, c_hasGoer X.2.1 h9 hg, zbi_s, if_neg (by decide), zg_in (by omega) (by decide), nI_clamp (n := g) (by omega), if_pos h0, zg_in (by omega) (by decide), c_firstOn X.2.1 h9, hf, zbi_s, show e1 (some f) = nI f from rfl, if_neg (nI_m1 (by omega))]
  by_cases hfg : f = g
  · subst hfg
    rw [if_pos rfl, if_pos rfl]
  · rw [if_neg (fun q => hfg ((nI_eq (by omega) (by omega)).mp q)), if_neg hfg, zg_in (j := f) (by omega) (by decide), zg_in (j := g) (by omega) (by decide), nI_clamp (n := f) (by omega)]
    cases hh : f_X5_fill (zs M (c + 5) g (M.1 (c + 5) f - 1)) c with
    | none => rfl
    | some Y => rfl
theorem r_letA {M : zM} {t G S g f : Nat} (X : zRx M t G S) (hg : g < G) (hf : aFirst (fun g => M.1 t (11 + g)) (fun g => M.1 t (20 + g)) (fun g => M.1 t (38 + g)) (M.1 t (11 + g)) G = some f) : f_X12_letsOn M t (nI g) = some (zs M t (38 + g) (M.1 t (38 + f) - 1)) := by
  have h9 := X.2.2.1
  obtain ⟨f1, f2, f3⟩ := aFirst_some hf
  have fo := r_firstOn X (fun g => M.1 t (20 + g), fun g => M.1 t (29 + g)) (M.1 t (11 + g))
  rw [zrw_self, hf, show e9 (some f) = nI f from rfl] at fo
  show f_X12_letsOn_0 t (nI g) M = _
  rw [f_X12_letsOn_0, ix11, zg_in (j := 11 + g) (by omega) (by decide), nI_clamp (n := 11 + g) (by omega), fo, zbi_s, ix38, ix38, zg_in (j := 38 + f) (by omega) (by decide), zg_in (j := 38 + g) (by omega) (by decide), nI_clamp (n := 38 + g) (by omega), nI_clamp (n := 38 + f) (by omega)]
theorem dec1 {x : Int32} (h : -2000000000 ≤ x.toInt) : (x - 1).toInt = x.toInt - 1 := by
  have h2 := fb_rng x
  have e : (1 : Int32).toInt = 1 := rfl
  rw [fb_subI (by rw [e]; omega) (by rw [e]; omega), e]
/-- one let ahead: both rows stand alike behind it -/
theorem q_let {M1 M3 : zM} {n R S G K c t g f : Nat} (hc : 37 ≤ c) (hn : n < 1000) (X : wMo n R S G K (fun i => M1.1 (c + i)) (M3.1 t)) (hg : g < G) (h0 : M1.1 (c + 3) g = 0) (hf : aFirst (M1.1 (c + 2)) (M1.1 (c + 3)) (M1.1 (c + 5)) (M1.1 (c + 2) g) G = some f) : aFirst (fun g => M3.1 t (11 + g)) (fun g => M3.1 t (20 + g)) (fun g => M3.1 t (38 + g)) (M3.1 t (11 + g)) G = some f ∧ wMo (n + 1) R S G K (fun i => (zs M1 (c + 5) g (M1.1 (c + 5) f - 1)).1 (c + i)) ((zs M3 t (38 + g) (M3.1 t (38 + f) - 1)).1 t) := by
  obtain ⟨f1, f2, f3⟩ := aFirst_some hf
  have h9 := X.1.1
  have y1 : -(n : Int) ≤ (M1.1 (c + 5) f).toInt := (X.2.1 f f1).2.2.2.2.2.2.2.1.1
  have y2 : -(n : Int) ≤ (M3.1 t (38 + f)).toInt := (X.2.1 f f1).2.2.2.2.2.2.2.2.1
  refine ⟨?_, ?_⟩
  · have e := aFirst_rel (side := M1.1 (c + 2) g) (si := M1.1 (c + 2)) (si' := fun g => M3.1 t (11 + g)) (wh := M1.1 (c + 3)) (wh' := fun g => M3.1 t (20 + g)) (tu := M1.1 (c + 5)) (sa := fun g => M3.1 t (38 + g)) (fun k hk => (X.2.1 k hk).2.2.2.1) (fun k hk => (X.2.1 k hk).2.2.2.2.1) X.or
    have es : M1.1 (c + 2) g = M3.1 t (11 + g) := (X.2.1 g hg).2.2.2.1
    rw [← es, ← e]
    exact hf
  · refine wMo_let (f := f) (g := g) X hg h0 hf hn (dec1 (x := M1.1 (c + 5) f) (by omega)) (dec1 (x := M3.1 t (38 + f)) (by omega)) ?_ ?_ (fun i j h1 h4 hj => ?_) ?_ (fun j hj hjg => ?_) ?_ (fun j hj hjg => ?_)
    · show (zs M1 (c + 5) g _).1 c 1 = M1.1 c 1; rw [zs_ne (by omega)]
    · show (zs M1 (c + 5) g _).1 c 2 = M1.1 c 2; rw [zs_ne (by omega)]
    · show (zs M1 (c + 5) g _).1 (c + i) j = M1.1 (c + i) j; rw [zs_ne (by omega)]
    · show (zs M1 (c + 5) g _).1 (c + 5) g = _; rw [zs_row, upd_s]
    · show (zs M1 (c + 5) g _).1 (c + 5) j = M1.1 (c + 5) j; rw [zs_row, upd_n hjg]
    · rw [zs_row, upd_s]
    · rw [zs_row, upd_n hjg]
theorem p_lets {n : Nat} {M : zM} (hn : n < 900) (X : wI n M) (x : Int32) : wOp n M (fun M => f_X11_lets M x) (fun M => f_X12_lets M x) := by
  obtain ⟨R, W, H, S, a1, a2, a3, a4, a5, a6, a7⟩ := id X
  obtain ⟨G, K, b⟩ := id a2
  have hx := b.cx a1 (by omega)
  have hr := b.rx a1 (by omega)
  have h9 := hx.2.2.1
  have no : x < 0 ∨ nI G ≤ x → wOp n M (fun M => f_X11_lets M x) (fun M => f_X12_lets M x) := by
    intro h
    refine wOp_same X (-1) ?_ ?_
    · show f_X11_lets_0 x M = _
      rw [f_X11_lets_0, c_noGoer hx.2.1 h, zbi_s, if_pos rfl]
    · show f_X12_lets_0 x M = _
      rw [f_X12_lets_0, r_isGoerF hr.2.1 h9 h, zbi_s, if_pos rfl]
  rcases pk_ix x (n := G) (by omega) with h | h | ⟨g, hg, rfl⟩
  · exact no (Or.inl h)
  · exact no (Or.inr h)
  have q5 : M.1 (37 + 3) g = M.1 28 (20 + g) := (b.2.1 g hg).2.2.2.2.1
  by_cases h0 : M.1 (37 + 3) g = 0
  · have ea := aAhead_rel (si := M.1 (37 + 2)) (wh := M.1 (37 + 3)) (tu := M.1 (37 + 5)) (si' := fun g => M.1 28 (11 + g)) (wh' := fun g => M.1 28 (20 + g)) (sa := fun g => M.1 28 (38 + g)) (fun g hg => (b.ev a1 g hg).1) (fun g hg => (b.si g hg).1) b.or hg h0
    obtain ⟨f, hf⟩ := aFirst_ex (si := M.1 (37 + 2)) (wh := M.1 (37 + 3)) (tu := M.1 (37 + 5)) hg h0 rfl
    have hfa : f = g ↔ aAhead (M.1 (37 + 2)) (M.1 (37 + 3)) (M.1 (37 + 5)) g G = 0 := aFirst_ahead b hg h0 hf
    by_cases hz : aAhead (M.1 (37 + 2)) (M.1 (37 + 3)) (M.1 (37 + 5)) g G = 0
    · refine wOp_same X (-2) ?_ ?_
      · show f_X11_lets_0 _ M = _
        rw [f_X11_lets_0, c_hasGoer hx.2.1 h9 hg, zbi_s, if_neg (by decide), zg_in (by omega) (by decide), nI_clamp (by omega), if_pos h0, c_ahead hx.2.1 h9 hg, zbi_s, if_pos hz]
      · show f_X12_lets_0 _ M = _
        rw [f_X12_lets_0, r_isGoerT hr.2.1 h9 hg, zbi_s, if_neg (by decide), r0_aheadOf hr (by omega), zbi_s, ix20, zg_in (by omega) (by decide), nI_clamp (by omega), if_pos (by rw [← q5]; exact h0), ← ea, if_pos hz]
    · have hfg : ¬ f = g := fun q => hz (hfa.mp q)
      obtain ⟨M1, r0, r1, r2, r3⟩ := wNote a3 a2
      have P1 : wP M1 R W H S := wP_tr a1 (r1 _ (by decide) (by omega)) (r1 _ (by decide) (by omega)) (r1 _ (by decide) (by omega)) (r1 _ (by decide) (by omega)) (r1 _ (by decide) (by omega)) (fun j _ => by rw [r1 _ (by decide) (by omega)])
      have b1 : wMo n R S G K (fun i => M1.1 (37 + i)) (M.1 28) := wMo_tr b (by show M1.1 37 1 = M.1 37 1; rw [r1 _ (by decide) (by omega)]) (by show M1.1 37 2 = M.1 37 2; rw [r1 _ (by decide) (by omega)]) (fun i j h1 h5 hj => by show M1.1 (37 + i) j = M.1 (37 + i) j; rw [r1 _ (by omega) (by omega)]) (fun _ _ => rfl)
      have x1 := b1.cx P1 (by omega)
      have hf1 : aFirst (M1.1 (37 + 2)) (M1.1 (37 + 3)) (M1.1 (37 + 5)) (M1.1 (37 + 2) g) G = some f := by
        rw [r1 (37 + 2) (by decide) (by omega), r1 (37 + 3) (by decide) (by omega), r1 (37 + 5) (by decide) (by omega)]
        exact hf
      have h01 : M1.1 (37 + 3) g = 0 := by rw [r1 _ (by decide) (by omega)]; exact h0
      have cl := c_letA x1 hg h01 hf1
      rw [if_neg hfg] at cl
      have x1' := x1.tu g (M1.1 (37 + 5) f - 1)
      rw [c_fill0 x1'] at cl
      have m1 : ∀ k, k ≠ 37 + 5 → (zs M1 (37 + 5) g (M1.1 (37 + 5) f - 1)).1 k = M1.1 k := fun k hk => zs_ne hk
      have hql := fun (M3 : zM) (X3 : wMo n R S G K (fun i => M1.1 (37 + i)) (M3.1 28)) => q_let (t := 28) (by omega) (by omega) X3 hg h01 hf1
      have m2 : (zs M1 (37 + 5) g (M1.1 (37 + 5) f - 1)).2 = M1.2 := rfl
      generalize zs M1 (37 + 5) g (M1.1 (37 + 5) f - 1) = Mp at cl x1' m1 hql m2
      generalize hs : aFill G (Mp.1 (37 + 1)) (Mp.1 (37 + 2)) (Mp.1 (37 + 5)) (Mp.1 4) (Mp.1 3 1) (Mp.1 3 0 / 2) (Mp.1 (37 + 3), Mp.1 (37 + 4)) = q at cl
      have s1 : ∀ k, ¬ (37 ≤ k ∧ k < 43) → (zwp Mp 37 q).1 k = M1.1 k := fun k hk => by rw [zwp_q (by omega) (by omega), m1 k (by omega)]
      obtain ⟨M3, t0, t1, t2, t3, t4⟩ := r3 (zwp Mp 37 q) (by rw [s1 25 (by omega), r1 25 (by decide) (by omega)]) (by rw [s1 28 (by omega), r1 28 (by decide) (by omega)]) (by rw [s1 30 (by omega), r1 30 (by decide) (by omega)])
      have h28 : M3.1 28 = M.1 28 := by rw [t1 28 (by decide) (by decide), s1 28 (by omega), r1 28 (by decide) (by omega)]
      have P3 : wP M3 R W H S := wP_tr P1 (by rw [t1 _ (by decide) (by decide), s1 _ (by omega)]) (by rw [t1 _ (by decide) (by decide), s1 _ (by omega)]) (by rw [t1 _ (by decide) (by decide), s1 _ (by omega)]) (by rw [t1 _ (by decide) (by decide), s1 _ (by omega)]) (by rw [t1 _ (by decide) (by decide), s1 _ (by omega)]) (fun j hj => by rw [t2 j (by omega), s1 _ (by omega)])
      have b3 : wMo n R S G K (fun i => M1.1 (37 + i)) (M3.1 28) := by rw [h28]; exact b1
      obtain ⟨hfr, bp⟩ := hql M3 b3
      have rl := r_letA (b3.rx P3 (by omega)) hg hfr
      have u1 : ∀ k, k ≠ 28 → (zs M3 28 (38 + g) (M3.1 28 (38 + f) - 1)).1 k = M3.1 k := fun k hk => zs_ne hk
      have u2 : (zs M3 28 (38 + g) (M3.1 28 (38 + f) - 1)).2 = M3.2 := rfl
      generalize zs M3 28 (38 + g) (M3.1 28 (38 + f) - 1) = Mr at rl bp u1 u2
      have Pp : wP Mp R W H S := wP_tr P1 (m1 _ (by decide)) (m1 _ (by decide)) (m1 _ (by decide)) (m1 _ (by decide)) (m1 _ (by decide)) (fun j _ => by rw [m1 _ (by decide)])
      have Pr : wP Mr R W H S := wP_tr P3 (u1 _ (by decide)) (u1 _ (by decide)) (u1 _ (by decide)) (u1 _ (by decide)) (u1 _ (by decide)) (fun j _ => by rw [u1 _ (by decide)])
      have mr : ∀ k, k < 28 → k ≠ 25 → Mr.1 k = Mp.1 k := fun k hk hk2 => by rw [u1 k (by omega), t1 k (by omega) (by omega), s1 k (by omega), m1 k (by omega)]
      have mr25 : ∀ j, j ≠ 9 → Mr.1 25 j = Mp.1 25 j := fun j hj => by rw [u1 25 (by decide), t2 j hj, s1 25 (by omega), m1 25 (by decide)]
      obtain ⟨e1, e2, e3⟩ := q_fillG Pp (mr 26 (by decide) (by decide)) (mr 27 (by decide) (by decide)) (fun j hj => mr25 j (by omega)) bp bp.si (fun k hk z => z) bp.bd
      have rf := r_fills0 (bp.rx Pr (by omega))
      generalize hs' : aFill G (fun g => Mr.1 28 (2 + g)) (fun g => Mr.1 28 (11 + g)) (fun g => Mr.1 28 (38 + g)) (Mr.1 26) (Mr.1 25 1) (Mr.1 25 0 / 2) (fun g => Mr.1 28 (20 + g), fun g => Mr.1 28 (29 + g)) = q' at rf e1
      have e1 : aSi G q q' := by rw [← hs]; exact e1
      have e2 : aBd G R q := by rw [← hs]; exact e2
      have e3 : ∀ k, k < G → q.1 k = 0 → Mp.1 (37 + 3) k = 0 := by rw [← hs]; exact e3
      refine ⟨aAhead (M.1 (37 + 2)) (M.1 (37 + 3)) (M.1 (37 + 5)) g G, zwp Mp 37 q, zrw Mr 28 q', ?_, ?_, ?_⟩
      · show f_X11_lets_0 _ M = _
        rw [f_X11_lets_0, c_hasGoer hx.2.1 h9 hg, zbi_s, if_neg (by decide), zg_in (by omega) (by decide), nI_clamp (by omega), if_pos h0, c_ahead hx.2.1 h9 hg, zbi_s, if_neg hz, r0, zbv_s, cl, zbv_s]
      · show f_X12_lets_0 _ _ = _
        have hw28 : (zwp Mp 37 q).1 28 = M.1 28 := by rw [s1 28 (by omega), r1 28 (by decide) (by omega)]
        have hr' : zRx (zwp Mp 37 q) 28 G S := by
          unfold zRx
          rw [hw28]
          exact hr
        rw [f_X12_lets_0, r_isGoerT hr'.2.1 h9 hg, zbi_s, if_neg (by decide), r0_aheadOf hr' (by omega), zbi_s, hw28, ix20, zg_in (by omega) (by decide), nI_clamp (by omega), if_pos (by rw [← q5]; exact h0), ← ea, if_neg hz, t0, zbv_s, rl, zbv_s, rf, zbv_s]
      · refine wDone a1 a4 a5 a6 a7 r1 r2 s1 m2 t1 t2 t3 (fun k hk => by rw [zrw_q hk, u1 k hk]) u2 t4 ⟨G, K, ?_⟩
        exact q_put0 (by omega) bp e1 e3 e2
  · refine wOp_same X (-2) ?_ ?_
    · show f_X11_lets_0 _ M = _
      rw [f_X11_lets_0, c_hasGoer hx.2.1 h9 hg, zbi_s, if_neg (by decide), zg_in (by omega) (by decide), nI_clamp (by omega), if_neg h0]
    · show f_X12_lets_0 _ M = _
      rw [f_X12_lets_0, r_isGoerT hr.2.1 h9 hg, zbi_s, if_neg (by decide), r0_aheadOf hr (by omega), zbi_s, ix20, zg_in (by omega) (by decide), nI_clamp (by omega), if_neg (by rw [← q5]; exact h0)]
/-- comes -/
def aLast (sa : Nat → Int32) (G : Nat) : Int32 := zfo (fun k a => if sa k ≤ a then a else sa k) G 0
theorem aLast_succ (sa : Nat → Int32) (n : Nat) : aLast sa (n + 1) = if sa n ≤ aLast sa n then aLast sa n else sa n := rfl
theorem aLast_bd {sa : Nat → Int32} {m : Nat} : ∀ G, (∀ k, k < G → (sa k).toInt ≤ m) → 0 ≤ (aLast sa G).toInt ∧ (aLast sa G).toInt ≤ m ∧ ∀ k, k < G → (sa k).toInt ≤ (aLast sa G).toInt := by
  intro G
  induction G with
  | zero =>
    intro _
    have e : (aLast sa 0).toInt = 0 := rfl
    exact ⟨by omega, by omega, fun k hk => absurd hk (Nat.not_lt_zero _)⟩
  | succ n ih =>
    intro h
    obtain ⟨i1, i2, i3⟩ := ih (fun k hk => h k (by omega))
    have hn := h n (by omega)
    rw [aLast_succ]
    by_cases hc : sa n ≤ aLast sa n
    · rw [if_pos hc]
      rw [i_le] at hc
      refine ⟨i1, i2, fun k hk => ?_⟩
      by_cases hkn : k = n
      · subst hkn; exact hc
      · exact i3 k (by omega)
    · rw [if_neg hc]
      rw [i_le] at hc
      refine ⟨by omega, hn, fun k hk => ?_⟩
      by_cases hkn : k = n
      · subst hkn; omega
      · have := i3 k (by omega)
        omega
theorem r_comeL {M : zM} {G : Nat} (h9 : G < 9) (x y : Int32) : f_X12_comes_56 x y zFU M (nI G) 0 0 = f_X12_comes_129 x y (zs (zs (zs M 28 (2 + G) x) 28 (11 + G) y) 28 (20 + G) 0) (nI G) (aLast (fun k => M.1 28 (38 + k)) G) := by
  refine zloop0 (fun n a i => f_X12_comes_56 x y n M (nI G) a i) (fun k a => if M.1 28 (38 + k) ≤ a then a else M.1 28 (38 + k)) (fun a => f_X12_comes_129 x y (zs (zs (zs M 28 (2 + G) x) 28 (11 + G) y) 28 (20 + G) 0) (nI G) a) G (fun n j a hj => ?_) (fun n a => ?_) (zFU_gt (by omega))
  · show f_X12_comes_56 x y (n + 1) M (nI G) a (nI j) = f_X12_comes_56 x y n M (nI G) _ (nI (j + 1))
    rw [f_X12_comes_56, if_neg (nI_ge hj (by omega)), ix38, zg_in (by omega) (by decide), nI_clamp (by omega)]
    by_cases h : M.1 28 (38 + j) ≤ a
    · rw [if_pos h, if_pos h, f_X12_comes_92, nI_1]
    · rw [if_neg h, if_neg h, zg_in (by omega) (by decide), f_X12_comes_92, nI_1]
  · show f_X12_comes_56 x y (n + 1) M (nI G) a (nI G) = _
    rw [f_X12_comes_56, if_pos (Int32.le_refl _), ix2, ix11, ix20, zg_in (j := 2 + G) (by omega) (by decide), zg_in (j := 11 + G) (by omega) (by decide), zg_in (j := 20 + G) (by omega) (by decide), nI_clamp (n := 2 + G) (by omega), nI_clamp (n := 11 + G) (by omega), nI_clamp (n := 20 + G) (by omega)]
theorem p_comes {n : Nat} {M : zM} (hn : n < 900) (X : wI n M) (x y : Int32) : wOp n M (fun M => f_X11_comes M x y) (fun M => f_X12_comes M x y) := by
  obtain ⟨R, W, H, S, a1, a2, a3, a4, a5, a6, a7⟩ := id X
  obtain ⟨G, K, b⟩ := id a2
  have hx := b.cx a1 (by omega)
  have hr := b.rx a1 (by omega)
  have h9 := hx.2.2.1
  have hS6 := a1.1.2.2.2.2
  have hS := a1.2.1.2.2.2
  have hS' := a1.2.2.1.2.2.2
  have no : x < 0 ∨ nI S ≤ x → wOp n M (fun M => f_X11_comes M x y) (fun M => f_X12_comes M x y) := by
    intro h
    refine wOp_same X (-1) ?_ ?_
    · show f_X11_comes_0 x y M = _
      rw [f_X11_comes_0, c_hasSF hS h, zbi_s, if_pos rfl]
    · show f_X12_comes_0 x y M = _
      rw [f_X12_comes_0, hS', r_ixF (by omega) h, zbi_s, if_pos rfl]
  rcases pk_ix x (n := S) (by omega) with h | h | ⟨s, hs, rfl⟩
  · exact no (Or.inl h)
  · exact no (Or.inr h)
  have no2 : y < 0 ∨ nI 2 ≤ y → wOp n M (fun M => f_X11_comes M (nI s) y) (fun M => f_X12_comes M (nI s) y) := by
    intro h
    refine wOp_same X (-1) ?_ ?_
    · show f_X11_comes_0 _ y M = _
      rw [f_X11_comes_0, c_hasST hS hS6 hs, zbi_s, if_neg (by decide)]
      by_cases h1 : y < 0
      · rw [if_pos h1]
      · rw [if_neg h1, if_neg (show ¬ y ≤ (1 : Int32) from big_nle (n := 2) (m := 1) (h.resolve_left h1) (by decide) (by decide))]
    · show f_X12_comes_0 _ y M = _
      rw [f_X12_comes_0, hS', r_ixT (by omega) hs, zbi_s, if_neg (by decide), r_isBitF h, zbi_s, if_pos rfl]
  rcases pk_ix y (n := 2) (by decide) with h | h | ⟨d, hd, rfl⟩
  · exact no2 (Or.inl h)
  · exact no2 (Or.inr h)
  have hcl : f_X11_comes M (nI s) (nI d) = (if (M.1 37 2) < (9 : Int32) then (zbv (f_X6_remember M 37) (fun M10 => zbi (f_X5_letCome M10 37 (nI s) (nI d)) (fun r12 M13 => some (r12, M13)))) else (some ((-3 : Int32), M))) := by
    show f_X11_comes_0 _ _ M = _
    rw [f_X11_comes_0, c_hasST hS hS6 hs, zbi_s, if_neg (by decide), if_neg (nI_pos (by omega)), if_pos (show nI d ≤ (1 : Int32) from nI_le (b := 1) (by omega) (by decide))]
  have hrl : ∀ M' : zM, M'.1 25 3 = nI S → f_X12_comes M' (nI s) (nI d) = (if (M'.1 28 0) = (9 : Int32) then (some ((-3 : Int32), M')) else (zbv (f_X12_notes M') (fun M13 => f_X12_comes_56 (nI s) (nI d) zFU M13 (M13.1 28 0) (0 : Int32) (0 : Int32)))) := by
    intro M' e
    show f_X12_comes_0 _ _ M' = _
    rw [f_X12_comes_0, e, r_ixT (by omega) hs, zbi_s, if_neg (by decide), r_isBitT hd, zbi_s, if_neg (by decide), zg_t (by decide), sb_cl0]
    rfl
  by_cases hG : G = 9
  · subst hG
    refine wOp_same X (-3) ?_ ?_
    · show f_X11_comes M (nI s) (nI d) = _
      rw [hcl, hx.2.1, if_neg (show ¬ nI 9 < (9 : Int32) from nI_nlt (b := 9) (by decide) (by decide))]
    · show f_X12_comes M (nI s) (nI d) = _
      rw [hrl M hS', hr.2.1, if_pos (by rfl)]
  have hG : G < 9 := by omega
  obtain ⟨M1, r0, r1, r2, r3⟩ := wNote a3 a2
  have P1 : wP M1 R W H S := wP_tr a1 (r1 _ (by decide) (by omega)) (r1 _ (by decide) (by omega)) (r1 _ (by decide) (by omega)) (r1 _ (by decide) (by omega)) (r1 _ (by decide) (by omega)) (fun j _ => by rw [r1 _ (by decide) (by omega)])
  have b1 : wMo n R S G K (fun i => M1.1 (37 + i)) (M.1 28) := wMo_tr b (by show M1.1 37 1 = M.1 37 1; rw [r1 _ (by decide) (by omega)]) (by show M1.1 37 2 = M.1 37 2; rw [r1 _ (by decide) (by omega)]) (fun i j h1 h5 hj => by show M1.1 (37 + i) j = M.1 (37 + i) j; rw [r1 _ (by omega) (by omega)]) (fun _ _ => rfl)
  have x1 := b1.cx P1 (by omega)
  have lc : f_X5_letCome M1 37 (nI s) (nI d) = zbv (f_X5_fill (zs (zs (zs (zs (zs (zs M1 37 2 (nI (G + 1))) (37 + 1) G (nI s)) (37 + 2) G (nI d)) (37 + 3) G 0) (37 + 4) G 0) (37 + 5) G (nI G)) 37) (fun M3 => some (nI G, M3)) := by
    show f_X5_letCome_0 37 _ _ M1 = _
    rw [f_X5_letCome_0, x1.2.1, if_pos (show nI G < (9 : Int32) from nI_lt (b := 9) hG (by decide)), zg_in (by omega) (by decide), zg_in (by omega) (by decide), nI_clamp (by omega), nI_1, f_X5_letCome_40, zg_in (by omega) (by decide), zg_in (by omega) (by decide), zg_in (by omega) (by decide), nI_clamp (by omega), f_X5_letCome_61]
  have m1 : ∀ k, ¬ (37 ≤ k ∧ k < 43) → (zs (zs (zs (zs (zs (zs M1 37 2 (nI (G + 1))) (37 + 1) G (nI s)) (37 + 2) G (nI d)) (37 + 3) G 0) (37 + 4) G 0) (37 + 5) G (nI G)).1 k = M1.1 k := fun k hk => by rw [zs_ne (by omega), zs_ne (by omega), zs_ne (by omega), zs_ne (by omega), zs_ne (by omega), zs_ne (by omega)]
  have m2 : (zs (zs (zs (zs (zs (zs M1 37 2 (nI (G + 1))) (37 + 1) G (nI s)) (37 + 2) G (nI d)) (37 + 3) G 0) (37 + 4) G 0) (37 + 5) G (nI G)).2 = M1.2 := rfl
  have w0 : (zs (zs (zs (zs (zs (zs M1 37 2 (nI (G + 1))) (37 + 1) G (nI s)) (37 + 2) G (nI d)) (37 + 3) G 0) (37 + 4) G 0) (37 + 5) G (nI G)).1 37 = upd (M1.1 37) 2 (nI (G + 1)) := by rw [zs_ne (by decide), zs_ne (by decide), zs_ne (by decide), zs_ne (by decide), zs_ne (by decide), zs_row]
  have w1 : (zs (zs (zs (zs (zs (zs M1 37 2 (nI (G + 1))) (37 + 1) G (nI s)) (37 + 2) G (nI d)) (37 + 3) G 0) (37 + 4) G 0) (37 + 5) G (nI G)).1 (37 + 1) = upd (M1.1 (37 + 1)) G (nI s) := by rw [zs_ne (by decide), zs_ne (by decide), zs_ne (by decide), zs_ne (by decide), zs_row, zs_ne (by decide)]
  have w2 : (zs (zs (zs (zs (zs (zs M1 37 2 (nI (G + 1))) (37 + 1) G (nI s)) (37 + 2) G (nI d)) (37 + 3) G 0) (37 + 4) G 0) (37 + 5) G (nI G)).1 (37 + 2) = upd (M1.1 (37 + 2)) G (nI d) := by rw [zs_ne (by decide), zs_ne (by decide), zs_ne (by decide), zs_row, zs_ne (by decide), zs_ne (by decide)]
  have w3 : (zs (zs (zs (zs (zs (zs M1 37 2 (nI (G + 1))) (37 + 1) G (nI s)) (37 + 2) G (nI d)) (37 + 3) G 0) (37 + 4) G 0) (37 + 5) G (nI G)).1 (37 + 3) = upd (M1.1 (37 + 3)) G 0 := by rw [zs_ne (by decide), zs_ne (by decide), zs_row, zs_ne (by decide), zs_ne (by decide), zs_ne (by decide)]
  have w4 : (zs (zs (zs (zs (zs (zs M1 37 2 (nI (G + 1))) (37 + 1) G (nI s)) (37 + 2) G (nI d)) (37 + 3) G 0) (37 + 4) G 0) (37 + 5) G (nI G)).1 (37 + 4) = upd (M1.1 (37 + 4)) G 0 := by rw [zs_ne (by decide), zs_row, zs_ne (by decide), zs_ne (by decide), zs_ne (by decide), zs_ne (by decide)]
  have w5 : (zs (zs (zs (zs (zs (zs M1 37 2 (nI (G + 1))) (37 + 1) G (nI s)) (37 + 2) G (nI d)) (37 + 3) G 0) (37 + 4) G 0) (37 + 5) G (nI G)).1 (37 + 5) = upd (M1.1 (37 + 5)) G (nI G) := by rw [zs_row, zs_ne (by decide), zs_ne (by decide), zs_ne (by decide), zs_ne (by decide), zs_ne (by decide)]
  generalize zs (zs (zs (zs (zs (zs M1 37 2 (nI (G + 1))) (37 + 1) G (nI s)) (37 + 2) G (nI d)) (37 + 3) G 0) (37 + 4) G 0) (37 + 5) G (nI G) = Mp at lc m1 m2 w0 w1 w2 w3 w4 w5
  have Pp : wP Mp R W H S := wP_tr P1 (m1 _ (by decide)) (m1 _ (by decide)) (m1 _ (by decide)) (m1 _ (by decide)) (m1 _ (by decide)) (fun j _ => by rw [m1 _ (by decide)])
  have lv := aLast_bd (sa := fun k => M.1 28 (38 + k)) (m := n) G (fun k hk => (b.2.1 k hk).2.2.2.2.2.2.2.2.2)
  have tv : (aLast (fun k => M.1 28 (38 + k)) G + 1).toInt = (aLast (fun k => M.1 28 (38 + k)) G).toInt + 1 := by
    have e : (1 : Int32).toInt = 1 := rfl
    rw [fb_addI (by rw [e]; omega) (by rw [e]; omega), e]
  have bp : ∀ r' : Nat → Int32, r' 0 = nI (G + 1) → (∀ j, j < 47 → j ≠ 0 → j ≠ 2 + G → j ≠ 11 + G → j ≠ 20 + G → j ≠ 29 + G → j ≠ 38 + G → r' j = M.1 28 j) → (r' (2 + G) = nI s ∧ r' (11 + G) = nI d ∧ r' (20 + G) = 0 ∧ r' (29 + G) = 0 ∧ r' (38 + G) = aLast (fun k => M.1 28 (38 + k)) G + 1) → wMo (n + 1) R S (G + 1) K (fun i => Mp.1 (37 + i)) r' := by
    intro r' e0 e1 e2
    refine wMo_come b1 hG hs (y := nI d) (v := aLast (fun k => M.1 28 (38 + k)) G + 1) ?_ (by omega) (fun g hg => ?_) (by omega) (by omega) ?_ ?_ (fun g hg => ⟨?_, ?_, ?_, ?_, ?_⟩) ⟨?_, ?_, ?_, ?_, ?_⟩ e0 ?_ (fun g hg => ⟨?_, ?_, ?_, ?_, ?_⟩) e2
    · obtain rfl | rfl : d = 0 ∨ d = 1 := by omega
      · exact Or.inl rfl
      · exact Or.inr rfl
    · have := lv.2.2 g hg
      have this : (M.1 28 (38 + g)).toInt ≤ (aLast (fun k => M.1 28 (38 + k)) G).toInt := this
      omega
    · show Mp.1 37 1 = M1.1 37 1; rw [w0, upd_n (by decide)]
    · show Mp.1 37 2 = _; rw [w0, upd_s]
    · show Mp.1 (37 + 1) g = M1.1 (37 + 1) g; rw [w1, upd_n (by omega)]
    · show Mp.1 (37 + 2) g = M1.1 (37 + 2) g; rw [w2, upd_n (by omega)]
    · show Mp.1 (37 + 3) g = M1.1 (37 + 3) g; rw [w3, upd_n (by omega)]
    · show Mp.1 (37 + 4) g = M1.1 (37 + 4) g; rw [w4, upd_n (by omega)]
    · show Mp.1 (37 + 5) g = M1.1 (37 + 5) g; rw [w5, upd_n (by omega)]
    · show Mp.1 (37 + 1) G = _; rw [w1, upd_s]
    · show Mp.1 (37 + 2) G = _; rw [w2, upd_s]
    · show Mp.1 (37 + 3) G = _; rw [w3, upd_s]
    · show Mp.1 (37 + 4) G = _; rw [w4, upd_s]
    · show Mp.1 (37 + 5) G = _; rw [w5, upd_s]
    · exact e1 1 (by omega) (by omega) (by omega) (by omega) (by omega) (by omega) (by omega)
    · exact e1 _ (by omega) (by omega) (by omega) (by omega) (by omega) (by omega) (by omega)
    · exact e1 _ (by omega) (by omega) (by omega) (by omega) (by omega) (by omega) (by omega)
    · exact e1 _ (by omega) (by omega) (by omega) (by omega) (by omega) (by omega) (by omega)
    · exact e1 _ (by omega) (by omega) (by omega) (by omega) (by omega) (by omega) (by omega)
    · exact e1 _ (by omega) (by omega) (by omega) (by omega) (by omega) (by omega) (by omega)
  have xp : zCx Mp 37 (G + 1) S := by
    have := bp (fun j => if j = 0 then nI (G + 1) else if j = 2 + G then nI s else if j = 11 + G then nI d else if j = 20 + G then 0 else if j = 29 + G then 0 else if j = 38 + G then aLast (fun k => M.1 28 (38 + k)) G + 1 else M.1 28 j) (if_pos rfl) (fun j _ h0 h1 h2 h3 h4 h5 => by rw [if_neg h0, if_neg h1, if_neg h2, if_neg h3, if_neg h4, if_neg h5]) ⟨by rw [if_neg (by omega), if_pos rfl], by rw [if_neg (by omega), if_neg (by omega), if_pos rfl], by rw [if_neg (by omega), if_neg (by omega), if_neg (by omega), if_pos rfl], by rw [if_neg (by omega), if_neg (by omega), if_neg (by omega), if_neg (by omega), if_pos rfl], by rw [if_neg (by omega), if_neg (by omega), if_neg (by omega), if_neg (by omega), if_neg (by omega), if_pos rfl]⟩
    exact this.cx Pp (by omega)
  rw [c_fill0 xp] at lc
  generalize hq : aFill (G + 1) (Mp.1 (37 + 1)) (Mp.1 (37 + 2)) (Mp.1 (37 + 5)) (Mp.1 4) (Mp.1 3 1) (Mp.1 3 0 / 2) (Mp.1 (37 + 3), Mp.1 (37 + 4)) = q at lc
  have s1 : ∀ k, ¬ (37 ≤ k ∧ k < 43) → (zwp Mp 37 q).1 k = M1.1 k := fun k hk => by rw [zwp_q (by omega) (by omega), m1 k (by omega)]
  obtain ⟨M3, t0, t1, t2, t3, t4⟩ := r3 (zwp Mp 37 q) (by rw [s1 25 (by omega), r1 25 (by decide) (by omega)]) (by rw [s1 28 (by omega), r1 28 (by decide) (by omega)]) (by rw [s1 30 (by omega), r1 30 (by decide) (by omega)])
  have h28 : M3.1 28 = M.1 28 := by rw [t1 28 (by decide) (by decide), s1 28 (by omega), r1 28 (by decide) (by omega)]
  have P3 : wP M3 R W H S := wP_tr P1 (by rw [t1 _ (by decide) (by decide), s1 _ (by omega)]) (by rw [t1 _ (by decide) (by decide), s1 _ (by omega)]) (by rw [t1 _ (by decide) (by decide), s1 _ (by omega)]) (by rw [t1 _ (by decide) (by decide), s1 _ (by omega)]) (by rw [t1 _ (by decide) (by decide), s1 _ (by omega)]) (fun j hj => by rw [t2 j (by omega), s1 _ (by omega)])
  have rc : f_X12_comes_129 (nI s) (nI d) (zs (zs (zs M3 28 (2 + G) (nI s)) 28 (11 + G) (nI d)) 28 (20 + G) 0) (nI G) (aLast (fun k => M3.1 28 (38 + k)) G) = zbv (f_X12_fills (zs (zs (zs (zs (zs (zs M3 28 (2 + G) (nI s)) 28 (11 + G) (nI d)) 28 (20 + G) 0) 28 (29 + G) 0) 28 (38 + G) (aLast (fun k => M3.1 28 (38 + k)) G + 1)) 28 0 (nI (G + 1))) 28) (fun M5 => some (nI G, M5)) := by
    rw [f_X12_comes_129, ix29, ix38, zg_in (j := 29 + G) (by omega) (by decide), zg_in (j := 38 + G) (by omega) (by decide), nI_clamp (n := 29 + G) (by omega), nI_clamp (n := 38 + G) (by omega), f_X12_comes_152, zg_t (by decide), zg_t (by decide), sb_cl0]
    have e0 : (zs (zs (zs (zs (zs M3 28 (2 + G) (nI s)) 28 (11 + G) (nI d)) 28 (20 + G) 0) 28 (29 + G) 0) 28 (38 + G) (aLast (fun k => M3.1 28 (38 + k)) G + 1)).1 28 0 + 1 = nI (G + 1) := by
      rw [zs_row, upd_n (by omega), zs_row, upd_n (by omega), zs_row, upd_n (by omega), zs_row, upd_n (by omega), zs_row, upd_n (by omega), h28, hr.2.1, nI_1]
    rw [e0]
  have u1 : ∀ k, k ≠ 28 → (zs (zs (zs (zs (zs (zs M3 28 (2 + G) (nI s)) 28 (11 + G) (nI d)) 28 (20 + G) 0) 28 (29 + G) 0) 28 (38 + G) (aLast (fun k => M3.1 28 (38 + k)) G + 1)) 28 0 (nI (G + 1))).1 k = M3.1 k := fun k hk => by rw [zs_ne hk, zs_ne hk, zs_ne hk, zs_ne hk, zs_ne hk, zs_ne hk]
  have u2 : (zs (zs (zs (zs (zs (zs M3 28 (2 + G) (nI s)) 28 (11 + G) (nI d)) 28 (20 + G) 0) 28 (29 + G) 0) 28 (38 + G) (aLast (fun k => M3.1 28 (38 + k)) G + 1)) 28 0 (nI (G + 1))).2 = M3.2 := rfl
  have u3 : (zs (zs (zs (zs (zs (zs M3 28 (2 + G) (nI s)) 28 (11 + G) (nI d)) 28 (20 + G) 0) 28 (29 + G) 0) 28 (38 + G) (aLast (fun k => M3.1 28 (38 + k)) G + 1)) 28 0 (nI (G + 1))).1 28 = upd (upd (upd (upd (upd (upd (M.1 28) (2 + G) (nI s)) (11 + G) (nI d)) (20 + G) 0) (29 + G) 0) (38 + G) (aLast (fun k => M.1 28 (38 + k)) G + 1)) 0 (nI (G + 1)) := by rw [zs_row, zs_row, zs_row, zs_row, zs_row, zs_row, h28]
  generalize zs (zs (zs (zs (zs (zs M3 28 (2 + G) (nI s)) 28 (11 + G) (nI d)) 28 (20 + G) 0) 28 (29 + G) 0) 28 (38 + G) (aLast (fun k => M3.1 28 (38 + k)) G + 1)) 28 0 (nI (G + 1)) = Mr at rc u1 u2 u3
  have br : wMo (n + 1) R S (G + 1) K (fun i => Mp.1 (37 + i)) (Mr.1 28) := by
    rw [u3]
    refine bp _ (by rw [upd_s]) (fun j _ h0 h1 h2 h3 h4 h5 => by rw [upd_n h0, upd_n h5, upd_n h4, upd_n h3, upd_n h2, upd_n h1]) ⟨?_, ?_, ?_, ?_, ?_⟩
    · rw [upd_n (by omega), upd_n (by omega), upd_n (by omega), upd_n (by omega), upd_n (by omega), upd_s]
    · rw [upd_n (by omega), upd_n (by omega), upd_n (by omega), upd_n (by omega), upd_s]
    · rw [upd_n (by omega), upd_n (by omega), upd_n (by omega), upd_s]
    · rw [upd_n (by omega), upd_n (by omega), upd_s]
    · rw [upd_n (by omega), upd_s]
  have Pr : wP Mr R W H S := wP_tr P3 (u1 _ (by decide)) (u1 _ (by decide)) (u1 _ (by decide)) (u1 _ (by decide)) (u1 _ (by decide)) (fun j _ => by rw [u1 _ (by decide)])
  have mr : ∀ k, k < 28 → k ≠ 25 → Mr.1 k = Mp.1 k := fun k hk hk2 => by rw [u1 k (by omega), t1 k (by omega) (by omega), s1 k (by omega), m1 k (by omega)]
  have mr25 : ∀ j, j ≠ 9 → Mr.1 25 j = Mp.1 25 j := fun j hj => by rw [u1 25 (by decide), t2 j hj, s1 25 (by omega), m1 25 (by omega)]
  obtain ⟨e1, e2, e3⟩ := q_fillG Pp (mr 26 (by decide) (by decide)) (mr 27 (by decide) (by decide)) (fun j hj => mr25 j (by omega)) br br.si (fun k hk z => z) br.bd
  have rf := r_fills0 (br.rx Pr (by omega))
  generalize hq' : aFill (G + 1) (fun g => Mr.1 28 (2 + g)) (fun g => Mr.1 28 (11 + g)) (fun g => Mr.1 28 (38 + g)) (Mr.1 26) (Mr.1 25 1) (Mr.1 25 0 / 2) (fun g => Mr.1 28 (20 + g), fun g => Mr.1 28 (29 + g)) = q' at rf e1
  have e1 : aSi (G + 1) q q' := by rw [← hq]; exact e1
  have e2 : aBd (G + 1) R q := by rw [← hq]; exact e2
  have e3 : ∀ k, k < G + 1 → q.1 k = 0 → Mp.1 (37 + 3) k = 0 := by rw [← hq]; exact e3
  refine ⟨nI G, zwp Mp 37 q, zrw Mr 28 q', ?_, ?_, ?_⟩
  · show f_X11_comes M (nI s) (nI d) = _
    rw [hcl, hx.2.1, if_pos (show nI G < (9 : Int32) from nI_lt (b := 9) hG (by decide)), r0, zbv_s, lc, zbv_s, zbi_s]
  · show f_X12_comes _ (nI s) (nI d) = _
    rw [hrl _ (by rw [s1 25 (by omega), r1 25 (by decide) (by omega)]; exact hS'), s1 28 (by omega), r1 28 (by decide) (by omega), hr.2.1, if_neg (show ¬ nI G = (9 : Int32) from fun z => by have := (nI_eq (b := 9) (by omega) (by decide)).mp z; omega), t0, zbv_s, h28, hr.2.1, r_comeL hG, rc, rf, zbv_s]
  · refine wDone a1 a4 a5 a6 a7 r1 r2 s1 m2 t1 t2 t3 (fun k hk => by rw [zrw_q hk, u1 k hk]) u2 t4 ⟨G + 1, K, ?_⟩
    exact q_put0 (by omega) br e1 e3 e2
