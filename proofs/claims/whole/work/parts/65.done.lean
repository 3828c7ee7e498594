/-! steps, comes, leaves, lets -/
def cN (P : Nat → Bool) (G : Nat) : Nat := zfo (fun k a => if P k = true then a + 1 else a) G 0
theorem cN_succ (P : Nat → Bool) (n : Nat) : cN P (n + 1) = if P n = true then cN P n + 1 else cN P n := rfl
theorem cN_le (P : Nat → Bool) : ∀ G, cN P G ≤ G := by
  intro G
  induction G with
  | zero => exact Nat.le_refl _
  | succ n ih =>
    rw [cN_succ]
    by_cases h : P n = true
    · rw [if_pos h]; omega
    · rw [if_neg h]; omega
theorem cN_zero (P : Nat → Bool) : ∀ G, cN P G = 0 ↔ ∀ k, k < G → ¬ P k = true := by
  intro G
  induction G with
  | zero => exact ⟨fun _ k hk => absurd hk (Nat.not_lt_zero _), fun _ => rfl⟩
  | succ n ih =>
    rw [cN_succ]
    by_cases h : P n = true
    · rw [if_pos h]
      exact ⟨fun q => by omega, fun q => absurd h (q n (Nat.lt_succ_self _))⟩
    · rw [if_neg h, ih]
      refine ⟨fun q k hk => ?_, fun q k hk => q k (by omega)⟩
      by_cases hkn : k = n
      · subst hkn; exact h
      · exact q k (by omega)
theorem cnt_of {Q : Nat → Prop} [DecidablePred Q] : ∀ G, zfo (fun k (a : Int32) => if Q k then a + 1 else a) G 0 = nI (cN (fun k => decide (Q k)) G) := by
  intro G
  induction G with
  | zero => exact nI_0.symm
  | succ n ih =>
    show (if Q n then zfo _ n 0 + 1 else zfo _ n 0) = _
    rw [ih, cN_succ]
    by_cases hq : Q n
    · rw [if_pos hq, decide_eq_true hq, if_pos rfl, nI_1]
    · rw [if_neg hq, decide_eq_false hq, if_neg (by decide)]
theorem aAhead_n (si wh tu : Nat → Int32) (g G : Nat) : aAhead si wh tu g G = nI (cN (fun k => decide ((wh k = 0 ∧ si k = si g) ∧ tu k < tu g)) G) := cnt_of (Q := fun k => (wh k = 0 ∧ si k = si g) ∧ tu k < tu g) G
theorem aAhead_0 {si wh tu : Nat → Int32} {g G : Nat} (h9 : G ≤ 9) : aAhead si wh tu g G = 0 ↔ ∀ k, k < G → ¬ ((wh k = 0 ∧ si k = si g) ∧ tu k < tu g) := by
  have hl := cN_le (fun k => decide ((wh k = 0 ∧ si k = si g) ∧ tu k < tu g)) G
  have hz := cN_zero (fun k => decide ((wh k = 0 ∧ si k = si g) ∧ tu k < tu g)) G
  rw [aAhead_n]
  generalize cN (fun k => decide ((wh k = 0 ∧ si k = si g) ∧ tu k < tu g)) G = c at hl hz ⊢
  have e : nI c = 0 ↔ c = 0 := nI_eq (b := 0) (by omega) (by omega)
  rw [e, hz]
  exact ⟨fun q k hk z => q k hk (decide_eq_true z), fun q k hk z => q k hk (of_decide_eq_true z)⟩
theorem aFirst_min {si wh tu : Nat → Int32} {side : Int32} : ∀ G f, aFirst si wh tu side G = some f → ∀ h, h < G → wh h = 0 → si h = side → tu f ≤ tu h := by
  intro G
  induction G with
  | zero => intro f e; rw [aFirst_0] at e; cases e
  | succ n ih =>
    intro f e h hh h1 h2
    rw [aFirst_succ] at e
    by_cases hc : wh n = 0 ∧ si n = side
    · cases hf : aFirst si wh tu side n with
      | none =>
        rw [hf, aFs_e hc] at e
        cases e
        have := aFirst_none hf
        by_cases hn : h = n
        · subst hn; exact Int32.le_refl _
        · exact absurd ⟨h1, h2⟩ (this h (by omega))
      | some k =>
        rw [hf, aFs_y hc] at e
        by_cases ht : tu n < tu k
        · rw [if_pos ht] at e
          cases e
          by_cases hn : h = n
          · subst hn; exact Int32.le_refl _
          · have := ih k hf h (by omega) h1 h2
            rw [i_lt] at ht
            rw [i_le] at this ⊢
            omega
        · rw [if_neg ht] at e
          have e : k = f := Option.some.inj e
          subst e
          by_cases hn : h = n
          · subst hn; exact i_nlt.mp ht
          · exact ih _ hf h (by omega) h1 h2
    · rw [aFs_o hc] at e
      by_cases hn : h = n
      · subst hn; exact absurd ⟨h1, h2⟩ hc
      · exact ih f e h (by omega) h1 h2
theorem aFirst_ex {si wh tu : Nat → Int32} {side : Int32} {G g : Nat} (hg : g < G) (h1 : wh g = 0) (h2 : si g = side) : ∃ f, aFirst si wh tu side G = some f := by
  cases hf : aFirst si wh tu side G with
  | none => exact absurd ⟨h1, h2⟩ (aFirst_none hf g hg)
  | some f => exact ⟨f, rfl⟩
/-- one is first: nobody is ahead of him -/
theorem aFirst_ahead {n R S G K : Nat} {A : Nat → Nat → Int32} {r : Nat → Int32} (X : wMo n R S G K A r) {g f : Nat} (hg : g < G) (h0 : A 3 g = 0) (hf : aFirst (A 2) (A 3) (A 5) (A 2 g) G = some f) : f = g ↔ aAhead (A 2) (A 3) (A 5) g G = 0 := by
  rw [aAhead_0 X.1.1]
  have hm := aFirst_min G f hf
  obtain ⟨f1, f2, f3⟩ := aFirst_some hf
  constructor
  · intro e k hk q
    subst e
    have := hm k hk q.1.1 q.1.2
    exact i_nlt.mpr this q.2
  · intro q
    apply Classical.byContradiction
    intro ne
    have h1 := hm g hg h0 rfl
    have h2 := q f f1
    have h3 := (X.2.2 f g f1 hg f2 h0 f3).2 ne
    apply h2
    refine ⟨⟨f2, f3⟩, ?_⟩
    rw [i_le] at h1
    rw [i_eq] at h3
    rw [i_lt]
    omega
/-- a step, a fill on both sides -/
theorem q_ev {M1 M3 : zM} {n R W H S G K c t : Nat} (P1 : wP M1 R W H S) (h26 : M3.1 26 = M1.1 26) (h27 : M3.1 27 = M1.1 27) (X : wMo n R S G K (fun i => M1.1 (c + i)) (M3.1 t)) : aEv G (M1.1 (c + 1)) (M1.1 (c + 2)) (fun g => M3.1 t (2 + g)) (fun g => M3.1 t (11 + g)) (M1.1 4) (M1.1 5) (M3.1 26) (M3.1 27) := by
  rw [h26, h27]
  exact X.ev P1
theorem q_turn {M1 M3 : zM} {n R W H S G K c t : Nat} (P1 : wP M1 R W H S) (h26 : M3.1 26 = M1.1 26) (h27 : M3.1 27 = M1.1 27) (h25 : ∀ j, j < 4 → M3.1 25 j = M1.1 25 j) (X : wMo n R S G K (fun i => M1.1 (c + i)) (M3.1 t)) : (aTurn G (M1.1 (c + 1)) (M1.1 (c + 2)) (M1.1 (c + 5)) (M1.1 4) (M1.1 5) (M1.1 3 0) (M1.1 3 1) (M1.1 3 2) (M1.1 (c + 3), M1.1 (c + 4))).1 = (aTurn G (fun g => M3.1 t (2 + g)) (fun g => M3.1 t (11 + g)) (fun g => M3.1 t (38 + g)) (M3.1 26) (M3.1 27) (M3.1 25 0) (M3.1 25 1) (M3.1 25 2) (fun g => M3.1 t (20 + g), fun g => M3.1 t (29 + g))).1 ∧ aSi G (aTurn G (M1.1 (c + 1)) (M1.1 (c + 2)) (M1.1 (c + 5)) (M1.1 4) (M1.1 5) (M1.1 3 0) (M1.1 3 1) (M1.1 3 2) (M1.1 (c + 3), M1.1 (c + 4))).2 (aTurn G (fun g => M3.1 t (2 + g)) (fun g => M3.1 t (11 + g)) (fun g => M3.1 t (38 + g)) (M3.1 26) (M3.1 27) (M3.1 25 0) (M3.1 25 1) (M3.1 25 2) (fun g => M3.1 t (20 + g), fun g => M3.1 t (29 + g))).2 ∧ aBd G R (aTurn G (M1.1 (c + 1)) (M1.1 (c + 2)) (M1.1 (c + 5)) (M1.1 4) (M1.1 5) (M1.1 3 0) (M1.1 3 1) (M1.1 3 2) (M1.1 (c + 3), M1.1 (c + 4))).2 := by
  have E := q_ev P1 h26 h27 X
  obtain ⟨⟨p1, p2, _⟩, ⟨c0, c1, c2, _⟩, ⟨d0, d1, d2, _⟩, _⟩ := id P1
  rw [h25 0 (by omega), h25 1 (by omega), h25 2 (by omega), c0, c1, c2, d0, d1, d2]
  obtain ⟨t1, t2⟩ := aTurn_rel E (nI R) (nI W) (nI H) X.si X.or
  exact ⟨t1, t2, aTurn_bd (by omega) (by omega) X.bd⟩
theorem q_fill {M1 M3 : zM} {n R W H S G K c t : Nat} (P1 : wP M1 R W H S) (h26 : M3.1 26 = M1.1 26) (h27 : M3.1 27 = M1.1 27) (h25 : ∀ j, j < 4 → M3.1 25 j = M1.1 25 j) (X : wMo n R S G K (fun i => M1.1 (c + i)) (M3.1 t)) : aSi G (aFill G (M1.1 (c + 1)) (M1.1 (c + 2)) (M1.1 (c + 5)) (M1.1 4) (M1.1 3 1) (M1.1 3 0 / 2) (M1.1 (c + 3), M1.1 (c + 4))) (aFill G (fun g => M3.1 t (2 + g)) (fun g => M3.1 t (11 + g)) (fun g => M3.1 t (38 + g)) (M3.1 26) (M3.1 25 1) (M3.1 25 0 / 2) (fun g => M3.1 t (20 + g), fun g => M3.1 t (29 + g))) ∧ aBd G R (aFill G (M1.1 (c + 1)) (M1.1 (c + 2)) (M1.1 (c + 5)) (M1.1 4) (M1.1 3 1) (M1.1 3 0 / 2) (M1.1 (c + 3), M1.1 (c + 4))) := by
  have E := q_ev P1 h26 h27 X
  obtain ⟨⟨p1, p2, _⟩, ⟨c0, c1, c2, _⟩, ⟨d0, d1, d2, _⟩, _⟩ := id P1
  rw [h25 0 (by omega), h25 1 (by omega), c0, c1, d0, d1]
  exact ⟨aFill_rel E X.si X.or, aFill_bd (by omega) (by omega) X.bd⟩
/-- both moments laid back -/
theorem q_put {M1 M3 : zM} {n R S G K K' c t : Nat} {v w : Int32} (hc : 37 ≤ c) (X : wMo n R S G K (fun i => M1.1 (c + i)) (M3.1 t)) {s s' : aS} (hs : aSi G s s') (hz : ∀ g, g < G → s.1 g = 0 → M1.1 (c + 3) g = 0) (hb : aBd G R s) (hK : K' ≤ 999) (hv : v = nI K') (hw : w = nI K') : wMo n R S G K' (fun i => (zwp (zs M1 c 1 v) c s).1 (c + i)) ((zrw (zs M3 t 1 w) t s').1 t) := by
  refine wMo_put X hs hz hb hK ?_ ?_ (fun g hg => ⟨?_, ?_, ?_, ?_, ?_⟩) ?_ ?_ (fun g hg => ⟨?_, ?_, ?_, ?_, ?_⟩)
  · show (zwp (zs M1 c 1 v) c s).1 c 1 = nI K'
    rw [zwp_q (by omega) (by omega), zs_row, upd_s, hv]
  · show (zwp (zs M1 c 1 v) c s).1 c 2 = M1.1 c 2
    rw [zwp_q (by omega) (by omega), zs_row, upd_n (by decide)]
  · show (zwp (zs M1 c 1 v) c s).1 (c + 1) g = M1.1 (c + 1) g
    rw [zwp_q (by omega) (by omega), zs_ne (by omega)]
  · show (zwp (zs M1 c 1 v) c s).1 (c + 2) g = M1.1 (c + 2) g
    rw [zwp_q (by omega) (by omega), zs_ne (by omega)]
  · show (zwp (zs M1 c 1 v) c s).1 (c + 5) g = M1.1 (c + 5) g
    rw [zwp_q (by omega) (by omega), zs_ne (by omega)]
  · show (zwp (zs M1 c 1 v) c s).1 (c + 3) g = s.1 g
    rw [zwp_w]
  · show (zwp (zs M1 c 1 v) c s).1 (c + 4) g = s.2 g
    rw [zwp_p]
  · rw [zrw_o (by omega), zs_row, upd_n (by decide)]
  · rw [zrw_o (by omega), zs_row, upd_s, hw]
  · rw [zrw_o (by omega), zs_row, upd_n (by omega)]
  · rw [zrw_o (by omega), zs_row, upd_n (by omega)]
  · rw [zrw_o (by omega), zs_row, upd_n (by omega)]
  · rw [zrw_w hg]
  · rw [zrw_p hg]
theorem wDone {n R W H S : Nat} {M M1 M2 M3 M4 : zM} (a1 : wP M R W H S) (a4 : wIm n R S M) (a5 : wSe M) (a6 : wTx M) (a7 : wTc M) (r1 : ∀ q, q ≠ 9 → ¬ (49 ≤ q ∧ q < 109) → M1.1 q = M.1 q) (r2 : M1.2 = M.2) (s1 : ∀ q, ¬ (37 ≤ q ∧ q < 43) → M2.1 q = M1.1 q) (s2 : M2.2 = M1.2) (t1 : ∀ q, q ≠ 25 → q ≠ 30 → M3.1 q = M2.1 q) (t2 : ∀ j, j ≠ 9 → M3.1 25 j = M2.1 25 j) (t3 : M3.2 = M2.2) (u1 : ∀ q, q ≠ 28 → M4.1 q = M3.1 q) (u2 : M4.2 = M3.2) (pa : ∀ M4 : zM, M4.1 9 = M1.1 9 → (∀ q, 49 ≤ q → q < 109 → M4.1 q = M1.1 q) → M4.1 25 9 = M3.1 25 9 → M4.1 30 = M3.1 30 → wPa n R S M4) (mo : wMoE (n + 1) R S (fun i => M2.1 (37 + i)) (M4.1 28)) : wI (n + 1) M4 := by
  have f1 : ∀ q, q ≠ 28 → q ≠ 25 → q ≠ 30 → ¬ (37 ≤ q ∧ q < 43) → M4.1 q = M1.1 q := fun q h1 h2 h3 h4 => by rw [u1 q h1, t1 q h2 h3, s1 q h4]
  have f2 : ∀ q, q ≠ 28 → q ≠ 25 → q ≠ 30 → ¬ (37 ≤ q ∧ q < 43) → q ≠ 9 → ¬ (49 ≤ q ∧ q < 109) → M4.1 q = M.1 q := fun q h1 h2 h3 h4 h5 h6 => by rw [f1 q h1 h2 h3 h4, r1 q h5 h6]
  refine wI_mom a1 a5 a6 a7 (fun q h9 h12 h25 h28 h37 => f2 q (by omega) h25 (by omega) (by omega) h9 (by omega)) (fun j hj => ?_) (by rw [u2, t3, s2, r2]) ?_ ?_ ?_
  · rw [u1 25 (by decide), t2 j hj, s1 25 (by omega), r1 25 (by decide) (by omega)]
  · refine wMoE_tr mo ?_ ?_ (fun i j h1 h5 hj => ?_) (fun j hj => rfl)
    · show M4.1 37 1 = M2.1 37 1; rw [u1 37 (by decide), t1 37 (by decide) (by decide)]
    · show M4.1 37 2 = M2.1 37 2; rw [u1 37 (by decide), t1 37 (by decide) (by decide)]
    · show M4.1 (37 + i) j = M2.1 (37 + i) j; rw [u1 (37 + i) (by omega), t1 (37 + i) (by omega) (by omega)]
  · exact wPa_mono (Nat.le_succ _) (pa M4 (f1 9 (by decide) (by decide) (by decide) (by omega)) (fun q h1 h2 => f1 q (by omega) (by omega) (by omega) (by omega)) (by rw [u1 25 (by decide)]) (u1 30 (by decide)))
  · exact wIm_mono (Nat.le_succ _) (wIm_tr a4 (f2 12 (by decide) (by decide) (by decide) (by omega) (by decide) (by omega)) (fun q h1 h2 => f2 q (by omega) (by omega) (by omega) (by omega) (by omega) (by omega)) (f2 32 (by decide) (by decide) (by decide) (by omega) (by decide) (by omega)) (f2 31 (by decide) (by decide) (by decide) (by omega) (by decide) (by omega)))
theorem p_steps {n : Nat} {M : zM} (X : wI n M) : wOp n M (fun M => f_X11_steps M) (fun M => f_X12_steps M) := by
  obtain ⟨R, W, H, S, a1, a2, a3, a4, a5, a6, a7⟩ := id X
  obtain ⟨G, K, b⟩ := id a2
  have g5 : M.1 37 1 = nI K := b.1.2.2.2.2.1
  have g6 : M.1 28 1 = nI K := b.1.2.2.2.2.2
  have hK := b.1.2.1
  by_cases hk : K = 999
  · subst hk
    refine wOp_same X (-2) ?_ ?_
    · show f_X11_steps_0 M = _
      rw [f_X11_steps_0, g5, if_neg (show ¬ nI 999 < (999 : Int32) from nI_nlt (b := 999) (by decide) (by decide))]
    · show f_X12_steps_0 M = _
      rw [f_X12_steps_0, zg_t (by decide), cl1, g6, if_pos (by rfl)]
  · obtain ⟨M1, r0, r1, r2, r3⟩ := wNote a3 a2
    have P1 : wP M1 R W H S := wP_tr a1 (r1 _ (by decide) (by omega)) (r1 _ (by decide) (by omega)) (r1 _ (by decide) (by omega)) (r1 _ (by decide) (by omega)) (r1 _ (by decide) (by omega)) (fun j _ => by rw [r1 _ (by decide) (by omega)])
    have b1 : wMo n R S G K (fun i => M1.1 (37 + i)) (M.1 28) := wMo_tr b (by show M1.1 37 1 = M.1 37 1; rw [r1 _ (by decide) (by omega)]) (by show M1.1 37 2 = M.1 37 2; rw [r1 _ (by decide) (by omega)]) (fun i j h1 h5 hj => by show M1.1 (37 + i) j = M.1 (37 + i) j; rw [r1 _ (by omega) (by omega)]) (fun _ _ => rfl)
    have ct := c_turn (b1.cx P1 (by omega)) (M1.1 (37 + 3), M1.1 (37 + 4))
    rw [zwp_self] at ct
    generalize hs : aTurn G (M1.1 (37 + 1)) (M1.1 (37 + 2)) (M1.1 (37 + 5)) (M1.1 4) (M1.1 5) (M1.1 3 0) (M1.1 3 1) (M1.1 3 2) (M1.1 (37 + 3), M1.1 (37 + 4)) = q at ct
    have s1 : ∀ k, ¬ (37 ≤ k ∧ k < 43) → (zwp (zs M1 37 1 (M1.1 37 1 + 1)) 37 q.2).1 k = M1.1 k := fun k hk => zwp_st_ne (by omega)
    obtain ⟨M3, t0, t1, t2, t3, t4⟩ := r3 (zwp (zs M1 37 1 (M1.1 37 1 + 1)) 37 q.2) (by rw [s1 25 (by omega), r1 25 (by decide) (by omega)]) (by rw [s1 28 (by omega), r1 28 (by decide) (by omega)]) (by rw [s1 30 (by omega), r1 30 (by decide) (by omega)])
    have h28 : M3.1 28 = M.1 28 := by rw [t1 28 (by decide) (by decide), s1 28 (by omega), r1 28 (by decide) (by omega)]
    have P3 : wP M3 R W H S := wP_tr P1 (by rw [t1 _ (by decide) (by decide), s1 _ (by omega)]) (by rw [t1 _ (by decide) (by decide), s1 _ (by omega)]) (by rw [t1 _ (by decide) (by decide), s1 _ (by omega)]) (by rw [t1 _ (by decide) (by decide), s1 _ (by omega)]) (by rw [t1 _ (by decide) (by decide), s1 _ (by omega)]) (fun j hj => by rw [t2 j (by omega), s1 _ (by omega)])
    have b3 : wMo n R S G K (fun i => M1.1 (37 + i)) (M3.1 28) := by rw [h28]; exact b1
    obtain ⟨e1, e2, e3⟩ := q_turn P1 (by rw [t1 _ (by decide) (by decide), s1 _ (by omega)]) (by rw [t1 _ (by decide) (by decide), s1 _ (by omega)]) (fun j hj => by rw [t2 j (by omega), s1 _ (by omega)]) b3
    have rt := r_goes (b3.rx P3 (by omega)) P3.2.2.1.1 (by have := a1.1; omega) (by have := a1.1; omega) (fun g => M3.1 28 (20 + g), fun g => M3.1 28 (29 + g)) b3.bdr
    rw [zrw_self] at rt
    generalize hs' : aTurn G (fun g => M3.1 28 (2 + g)) (fun g => M3.1 28 (11 + g)) (fun g => M3.1 28 (38 + g)) (M3.1 26) (M3.1 27) (M3.1 25 0) (M3.1 25 1) (M3.1 25 2) (fun g => M3.1 28 (20 + g), fun g => M3.1 28 (29 + g)) = q' at rt e1 e2
    rw [hs] at e1 e2 e3
    refine ⟨q.1, zwp (zs M1 37 1 (M1.1 37 1 + 1)) 37 q.2, zrw (zs M3 28 1 (M3.1 28 1 + 1)) 28 q'.2, ?_, ?_, ?_⟩
    · show f_X11_steps_0 M = _
      rw [f_X11_steps_0, g5, if_pos (show nI K < (999 : Int32) from nI_lt (b := 999) (by omega) (by decide)), r0, zbv_s, ct, zbi_s]
    · show f_X12_steps_0 _ = _
      rw [f_X12_steps_0, zg_t (by decide), cl1, s1 28 (by omega), r1 28 (by decide) (by omega), g6, if_neg (show ¬ nI K = (999 : Int32) from fun z => hk ((nI_eq (b := 999) (by omega) (by decide)).mp z)), t0, zbv_s, rt, zbi_s, e1]
    · refine wDone a1 a4 a5 a6 a7 r1 r2 s1 rfl t1 t2 t3 (fun k hk => zrw_st_ne hk) rfl t4 ⟨G, K + 1, wMo_mono ?_ (Nat.le_succ _)⟩
      refine q_put (by omega) b3 e2 (fun g _ hz => ?_) e3 (by omega) ?_ ?_
      · rw [← hs] at hz
        exact aTurn_zero _ g hz
      · rw [r1 37 (by decide) (by omega), g5, nI_1]
      · rw [h28, g6, nI_1]
