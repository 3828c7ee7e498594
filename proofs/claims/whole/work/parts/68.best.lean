/-! whom to have give up, whom to let ahead -/
theorem zbv_zbv {β : Type} (a : Option zM) (f : zM → Option zM) (k : zM → Option β) : zbv (zbv a f) k = zbv a (fun m => zbv (f m) k) := by
  cases a <;> rfl
theorem zbi_zbv {α β : Type} (a : Option zM) (f : zM → Option (α × zM)) (k : α → zM → Option β) : zbi (zbv a f) k = zbv a (fun m => zbi (f m) k) := by
  cases a <;> rfl
def zFrC (M M' : zM) : Prop := (∀ q, ¬ (43 ≤ q ∧ q < 49) → M'.1 q = M.1 q) ∧ M'.2 = M.2
def zFrR (M M' : zM) : Prop := (∀ q, q ≠ 29 → ¬ (43 ≤ q ∧ q < 49) → M'.1 q = M.1 q) ∧ M'.2 = M.2
theorem wP_C {M M' : zM} {R W H S : Nat} (P : wP M R W H S) (h : zFrC M M') : wP M' R W H S := wP_tr P (h.1 _ (by omega)) (h.1 _ (by omega)) (h.1 _ (by omega)) (h.1 _ (by omega)) (h.1 _ (by omega)) (fun j _ => by rw [h.1 _ (by omega)])
theorem wP_R {M M' : zM} {R W H S : Nat} (P : wP M R W H S) (h : zFrR M M') : wP M' R W H S := wP_tr P (h.1 _ (by omega) (by omega)) (h.1 _ (by omega) (by omega)) (h.1 _ (by omega) (by omega)) (h.1 _ (by omega) (by omega)) (h.1 _ (by omega) (by omega)) (fun j _ => by rw [h.1 _ (by omega) (by omega)])
theorem eng {M : zM} {n R W H S G K g : Nat} (P : wP M R W H S) (hg : g < G) (oC oR : zM → Option zM) (E : ∀ M', zFrC M M' → ∃ M1, oC M' = some M1 ∧ zFrC M M1 ∧ ∀ M'', zFrR M M'' → ∃ M3, oR M'' = some M3 ∧ zFrR M M3 ∧ wMo n R S G K (fun i => M1.1 (43 + i)) (M3.1 29)) : ∃ v, v ≤ 61 ∧ (∀ M', zFrC M M' → ∃ M2, zbv (oC M') (fun M => f_X5_runUntilThrough M 43 (nI g)) = some (nI v, M2) ∧ zFrC M M2) ∧ (∀ M'', zFrR M M'' → ∃ M2, zbv (oR M'') (fun M => f_X12_whenAside M (nI g)) = some (nI v, M2) ∧ zFrR M M2) := by
  have c0 : zFrC M M := ⟨fun _ _ => rfl, rfl⟩
  have r0 : zFrR M M := ⟨fun _ _ _ => rfl, rfl⟩
  have hq : ∀ M1 M3 : zM, zFrC M M1 → zFrR M M3 → ∀ q, q < 28 → M3.1 q = M1.1 q := fun M1 M3 f1 f3 q h => by rw [f3.1 q (by omega) (by omega), f1.1 q (by omega)]
  obtain ⟨Mc, oc, fc, ec⟩ := E M c0
  obtain ⟨Mr, or', fr, er⟩ := ec M r0
  obtain ⟨v, _, _, _, _, hv, _, hvc, hvr⟩ := run_when (wP_C P fc) (hq _ _ fc fr) er hg
  refine ⟨v, hv, fun M' h => ?_, fun M'' h => ?_⟩
  · obtain ⟨M1, o1, f1, e1⟩ := E M' h
    obtain ⟨M3, o3, f3, e3⟩ := e1 M r0
    obtain rfl : M3 = Mr := Option.some.inj (o3.symm.trans or')
    obtain ⟨x, v1, s1, _, _, hx, _, hc, hr⟩ := run_when (wP_C P f1) (hq _ _ f1 f3) e3 hg
    obtain rfl : x = v := (nI_eq (by omega) (by omega)).mp (congrArg Prod.fst (Option.some.inj (hr.symm.trans hvr)))
    refine ⟨zwp (zs M1 43 1 v1) 43 s1, by rw [o1, zbv_s]; exact hc, fun q hq => ?_, f1.2⟩
    rw [zwp_st_ne (by omega), f1.1 q hq]
  · obtain ⟨M3, o3, f3, e3⟩ := ec M'' h
    obtain ⟨x, _, _, v2, s2, hx, _, hc, hr⟩ := run_when (wP_C P fc) (hq _ _ fc f3) e3 hg
    obtain rfl : x = v := (nI_eq (by omega) (by omega)).mp (congrArg Prod.fst (Option.some.inj (hc.symm.trans hvc)))
    refine ⟨zrw (zs M3 29 1 v2) 29 s2, by rw [o3, zbv_s]; exact hr, fun q h1 h2 => ?_, f3.2⟩
    rw [zrw_st_ne h1, f3.1 q h1 h2]
theorem E_base {M : zM} {n R S G K : Nat} (Y : wMo n R S G K (fun i => M.1 (37 + i)) (M.1 28)) : ∀ M', zFrC M M' → ∃ M1, f_X5_copy M' 43 37 = some M1 ∧ zFrC M M1 ∧ ∀ M'', zFrR M M'' → ∃ M3, f_X12_layAside M'' = some M3 ∧ zFrR M M3 ∧ wMo n R S G K (fun i => M1.1 (43 + i)) (M3.1 29) := by
  intro M' h
  have Y' : wMo n R S G K (fun i => M'.1 (37 + i)) (M'.1 28) := wMo_tr Y (by show M'.1 37 1 = M.1 37 1; rw [h.1 _ (by omega)]) (by show M'.1 37 2 = M.1 37 2; rw [h.1 _ (by omega)]) (fun i j h1 h5 hj => by show M'.1 (37 + i) j = M.1 (37 + i) j; rw [h.1 _ (by omega)]) (fun _ _ => by rw [h.1 _ (by omega)])
  obtain ⟨M1, c1, c2, c3, c4⟩ := p_lay Y'
  refine ⟨M1, c1, ⟨fun q hq => by rw [c2 q hq, h.1 q hq], by rw [c3, h.2]⟩, fun M'' h2 => ?_⟩
  obtain ⟨M3, d1, d2, d3, d4⟩ := c4 M'' (by rw [h2.1 28 (by omega) (by omega), h.1 28 (by omega)])
  exact ⟨M3, d1, ⟨fun q h29 hq => by rw [d2 q h29, h2.1 q h29 hq], by rw [d3, h2.2]⟩, d4⟩
theorem E_give {M : zM} {n R W H S G K k : Nat} (P : wP M R W H S) (Y : wMo n R S G K (fun i => M.1 (37 + i)) (M.1 28)) (hk : k < G) (h0 : M.1 (37 + 3) k = 0) : ∀ M', zFrC M M' → ∃ M1, zbv (f_X5_copy M' 43 37) (fun M7 => f_X5_giveUp M7 43 (nI k)) = some M1 ∧ zFrC M M1 ∧ ∀ M'', zFrR M M'' → ∃ M3, zbv (f_X12_layAside M'') (fun M3 => zbv (f_X12_leavesOn M3 29 (nI k)) (fun M => f_X12_fills M 29)) = some M3 ∧ zFrR M M3 ∧ wMo n R S G K (fun i => M1.1 (43 + i)) (M3.1 29) := by
  intro M' h
  have h9 := Y.1.1
  obtain ⟨M7, c1, f7, c4⟩ := E_base Y M' h
  have P7 := wP_C P f7
  obtain ⟨Mx, _, fx, X7⟩ := c4 M ⟨fun _ _ _ => rfl, rfl⟩
  have x7 := X7.cx P7 (by omega)
  obtain ⟨Mb, cb1, cb2, cb3, cb4, cb5, cb6⟩ := c_copy (M := M') (c := 43) (p := 37) (Or.inr (by omega))
  obtain rfl : Mb = M7 := Option.some.inj (cb1.symm.trans c1)
  have h07 : Mb.1 (43 + 3) k = 0 := by rw [cb6 3 k (by omega) (by omega) (by omega), h.1 _ (by omega)]; exact h0
  have cg := c_give x7 hk h07
  refine ⟨_, (show zbv (f_X5_copy M' 43 37) (fun M7 => f_X5_giveUp M7 43 (nI k)) = f_X5_giveUp Mb 43 (nI k) by rw [c1, zbv_s]).trans cg, ⟨fun q hq => by rw [zwp_q (by omega) (by omega), f7.1 q hq], f7.2⟩, fun M'' h2 => ?_⟩
  obtain ⟨M3, d1, f3, d4⟩ := c4 M'' h2
  have P3 := wP_R P f3
  have rg := r_give (d4.rx P3 (by omega)) hk
  refine ⟨_, (show zbv (f_X12_layAside M'') (fun M3 => zbv (f_X12_leavesOn M3 29 (nI k)) (fun M => f_X12_fills M 29)) = zbv (f_X12_leavesOn M3 29 (nI k)) (fun M => f_X12_fills M 29) by rw [d1, zbv_s]).trans rg, ⟨fun q h29 hq => by rw [zrw_q h29, f3.1 q h29 hq], f3.2⟩, ?_⟩
  have e37 : ∀ q, q < 28 → M3.1 q = Mb.1 q := fun q hq => by rw [f3.1 q (by omega) (by omega), f7.1 q (by omega)]
  obtain ⟨e1, e2, e3⟩ := q_fillG P7 (e37 26 (by omega)) (e37 27 (by omega)) (fun j _ => by rw [e37 25 (by omega)]) d4 (up_si (g := k) (v := 3) d4.si) (fun g hg z => up3_z (G := G) (g := k) g hg z) (up3_bd (g := k) d4.bd)
  exact q_put0 (by omega) d4 e1 e3 e2
theorem E_let {M : zM} {n R W H S G K k f : Nat} (hn : n < 1000) (P : wP M R W H S) (Y : wMo n R S G K (fun i => M.1 (37 + i)) (M.1 28)) (hk : k < G) (h0 : M.1 (37 + 3) k = 0) (hf : aFirst (M.1 (37 + 2)) (M.1 (37 + 3)) (M.1 (37 + 5)) (M.1 (37 + 2) k) G = some f) (hfk : ¬ f = k) : ∀ M', zFrC M M' → ∃ M1, zbv (f_X5_copy M' 43 37) (fun M7 => f_X5_letAhead M7 43 (nI k)) = some M1 ∧ zFrC M M1 ∧ ∀ M'', zFrR M M'' → ∃ M3, zbv (f_X12_layAside M'') (fun M3 => zbv (f_X12_letsOn M3 29 (nI k)) (fun M => f_X12_fills M 29)) = some M3 ∧ zFrR M M3 ∧ wMo (n + 1) R S G K (fun i => M1.1 (43 + i)) (M3.1 29) := by
  intro M' h
  have h9 := Y.1.1
  obtain ⟨M7, c1, f7, c4⟩ := E_base Y M' h
  have P7 := wP_C P f7
  obtain ⟨Mx, _, fx, X7⟩ := c4 M ⟨fun _ _ _ => rfl, rfl⟩
  have x7 := X7.cx P7 (by omega)
  obtain ⟨Mb, cb1, cb2, cb3, cb4, cb5, cb6⟩ := c_copy (M := M') (c := 43) (p := 37) (Or.inr (by omega))
  obtain rfl : Mb = M7 := Option.some.inj (cb1.symm.trans c1)
  have row : ∀ i, 1 ≤ i → i ≤ 5 → ∀ j, j < G → Mb.1 (43 + i) j = M.1 (37 + i) j := fun i h1 h5 j hj => by rw [cb6 i j h1 h5 (by omega), h.1 _ (by omega)]
  have h07 : Mb.1 (43 + 3) k = 0 := by rw [row 3 (by omega) (by omega) k hk]; exact h0
  have hf7 : aFirst (Mb.1 (43 + 2)) (Mb.1 (43 + 3)) (Mb.1 (43 + 5)) (Mb.1 (43 + 2) k) G = some f := by
    rw [row 2 (by omega) (by omega) k hk, ← hf]
    refine (aFirst_rel (fun g hg => (row 2 (by omega) (by omega) g hg).symm) (fun g hg => (row 3 (by omega) (by omega) g hg).symm) (fun g q hg hq _ _ _ => ?_)).symm
    rw [row 5 (by omega) (by omega) g hg, row 5 (by omega) (by omega) q hq]
  have cl := c_letA x7 hk h07 hf7
  rw [if_neg hfk] at cl
  have x7' := x7.tu k (Mb.1 (43 + 5) f - 1)
  rw [c_fill0 x7'] at cl
  refine ⟨_, (show zbv (f_X5_copy M' 43 37) (fun M7 => f_X5_letAhead M7 43 (nI k)) = f_X5_letAhead Mb 43 (nI k) by rw [c1, zbv_s]).trans cl, ⟨fun q hq => by rw [zwp_q (by omega) (by omega), zs_ne (by omega), f7.1 q hq], f7.2⟩, fun M'' h2 => ?_⟩
  obtain ⟨M3, d1, f3, d4⟩ := c4 M'' h2
  have P3 := wP_R P f3
  obtain ⟨hfr, bp⟩ := q_let (c := 43) (t := 29) (by omega) hn d4 hk h07 hf7
  have rl := r_letA (d4.rx P3 (by omega)) hk hfr
  have e37 : ∀ q, q < 28 → M3.1 q = Mb.1 q := fun q hq => by rw [f3.1 q (by omega) (by omega), f7.1 q (by omega)]
  have Pp : wP (zs Mb (43 + 5) k (Mb.1 (43 + 5) f - 1)) R W H S := wP_tr P7 (zs_ne (by decide)) (zs_ne (by decide)) (zs_ne (by decide)) (zs_ne (by decide)) (zs_ne (by decide)) (fun j _ => by rw [zs_ne (by decide)])
  have Pr : wP (zs M3 29 (38 + k) (M3.1 29 (38 + f) - 1)) R W H S := wP_tr P3 (zs_ne (by decide)) (zs_ne (by decide)) (zs_ne (by decide)) (zs_ne (by decide)) (zs_ne (by decide)) (fun j _ => by rw [zs_ne (by decide)])
  have rf := r_fills0 (bp.rx Pr (by omega))
  refine ⟨_, (show zbv (f_X12_layAside M'') (fun M3 => zbv (f_X12_letsOn M3 29 (nI k)) (fun M => f_X12_fills M 29)) = f_X12_fills (zs M3 29 (38 + k) (M3.1 29 (38 + f) - 1)) 29 by rw [d1, zbv_s, rl, zbv_s]).trans rf, ⟨fun q h29 hq => by rw [zrw_q h29, zs_ne h29, f3.1 q h29 hq], f3.2⟩, ?_⟩
  have ep : ∀ q, q < 28 → (zs M3 29 (38 + k) (M3.1 29 (38 + f) - 1)).1 q = (zs Mb (43 + 5) k (Mb.1 (43 + 5) f - 1)).1 q := fun q hq => by rw [zs_ne (by omega), zs_ne (by omega), e37 q hq]
  obtain ⟨e1, e2, e3⟩ := q_fillG Pp (ep 26 (by omega)) (ep 27 (by omega)) (fun j _ => by rw [ep 25 (by omega)]) bp bp.si (fun g hg z => z) bp.bd
  exact q_put0 (by omega) bp e1 e3 e2
/-- the search -/
def bRes (use : Nat → Bool) (v : Nat → Nat) : Nat → Nat → Nat → Option Nat → Option Nat
  | 0, _, _, w => w
  | k + 1, j, b, w => if use j = true ∧ v j < b then bRes use v k (j + 1) (v j) (some j) else bRes use v k (j + 1) b w
theorem cBest {M : zM} {G g x0 : Nat} {x2 : Int32} {v : Nat → Nat} {use : Nat → Bool} (h9 : G ≤ 9) (hG : M.1 37 2 = nI G) (hg : g < G) (hx0 : x0 ≤ 61) (op : zM → Int32 → Option zM) (hop : ∀ (k27 : zM → Int32 → Int32 → Int32 → Option (Int32 × zM)) M7 a b c, (if x2 = 0 then (zbv (f_X5_giveUp M7 43 c) (fun M11 => f_X11_bestHelper_97 (nI g) x2 k27 M11 a b c)) else (zbv (f_X5_letAhead M7 43 c) (fun M14 => f_X11_bestHelper_97 (nI g) x2 k27 M14 a b c))) = zbv (op M7 c) (fun M11 => f_X11_bestHelper_97 (nI g) x2 k27 M11 a b c)) (hv : ∀ j, j < G → ¬ j = g → M.1 (37 + 3) j = 0 → v j ≤ 61 ∧ ((use j = true) ∨ v j = x0) ∧ ∀ M', zFrC M M' → ∃ M2, zbv (zbv (f_X5_copy M' 43 37) (fun M7 => op M7 (nI j))) (fun M => f_X5_runUntilThrough M 43 (nI g)) = some (nI (v j), M2) ∧ zFrC M M2) (hu : ∀ j, j < G → use j = true → ¬ j = g ∧ M.1 (37 + 3) j = 0) : ∀ (k j n : Nat) (M' : zM) (b : Nat) (w : Option Nat), j + k = G → k < n → zFrC M M' → b ≤ x0 → ∃ M2, f_X11_bestHelper_27 (nI g) x2 n M' (nI b) (e9 w) (nI j) = some (e9 (bRes use v k j b w), M2) ∧ zFrC M M2 := by
  intro k
  induction k with
  | zero =>
    intro j n M' b w hj hn hM hb
    obtain ⟨n, rfl⟩ : ∃ q, n = q + 1 := ⟨n - 1, by omega⟩
    obtain rfl : j = G := by omega
    refine ⟨M', ?_, hM⟩
    rw [f_X11_bestHelper_27, hM.1 37 (by omega), hG, if_pos (Int32.le_refl _)]
    rfl
  | succ k ih =>
    intro j n M' b w hj hn hM hb
    obtain ⟨n, rfl⟩ : ∃ q, n = q + 1 := ⟨n - 1, by omega⟩
    rw [f_X11_bestHelper_27, hM.1 37 (by omega), hG, if_neg (nI_ge (by omega) (by omega)), bRes]
    by_cases hjg : j = g
    · subst hjg
      rw [if_pos rfl, nI_1, if_neg (fun q => (hu j (by omega) q.1).1 rfl)]
      exact ih (j + 1) n M' b w (by omega) (by omega) hM hb
    · rw [if_neg (fun q => hjg ((nI_eq (by omega) (by omega)).mp q)), zg_in (by omega) (by decide), nI_clamp (by omega), hM.1 (37 + 3) (by omega)]
      by_cases hw : M.1 (37 + 3) j = 0
      · obtain ⟨v1, v2, v3⟩ := hv j (by omega) hjg hw
        obtain ⟨M2, e, f2⟩ := v3 M' hM
        rw [if_pos hw]
        have hb' : zbv (f_X5_copy M' 43 37) (fun M7 => if x2 = 0 then (zbv (f_X5_giveUp M7 43 (nI j)) (fun M11 => f_X11_bestHelper_97 (nI g) x2 (f_X11_bestHelper_27 (nI g) x2 n) M11 (nI b) (e9 w) (nI j))) else (zbv (f_X5_letAhead M7 43 (nI j)) (fun M14 => f_X11_bestHelper_97 (nI g) x2 (f_X11_bestHelper_27 (nI g) x2 n) M14 (nI b) (e9 w) (nI j)))) = zbi (zbv (zbv (f_X5_copy M' 43 37) (fun M7 => op M7 (nI j))) (fun M => f_X5_runUntilThrough M 43 (nI g))) (fun r2 M3 => if (nI b) ≤ r2 then (f_X11_bestHelper_27 (nI g) x2 n M3 (nI b) (e9 w) (nI j + (1 : Int32))) else (f_X11_bestHelper_27 (nI g) x2 n M3 r2 (nI j) (nI j + (1 : Int32)))) := by
          rw [zbv_zbv, zbi_zbv]
          congr 1
          funext M7
          rw [hop, zbi_zbv]
          rfl
        rw [hb', e, zbi_s, nI_1]
        by_cases hlt : v j < b
        · rw [if_neg (nI_ge hlt (by omega))]
          have hus : use j = true := v2.resolve_right (by omega)
          rw [if_pos ⟨hus, hlt⟩]
          exact ih (j + 1) n M2 (v j) (some j) (by omega) (by omega) f2 (by omega)
        · rw [if_pos (nI_le (by omega) (by omega)), if_neg (fun q => hlt q.2)]
          exact ih (j + 1) n M2 b w (by omega) (by omega) f2 hb
      · rw [if_neg hw, if_neg (fun q => hw (hu j (by omega) q.1).2), nI_1]
        exact ih (j + 1) n M' b w (by omega) (by omega) hM hb
theorem rBest {M : zM} {G S g x0 : Nat} {x2 : Int32} {v : Nat → Nat} {use : Nat → Bool} (X : zRx M 28 G S) (hg : g < G) (hx0 : x0 ≤ 61) (op : zM → Int32 → Option zM) (hop : ∀ (k17 : zM → Int32 → Int32 → Int32 → Option (Int32 × zM)) M7 a b c, (if x2 = 0 then (zbv (f_X12_letsOn M7 29 c) (fun M7 => f_X12_best_92 (nI g) x2 k17 M7 a b c)) else (zbv (f_X12_leavesOn M7 29 c) (fun M10 => f_X12_best_92 (nI g) x2 k17 M10 a b c))) = zbv (op M7 c) (fun M11 => f_X12_best_92 (nI g) x2 k17 M11 a b c)) (hv : ∀ j, j < G → use j = true → v j ≤ 61 ∧ ∀ M', zFrR M M' → ∃ M2, zbv (zbv (f_X12_layAside M') (fun M7 => zbv (op M7 (nI j)) (fun M => f_X12_fills M 29))) (fun M => f_X12_whenAside M (nI g)) = some (nI (v j), M2) ∧ zFrR M M2) (hu : ∀ j, j < G → (use j = true ↔ ¬ j = g ∧ M.1 28 (20 + j) = 0 ∧ (x2 = 0 → ¬ aAhead (fun g => M.1 28 (11 + g)) (fun g => M.1 28 (20 + g)) (fun g => M.1 28 (38 + g)) j G = 0))) : ∀ (k j n : Nat) (M' : zM) (b : Nat) (w : Option Nat), j + k = G → k < n → zFrR M M' → b ≤ x0 → ∃ M2, f_X12_best_17 (nI g) x2 n M' (nI b) (e9 w) (nI j) = some (e9 (bRes use v k j b w), M2) ∧ zFrR M M2 := by
  intro k
  have h9 := X.2.2.1
  induction k with
  | zero =>
    intro j n M' b w hj hn hM hb
    obtain ⟨n, rfl⟩ : ∃ q, n = q + 1 := ⟨n - 1, by omega⟩
    obtain rfl : j = G := by omega
    refine ⟨M', ?_, hM⟩
    rw [f_X12_best_17, zg_t (by decide), sb_cl0, hM.1 28 (by omega) (by omega), X.2.1, if_pos (Int32.le_refl _)]
    rfl
  | succ k ih =>
    intro j n M' b w hj hn hM hb
    obtain ⟨n, rfl⟩ : ∃ q, n = q + 1 := ⟨n - 1, by omega⟩
    have h28 := hM.1 28 (by omega) (by omega)
    have X' : zRx M' 28 G S := by
      unfold zRx
      rw [h28]
      exact X
    rw [f_X12_best_17, zg_t (by decide), sb_cl0, h28, X.2.1, if_neg (nI_ge (by omega) (by omega)), bRes]
    by_cases hjg : j = g
    · subst hjg
      rw [if_pos rfl, nI_1, if_neg (fun q => ((hu j (by omega)).mp q.1).1 rfl)]
      exact ih (j + 1) n M' b w (by omega) (by omega) hM hb
    · rw [if_neg (fun q => hjg ((nI_eq (by omega) (by omega)).mp q)), ix20, zg_in (by omega) (by decide), nI_clamp (by omega)]
      by_cases hw : M.1 28 (20 + j) = 0
      · rw [if_pos hw]
        have go : use j = true → ∃ M2, f_X12_best_63 (nI g) x2 (f_X12_best_17 (nI g) x2 n) M' (nI b) (e9 w) (nI j) = some (e9 (if use j = true ∧ v j < b then bRes use v k (j + 1) (v j) (some j) else bRes use v k (j + 1) b w), M2) ∧ zFrR M M2 := by
          intro hus
          obtain ⟨v1, v3⟩ := hv j (by omega) hus
          obtain ⟨M2, e, f2⟩ := v3 M' hM
          have hb' : f_X12_best_63 (nI g) x2 (f_X12_best_17 (nI g) x2 n) M' (nI b) (e9 w) (nI j) = zbi (zbv (zbv (f_X12_layAside M') (fun M7 => zbv (op M7 (nI j)) (fun M => f_X12_fills M 29))) (fun M => f_X12_whenAside M (nI g))) (fun r5 M6 => if (nI b) ≤ r5 then (f_X12_best_120 (nI g) x2 (f_X12_best_17 (nI g) x2 n) M6 (nI b) (nI j) r5 (e9 w)) else (f_X12_best_120 (nI g) x2 (f_X12_best_17 (nI g) x2 n) M6 (nI b) (nI j) r5 (nI j))) := by
            rw [f_X12_best_63, zbv_zbv, zbi_zbv]
            congr 1
            funext M7
            rw [hop, zbv_zbv, zbi_zbv]
            congr 1
            funext M8
            rw [zbi_zbv]
            rfl
          rw [hb', e, zbi_s]
          by_cases hlt : v j < b
          · rw [if_neg (nI_ge hlt (by omega)), if_pos ⟨hus, hlt⟩, f_X12_best_120, if_neg (nI_ge hlt (by omega)), f_X12_best_134, nI_1]
            exact ih (j + 1) n M2 (v j) (some j) (by omega) (by omega) f2 (by omega)
          · rw [if_pos (nI_le (by omega) (by omega)), if_neg (fun q => hlt q.2), f_X12_best_120, if_pos (nI_le (by omega) (by omega)), f_X12_best_134, nI_1]
            exact ih (j + 1) n M2 b w (by omega) (by omega) f2 hb
        by_cases hx2 : x2 = 0
        · have ra := r0_aheadOf X' (show j < 9 by omega)
          rw [h28] at ra
          rw [if_pos hx2, ra, zbi_s]
          have hl := cN_le (fun k => decide ((M.1 28 (20 + k) = 0 ∧ M.1 28 (11 + k) = M.1 28 (11 + j)) ∧ M.1 28 (38 + k) < M.1 28 (38 + j))) G
          have hn' := aAhead_n (fun g => M.1 28 (11 + g)) (fun g => M.1 28 (20 + g)) (fun g => M.1 28 (38 + g)) j G
          by_cases hz : aAhead (fun g => M.1 28 (11 + g)) (fun g => M.1 28 (20 + g)) (fun g => M.1 28 (38 + g)) j G = 0
          · rw [hz, if_pos (Int32.le_refl _), nI_1, if_neg (fun q => ((hu j (by omega)).mp q.1).2.2 hx2 hz)]
            exact ih (j + 1) n M' b w (by omega) (by omega) hM hb
          · have hz2 : ¬ aAhead (fun g => M.1 28 (11 + g)) (fun g => M.1 28 (20 + g)) (fun g => M.1 28 (38 + g)) j G ≤ 0 := by
              rw [hn'] at hz ⊢
              refine nI_nle (Nat.pos_of_ne_zero (fun q => hz ?_)) (Nat.lt_of_le_of_lt hl (by omega))
              rw [q, nI_0]
            rw [if_neg hz2]
            exact go ((hu j (by omega)).mpr ⟨hjg, hw, fun _ => hz⟩)
        · rw [if_neg hx2]
          exact go ((hu j (by omega)).mpr ⟨hjg, hw, fun q => absurd q hx2⟩)
      · rw [if_neg hw, if_neg (fun q => hw ((hu j (by omega)).mp q.1).2.1), nI_1]
        exact ih (j + 1) n M' b w (by omega) (by omega) hM hb
