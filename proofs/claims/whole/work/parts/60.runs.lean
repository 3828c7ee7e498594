/-! the runs, on both sides -/
theorem zs_self (M : zM) (k j : Nat) : zs M k j (M.1 k j) = M := by
  unfold zs
  rw [upd_id rfl, zr_self]
theorem zwp_all (M : zM) (c : Nat) : zwp (zs M c 1 (M.1 c 1)) c (M.1 (c + 3), M.1 (c + 4)) = M := by
  rw [zs_self, zwp_self]
theorem zrw_all (M : zM) (t : Nat) : zrw (zs M t 1 (M.1 t 1)) t (fun g => M.1 t (20 + g), fun g => M.1 t (29 + g)) = M := by
  rw [zs_self, zrw_self]
theorem aStick_le (T : aS → aS) (st : aS → Bool) : ∀ k s n, n + k = 61 → aStick T st k s n ≤ 61 := by
  intro k
  induction k with
  | zero => intro s n _; exact Nat.le_refl _
  | succ k ih =>
    intro s n h
    rw [aStick]
    by_cases h2 : st s = true
    · rw [if_pos h2]; omega
    · rw [if_neg h2]; exact ih _ _ (by omega)
theorem aAll_le (T : aS → aS) (st ou : aS → Bool) : ∀ k s n, n + k = 61 → aAll T st ou k s n ≤ 61 := by
  intro k
  induction k with
  | zero => intro s n _; exact Nat.le_refl _
  | succ k ih =>
    intro s n h
    rw [aAll]
    by_cases h1 : ou s = true
    · rw [if_pos h1]; omega
    · rw [if_neg h1]
      by_cases h2 : st s = true
      · rw [if_pos h2]; exact Nat.le_refl _
      · rw [if_neg h2]; exact ih _ _ (by omega)
theorem c_orNone {M : zM} {x : Nat} (h : x ≤ 61) : f_X11_orNone M (nI x) = some (e61 x, M) := by
  show f_X11_orNone_0 _ M = _
  rw [f_X11_orNone_0, e61]
  by_cases hx : x = 61
  · subst hx
    rw [if_neg (by decide), if_pos rfl]
  · rw [if_pos (show nI x ≤ (60 : Int32) from nI_le (b := 60) (by omega) (by omega)), if_neg hx]
/-- the class's step of a moment -/
def cT (M : zM) (c G : Nat) (s : aS) : aS := (aTurn G (M.1 (c + 1)) (M.1 (c + 2)) (M.1 (c + 5)) (M.1 4) (M.1 5) (M.1 3 0) (M.1 3 1) (M.1 3 2) s).2
def cS (M : zM) (c G : Nat) (s : aS) : Bool := aSt G (M.1 (c + 1)) (M.1 5) (M.1 3 2) s.1
def aQ (G : Nat) (si tu sa : Nat → Int32) (s s' : aS) : Prop := aSi G s s' ∧ aOr G si s.1 tu sa
theorem aQ_step {M1 M2 : zM} {n R W H S G K : Nat} (P : wP M1 R W H S) (hq : ∀ q, q < 28 → M2.1 q = M1.1 q) (X : wMo n R S G K (fun i => M1.1 (43 + i)) (M2.1 29)) {s s' : aS} (h : aQ G (M1.1 45) (M1.1 48) (fun g => M2.1 29 (38 + g)) s s') : cS M1 43 G s = rS M2 29 G s' ∧ aQ G (M1.1 45) (M1.1 48) (fun g => M2.1 29 (38 + g)) (cT M1 43 G s) (rT M2 29 G s') := by
  obtain ⟨h1, h2⟩ := h
  have E := X.ev P
  obtain ⟨_, ⟨c0, c1, c2, _⟩, ⟨d0, d1, d2, _⟩, _⟩ := id P
  have e26 := hq 26 (by omega)
  have e27 := hq 27 (by omega)
  have e25 := hq 25 (by omega)
  refine ⟨?_, ?_⟩
  · unfold cS rS
    rw [e27, e25, d2, c2]
    exact aSt_rel E (nI H) (fun g hg => (h1 g hg).1)
  · unfold cT rT
    rw [e26, e27, e25, d0, d1, d2, c0, c1, c2]
    exact ⟨(aTurn_rel E (nI R) (nI W) (nI H) h1 h2).2, aOr_mono h2 (fun g _ hz => aTurn_zero s g hz)⟩
theorem run_when {M1 M2 : zM} {n R W H S G K g : Nat} (P : wP M1 R W H S) (hq : ∀ q, q < 28 → M2.1 q = M1.1 q) (X : wMo n R S G K (fun i => M1.1 (43 + i)) (M2.1 29)) (hg : g < G) : ∃ (x : Nat) (v1 : Int32) (s1 : aS) (v2 : Int32) (s2 : aS), x ≤ 61 ∧ x = aWhen (cT M1 43 G) (cS M1 43 G) g 61 (M1.1 46, M1.1 47) 0 ∧ f_X5_runUntilThrough M1 43 (nI g) = some (nI x, zwp (zs M1 43 1 v1) 43 s1) ∧ f_X12_whenAside M2 (nI g) = some (nI x, zrw (zs M2 29 1 v2) 29 s2) := by
  have P2 : wP M2 R W H S := wP_tr P (hq _ (by omega)) (hq _ (by omega)) (hq _ (by omega)) (hq _ (by omega)) (hq _ (by omega)) (fun j _ => by rw [hq _ (by omega)])
  have h9 := X.1.1
  obtain ⟨v1, s1, c⟩ := c_through (X.cx P (by omega)) hg 61 0 zFU (M1.1 43 1) (M1.1 46, M1.1 47) (by omega) (zFU_gt (by omega))
  rw [zwp_all M1 43, nI_0] at c
  obtain ⟨v2, s2, r⟩ := r_when (X.rx P2 (by omega)) P2.2.2.1.1 (by have := P.1; omega) (by have := P.1; omega) (show g < 9 by omega) 61 0 zFU (M2.1 29 1) (fun g => M2.1 29 (20 + g), fun g => M2.1 29 (29 + g)) (by omega) (zFU_gt (by omega)) X.bdr
  rw [zrw_all M2 29, nI_0] at r
  have e := aWhen_gen (T := cT M1 43 G) (T' := rT M2 29 G) (st := cS M1 43 G) (st' := rS M2 29 G) (g := g) (aQ G (M1.1 45) (M1.1 48) (fun g => M2.1 29 (38 + g))) (fun s s' q => (q.1 g hg).1) (fun s s' q => (aQ_step P hq X q).1) (fun s s' q => (aQ_step P hq X q).2) 61 (M1.1 46, M1.1 47) (fun g => M2.1 29 (20 + g), fun g => M2.1 29 (29 + g)) 0 ⟨X.si, X.or⟩
  refine ⟨_, v1, s1, v2, s2, aWhen_le _ _ _ 61 _ 0 (by omega), rfl, c, ?_⟩
  rw [e]
  exact r
theorem run_sticks {M1 M2 : zM} {n R W H S G K : Nat} (P : wP M1 R W H S) (hq : ∀ q, q < 28 → M2.1 q = M1.1 q) (X : wMo n R S G K (fun i => M1.1 (43 + i)) (M2.1 29)) : ∃ (x : Nat) (v1 : Int32) (s1 : aS) (v2 : Int32) (s2 : aS), x ≤ 61 ∧ f_X5_runUntilItSticks M1 43 = some (nI x, zwp (zs M1 43 1 v1) 43 s1) ∧ f_X12_sticksFirst_6 zFU M2 0 = some (e61 x, zrw (zs M2 29 1 v2) 29 s2) := by
  have P2 : wP M2 R W H S := wP_tr P (hq _ (by omega)) (hq _ (by omega)) (hq _ (by omega)) (hq _ (by omega)) (hq _ (by omega)) (fun j _ => by rw [hq _ (by omega)])
  obtain ⟨v1, s1, c⟩ := c_itSticks (X.cx P (by omega)) 61 0 zFU (M1.1 43 1) (M1.1 46, M1.1 47) (by omega) (zFU_gt (by omega))
  rw [zwp_all M1 43, nI_0] at c
  obtain ⟨v2, s2, r⟩ := r_sticksF (X.rx P2 (by omega)) P2.2.2.1.1 (by have := P.1; omega) (by have := P.1; omega) 61 0 zFU (M2.1 29 1) (fun g => M2.1 29 (20 + g), fun g => M2.1 29 (29 + g)) (by omega) (zFU_gt (by omega)) X.bdr
  rw [zrw_all M2 29, nI_0] at r
  have e := aStick_gen (T := cT M1 43 G) (T' := rT M2 29 G) (st := cS M1 43 G) (st' := rS M2 29 G) (aQ G (M1.1 45) (M1.1 48) (fun g => M2.1 29 (38 + g))) (fun s s' q => (aQ_step P hq X q).1) (fun s s' q => (aQ_step P hq X q).2) 61 (M1.1 46, M1.1 47) (fun g => M2.1 29 (20 + g), fun g => M2.1 29 (29 + g)) 0 ⟨X.si, X.or⟩
  refine ⟨_, v1, s1, v2, s2, aStick_le _ _ 61 _ 0 (by omega), c, ?_⟩
  rw [← e] at r
  exact r
theorem run_all {M1 M2 : zM} {n R W H S G K : Nat} (P : wP M1 R W H S) (hq : ∀ q, q < 28 → M2.1 q = M1.1 q) (X : wMo n R S G K (fun i => M1.1 (43 + i)) (M2.1 29)) : ∃ (x : Nat) (v1 : Int32) (s1 : aS) (v2 : Int32) (s2 : aS), x ≤ 61 ∧ f_X5_runUntilEmpty M1 43 = some (nI x, zwp (zs M1 43 1 v1) 43 s1) ∧ f_X12_allOut_6 zFU M2 0 = some (e61 x, zrw (zs M2 29 1 v2) 29 s2) := by
  have P2 : wP M2 R W H S := wP_tr P (hq _ (by omega)) (hq _ (by omega)) (hq _ (by omega)) (hq _ (by omega)) (hq _ (by omega)) (fun j _ => by rw [hq _ (by omega)])
  obtain ⟨v1, s1, c⟩ := c_empty (X.cx P (by omega)) 61 0 zFU (M1.1 43 1) (M1.1 46, M1.1 47) (by omega) (zFU_gt (by omega))
  rw [zwp_all M1 43, nI_0] at c
  obtain ⟨v2, s2, r⟩ := r_allO (X.rx P2 (by omega)) P2.2.2.1.1 (by have := P.1; omega) (by have := P.1; omega) 61 0 zFU (M2.1 29 1) (fun g => M2.1 29 (20 + g), fun g => M2.1 29 (29 + g)) (by omega) (zFU_gt (by omega)) X.bdr
  rw [zrw_all M2 29, nI_0] at r
  have e := aAll_gen (T := cT M1 43 G) (T' := rT M2 29 G) (st := cS M1 43 G) (st' := rS M2 29 G) (ou := fun s => aOut G s.1) (ou' := fun s => aOut G s.1) (aQ G (M1.1 45) (M1.1 48) (fun g => M2.1 29 (38 + g))) (fun s s' q => by show aOut G s.1 = aOut G s'.1; unfold aOut; rw [aWho_rel (fun g hg => (q.1 g hg).1), aWho_rel (w := 1) (fun g hg => (q.1 g hg).1)]) (fun s s' q => (aQ_step P hq X q).1) (fun s s' q => (aQ_step P hq X q).2) 61 (M1.1 46, M1.1 47) (fun g => M2.1 29 (20 + g), fun g => M2.1 29 (29 + g)) 0 ⟨X.si, X.or⟩
  refine ⟨_, v1, s1, v2, s2, aAll_le _ _ _ 61 _ 0 (by omega), c, ?_⟩
  rw [← e] at r
  exact r
/-- a copy laid aside on both sides -/
theorem r_copiesE {M : zM} {p0 n0 p2 n2 i j m : Nat} {x1 x3 x4 : Int32} (e1 : x1 = nI i) (e3 : x3 = nI j) (e4 : x4 = nI m) (hp : p0 ≠ p2) (h0 : i + m ≤ n0) (h2 : j + m ≤ n2) (hn0 : n0 < 2 ^ 20) (hn2 : n2 < 2 ^ 20) (hm : m ≤ 1000) : f_X12_copies M p0 n0 x1 p2 n2 x3 x4 = some (zr M p2 (va_cpy (M.1 p0) (M.1 p2) i j m)) := by
  subst e1 e3 e4
  exact r_copies hp h0 h2 hn0 hn2 hm
theorem r_aside (M : zM) : ∃ M3, f_X12_layAside M = some M3 ∧ (∀ q, q ≠ 29 → M3.1 q = M.1 q) ∧ M3.2 = M.2 ∧ ∀ j, j < 47 → M3.1 29 j = M.1 28 j := by
  refine ⟨zr M 29 (va_cpy (M.1 28) (M.1 29) 0 0 47), ?_, fun q hq => zr_ne hq, rfl, fun j hj => ?_⟩
  · show f_X12_layAside_0 M = _
    rw [f_X12_layAside_0, r_copiesE (M := M) (p0 := 28) (n0 := 47) (p2 := 29) (n2 := 47) (i := 0) (j := 0) (m := 47) (x1 := 0) (x3 := 0) (x4 := 47) rfl rfl rfl (by decide) (by decide) (by decide) (by decide) (by decide) (by decide), zbv_s]
  · rw [zr_row]
    exact (pk_cpy_in (Nat.zero_le _) (by omega)).trans (by rw [Nat.sub_zero, Nat.zero_add])
theorem p_lay {M : zM} {n R S G K : Nat} (X : wMo n R S G K (fun i => M.1 (37 + i)) (M.1 28)) : ∃ M1, f_X5_copy M 43 37 = some M1 ∧ (∀ q, ¬ (43 ≤ q ∧ q < 49) → M1.1 q = M.1 q) ∧ M1.2 = M.2 ∧ ∀ M2 : zM, M2.1 28 = M.1 28 → ∃ M3, f_X12_layAside M2 = some M3 ∧ (∀ q, q ≠ 29 → M3.1 q = M2.1 q) ∧ M3.2 = M2.2 ∧ wMo n R S G K (fun i => M1.1 (43 + i)) (M3.1 29) := by
  obtain ⟨M1, c1, c2, c3, c4, c5, c6⟩ := c_copy (M := M) (c := 43) (p := 37) (Or.inr (by omega))
  refine ⟨M1, c1, fun q hq => c2 q (by omega), c3, fun M2 h28 => ?_⟩
  obtain ⟨M3, d1, d2, d3, d4⟩ := r_aside M2
  refine ⟨M3, d1, d2, d3, wMo_tr X c4 c5 (fun i j h1 h5 hj => c6 i j h1 h5 hj) (fun j hj => ?_)⟩
  rw [d4 j hj, h28]
/-- what a run leaves -/
theorem wI_run {n : Nat} {M M2 : zM} (X : wI n M) (h : ∀ q, q ≠ 29 → ¬ (43 ≤ q ∧ q < 49) → M2.1 q = M.1 q) (hL : M2.2 = M.2) : wI n M2 := wI_tr X (fun q hq _ _ => h q (fun e => hq (by unfold wLo; omega)) (fun e => hq (by unfold wLo; omega))) (by rw [h 1 (by omega) (by omega)]) (fun j _ => by rw [h 25 (by omega) (by omega)]) (fun q _ => by rw [hL])
theorem zwp_st_ne {M : zM} {c : Nat} {v : Int32} {s : aS} {q : Nat} (h : ¬ (c ≤ q ∧ q < c + 6)) : (zwp (zs M c 1 v) c s).1 q = M.1 q := by
  rw [zwp_q (by omega) (by omega), zs_ne (by omega)]
theorem zrw_st_ne {M : zM} {t : Nat} {v : Int32} {s : aS} {q : Nat} (h : q ≠ t) : (zrw (zs M t 1 v) t s).1 q = M.1 q := by
  rw [zrw_q h, zs_ne h]
theorem p_when {n R W H S G K g : Nat} {M : zM} (X : wI n M) (P : wP M R W H S) (Y : wMo n R S G K (fun i => M.1 (37 + i)) (M.1 28)) (hg : g < G) : wOp n M (fun M => zbi (f_X11_whenNow M (nI g)) (fun r23 M24 => zbi (f_X11_orNone M24 r23) (fun r26 M27 => some (r26, M27)))) (fun M => f_X12_when M (nI g)) := by
  obtain ⟨M1, c1, c2, c3, c4⟩ := p_lay Y
  obtain ⟨M3', d1', d2', d3', Y1'⟩ := c4 M1 (c2 28 (by omega))
  have P1 : wP M1 R W H S := wP_tr P (c2 _ (by omega)) (c2 _ (by omega)) (c2 _ (by omega)) (c2 _ (by omega)) (c2 _ (by omega)) (fun j _ => by rw [c2 _ (by omega)])
  obtain ⟨x, v1, s1, _, _, hx, hxe, hc, _⟩ := run_when P1 (fun q h => d2' q (by omega)) Y1' hg
  obtain ⟨M3, d1, d2, d3, Y1⟩ := c4 (zwp (zs M1 43 1 v1) 43 s1) (by rw [zwp_st_ne (by omega)]; exact c2 28 (by omega))
  obtain ⟨x2, _, _, v2, s2, hx2, hxe2, _, hr⟩ := run_when P1 (fun q h => by rw [d2 q (by omega), zwp_st_ne (by omega)]) Y1 hg
  obtain rfl : x2 = x := hxe2.trans hxe.symm
  refine ⟨e61 x2, zwp (zs M1 43 1 v1) 43 s1, zrw (zs M3 29 1 v2) 29 s2, ?_, ?_, wI_run (wI_mono (Nat.le_succ _) X) (fun q h29 h43 => ?_) ?_⟩
  · show zbi (f_X11_whenNow_0 (nI g) M) _ = _
    rw [f_X11_whenNow_0, c1, zbv_s, hc, zbi_s, zbi_s, c_orNone hx, zbi_s]
  · show f_X12_when_0 (nI g) _ = _
    rw [f_X12_when_0, d1, zbv_s, hr, zbi_s, e61]
    by_cases h61 : x2 = 61
    · subst h61
      rw [if_pos (by rfl), if_pos rfl]
    · rw [if_neg (show ¬ nI x2 = (61 : Int32) from fun q => h61 ((nI_eq (b := 61) (by omega) (by omega)).mp q)), if_neg h61]
  · rw [zrw_st_ne h29, d2 q h29, zwp_st_ne (by omega), c2 q (by omega)]
  · rw [zrw_2, zs2, d3, zwp_2, zs2, c3]
theorem p_sticks {n R W H S G K : Nat} {M : zM} (X : wI n M) (P : wP M R W H S) (Y : wMo n R S G K (fun i => M.1 (37 + i)) (M.1 28)) : wOp n M (fun M => zbi (f_X11_sticksNow M) (fun r20 M21 => zbi (f_X11_orNone M21 r20) (fun r23 M24 => some (r23, M24)))) (fun M => zbi (f_X12_sticksFirst M) (fun r21 M22 => some (r21, M22))) := by
  obtain ⟨M1, c1, c2, c3, c4⟩ := p_lay Y
  obtain ⟨M3', d1', d2', d3', Y1'⟩ := c4 M1 (c2 28 (by omega))
  have P1 : wP M1 R W H S := wP_tr P (c2 _ (by omega)) (c2 _ (by omega)) (c2 _ (by omega)) (c2 _ (by omega)) (c2 _ (by omega)) (fun j _ => by rw [c2 _ (by omega)])
  obtain ⟨x, v1, s1, _, _, hx, hc, _⟩ := run_sticks P1 (fun q h => d2' q (by omega)) Y1'
  obtain ⟨M3, d1, d2, d3, Y1⟩ := c4 (zwp (zs M1 43 1 v1) 43 s1) (by rw [zwp_st_ne (by omega)]; exact c2 28 (by omega))
  obtain ⟨x2, v1', s1', v2, s2, hx2, hc2, hr⟩ := run_sticks P1 (fun q h => by rw [d2 q (by omega), zwp_st_ne (by omega)]) Y1
  have hxx : nI x2 = nI x := by
    rw [hc] at hc2
    exact (congrArg Prod.fst (Option.some.inj hc2)).symm
  obtain rfl : x2 = x := (nI_eq (by omega) (by omega)).mp hxx
  refine ⟨e61 x2, zwp (zs M1 43 1 v1) 43 s1, zrw (zs M3 29 1 v2) 29 s2, ?_, ?_, wI_run (wI_mono (Nat.le_succ _) X) (fun q h29 h43 => ?_) ?_⟩
  · show zbi (f_X11_sticksNow_0 M) _ = _
    rw [f_X11_sticksNow_0, c1, zbv_s, hc, zbi_s, zbi_s, c_orNone hx, zbi_s]
  · show zbi (f_X12_sticksFirst_0 _) _ = _
    rw [f_X12_sticksFirst_0, d1, zbv_s, hr, zbi_s]
  · rw [zrw_st_ne h29, d2 q h29, zwp_st_ne (by omega), c2 q (by omega)]
  · rw [zrw_2, zs2, d3, zwp_2, zs2, c3]
theorem p_all {n R W H S G K : Nat} {M : zM} (X : wI n M) (P : wP M R W H S) (Y : wMo n R S G K (fun i => M.1 (37 + i)) (M.1 28)) : wOp n M (fun M => zbi (f_X11_allNow M) (fun r20 M21 => zbi (f_X11_orNone M21 r20) (fun r23 M24 => some (r23, M24)))) (fun M => zbi (f_X12_allOut M) (fun r21 M22 => some (r21, M22))) := by
  obtain ⟨M1, c1, c2, c3, c4⟩ := p_lay Y
  obtain ⟨M3', d1', d2', d3', Y1'⟩ := c4 M1 (c2 28 (by omega))
  have P1 : wP M1 R W H S := wP_tr P (c2 _ (by omega)) (c2 _ (by omega)) (c2 _ (by omega)) (c2 _ (by omega)) (c2 _ (by omega)) (fun j _ => by rw [c2 _ (by omega)])
  obtain ⟨x, v1, s1, _, _, hx, hc, _⟩ := run_all P1 (fun q h => d2' q (by omega)) Y1'
  obtain ⟨M3, d1, d2, d3, Y1⟩ := c4 (zwp (zs M1 43 1 v1) 43 s1) (by rw [zwp_st_ne (by omega)]; exact c2 28 (by omega))
  obtain ⟨x2, v1', s1', v2, s2, hx2, hc2, hr⟩ := run_all P1 (fun q h => by rw [d2 q (by omega), zwp_st_ne (by omega)]) Y1
  have hxx : nI x2 = nI x := by
    rw [hc] at hc2
    exact (congrArg Prod.fst (Option.some.inj hc2)).symm
  obtain rfl : x2 = x := (nI_eq (by omega) (by omega)).mp hxx
  refine ⟨e61 x2, zwp (zs M1 43 1 v1) 43 s1, zrw (zs M3 29 1 v2) 29 s2, ?_, ?_, wI_run (wI_mono (Nat.le_succ _) X) (fun q h29 h43 => ?_) ?_⟩
  · show zbi (f_X11_allNow_0 M) _ = _
    rw [f_X11_allNow_0, c1, zbv_s, hc, zbi_s, zbi_s, c_orNone hx, zbi_s]
  · show zbi (f_X12_allOut_0 _) _ = _
    rw [f_X12_allOut_0, d1, zbv_s, hr, zbi_s]
  · rw [zrw_st_ne h29, d2 q h29, zwp_st_ne (by omega), c2 q (by omega)]
  · rw [zrw_2, zs2, d3, zwp_2, zs2, c3]
