/-! the reference's step, its runs, its copies; the class's copy -/
theorem cl1 : (1 : Int32).toNatClampNeg = 1 := by decide
theorem upd_id {f : Nat → Int32} {j : Nat} {v : Int32} (h : f j = v) : upd f j v = f := by
  funext i
  by_cases hi : i = j
  · subst hi
    rw [upd_s, h]
  · rw [upd_n hi]
theorem aCar_bd {G R : Nat} {si : Nat → Int32} {hp : Int32} (hR : R < 2 ^ 30) {a : Int32 × aS} {n : Nat} (hn : n < G) (ih : aBd G R a.2) : aBd G R (aCar si (nI R) hp n a).2 := by
  unfold aCar
  by_cases h1 : a.2.1 n = 1
  · rw [if_pos h1]
    obtain ⟨q, hq, e⟩ := ih n hn h1
    rw [e, aNx_n hq hR]
    by_cases h2 : nI ((q + 1) % R) = aTo hp (si n)
    · rw [if_pos h2]
      intro g hg hg1
      have hg1 : upd a.2.1 n 2 g = 1 := hg1
      show ∃ x, x < R ∧ upd a.2.2 n _ g = nI x
      by_cases hgn : g = n
      · subst hgn
        rw [upd_s] at hg1
        exact absurd hg1 (by decide)
      · rw [upd_n hgn] at hg1
        rw [upd_n hgn]
        exact ih g hg hg1
    · rw [if_neg h2]
      intro g hg hg1
      show ∃ x, x < R ∧ upd a.2.2 n _ g = nI x
      by_cases hgn : g = n
      · subst hgn
        rw [upd_s]
        exact ⟨_, Nat.mod_lt _ (by omega), rfl⟩
      · rw [upd_n hgn]
        exact ih g hg hg1
  · rw [if_neg h1]
    exact ih
theorem r_goes116 {M : zM} {t : Nat} (s : aS) (x : Int32) : f_X12_goes_116 t (zrw M t s) x = some (x, zrw (zs M t 1 (M.1 t 1 + 1)) t s) := by
  rw [f_X12_goes_116, zg_t (by decide), zg_t (by decide), cl1, zrw_o (by omega), zrw_st]
theorem r_goes12 {M : zM} {t G S R : Nat} (X : zRx M t G S) (hR : M.1 25 0 = nI R) (hR0 : 0 < R) (hR2 : R ≤ 6) (s : aS) (hb : aBd G R s) : f_X12_goes_12 t zFU (zrw M t s) 0 0 = some ((aGo G (fun g => M.1 t (11 + g)) (M.1 25 0) (M.1 25 0 / 2) s).1, zrw (zs M t 1 (M.1 t 1 + 1)) t (aFill G (fun g => M.1 t (2 + g)) (fun g => M.1 t (11 + g)) (fun g => M.1 t (38 + g)) (M.1 26) (M.1 25 1) (M.1 25 0 / 2) (aGo G (fun g => M.1 t (11 + g)) (M.1 25 0) (M.1 25 0 / 2) s).2)) := by
  have h1 := X.1
  have h3 := X.2.2.1
  refine zloop (fun n (q : Int32 × aS) i => f_X12_goes_12 t n (zrw M t q.2) q.1 i) (aCar (fun g => M.1 t (11 + g)) (M.1 25 0) (M.1 25 0 / 2)) (fun _ q => aBd G R q.2) (fun q => some (q.1, zrw (zs M t 1 (M.1 t 1 + 1)) t (aFill G (fun g => M.1 t (2 + g)) (fun g => M.1 t (11 + g)) (fun g => M.1 t (38 + g)) (M.1 26) (M.1 25 1) (M.1 25 0 / 2) q.2))) G (fun n j q hj hi => ⟨?_, by rw [hR]; exact aCar_bd (by omega) hj hi⟩) (fun n q _ => ?_) (a0 := (0, s)) hb (zFU_gt (by omega))
  · show f_X12_goes_12 t (n + 1) (zrw M t q.2) q.1 (nI j) = f_X12_goes_12 t n (zrw M t (aCar (fun g => M.1 t (11 + g)) (M.1 25 0) (M.1 25 0 / 2) j q).2) (aCar (fun g => M.1 t (11 + g)) (M.1 25 0) (M.1 25 0 / 2) j q).1 (nI (j + 1))
    rw [f_X12_goes_12, zg_t (by decide), sb_cl0, (X.wp q.2).2.1, if_neg (nI_ge hj (by omega)), ix20, zg_in (j := 20 + j) (by omega) (by decide), nI_clamp (n := 20 + j) (by omega), zrw_w (by omega)]
    unfold aCar
    by_cases h : q.2.1 j = 1
    · obtain ⟨p, hp, e⟩ := hi j hj h
      rw [if_pos h, if_pos h, ix29, zg_in (j := 29 + j) (by omega) (by decide), nI_clamp (n := 29 + j) (by omega), zrw_q (q := 25) (by omega), zg_t (show znz (M.1 25 0) = true by rw [hR]; exact decide_eq_true (nI_ne0 hR0 (by omega))), zg_in (j := 29 + j) (by omega) (by decide), zrw_p (by omega), zrw_putp (by omega)]
      have ev : (q.2.2 j + 1) - (q.2.2 j + 1) / (M.1 25 0) * (M.1 25 0) = aNx (M.1 25 0) (q.2.2 j) := by
        rw [e, hR, nI_1, pk_rem (by omega) (by omega) (by omega), aNx_n hp (by omega)]
      rw [ev, f_X12_goes_48, ix29, ix11, zg_in (j := 29 + j) (by omega) (by decide), zg_in (j := 11 + j) (by omega) (by decide), nI_clamp (n := 29 + j) (by omega), nI_clamp (n := 11 + j) (by omega), zrw_o (j := 11 + j) (by omega), r_placeOf, zbi_s, zrw_p (by omega), zrw_q (q := 25) (by omega)]
      show (if upd q.2.2 j (aNx (M.1 25 0) (q.2.2 j)) j = aTo (M.1 25 0 / 2) (M.1 t (11 + j)) then _ else _) = _
      rw [upd_s]
      by_cases h2 : aNx (M.1 25 0) (q.2.2 j) = aTo (M.1 25 0 / 2) (M.1 t (11 + j))
      · rw [if_pos h2, if_pos h2, f_X12_goes_74, if_neg (by decide), f_X12_goes_91, ix20, zg_in (j := 20 + j) (by omega) (by decide), nI_clamp (n := 20 + j) (by omega), zrw_putw (by omega), if_neg (by decide), f_X12_goes_103, nI_1]
      · rw [if_neg h2, if_neg h2, f_X12_goes_74, if_pos rfl, f_X12_goes_91, ix20, zg_in (j := 20 + j) (by omega) (by decide), nI_clamp (n := 20 + j) (by omega), zrw_putw (by omega), if_pos rfl, f_X12_goes_103, nI_1, Int32.add_zero]
        show f_X12_goes_12 t n (zrw M t (upd q.2.1 j 1, _)) _ _ = _
        rw [upd_id h]
    · rw [if_neg h, if_neg h, nI_1]
  · show f_X12_goes_12 t (n + 1) (zrw M t q.2) q.1 (nI G) = _
    rw [f_X12_goes_12, zg_t (by decide), sb_cl0, (X.wp q.2).2.1, if_pos (Int32.le_refl _), r_fills X, zbv_s, r_goes116]
theorem r_goes {M : zM} {t G S R : Nat} (X : zRx M t G S) (hR : M.1 25 0 = nI R) (hR0 : 0 < R) (hR2 : R ≤ 6) (s : aS) (hb : aBd G R s) : f_X12_goes (zrw M t s) t = some ((aTurn G (fun g => M.1 t (2 + g)) (fun g => M.1 t (11 + g)) (fun g => M.1 t (38 + g)) (M.1 26) (M.1 27) (M.1 25 0) (M.1 25 1) (M.1 25 2) s).1, zrw (zs M t 1 (M.1 t 1 + 1)) t (aTurn G (fun g => M.1 t (2 + g)) (fun g => M.1 t (11 + g)) (fun g => M.1 t (38 + g)) (M.1 26) (M.1 27) (M.1 25 0) (M.1 25 1) (M.1 25 2) s).2) := by
  show f_X12_goes_0 t (zrw M t s) = _
  rw [f_X12_goes_0, r_sticksOn X, zbi_s]
  unfold aTurn
  by_cases h : aSt G (fun g => M.1 t (2 + g)) (M.1 27) (M.1 25 2) s.1 = true
  · rw [if_pos h, if_pos h, if_neg (by decide), r_goes116]
  · rw [if_neg h, if_neg h, if_pos rfl, r_goes12 X hR hR0 hR2 s hb]
/-- the row laid aside, run on -/
theorem aWhen_stuck {T : aS → aS} {st : aS → Bool} {g : Nat} {s : aS} (h : st s = true) (h2 : ¬ s.1 g = 2) : ∀ k n, aWhen T st g k s n = 61 := by
  intro k n
  cases k with
  | zero => rfl
  | succ k => rw [aWhen, if_neg h2, if_pos h]
theorem aAll_stuck {T : aS → aS} {st ou : aS → Bool} {s : aS} (h : st s = true) (h2 : ¬ ou s = true) : ∀ k n, aAll T st ou k s n = 61 := by
  intro k n
  cases k with
  | zero => rfl
  | succ k => rw [aAll, if_neg h2, if_pos h]
def rT (M : zM) (t G : Nat) (s : aS) : aS := (aTurn G (fun g => M.1 t (2 + g)) (fun g => M.1 t (11 + g)) (fun g => M.1 t (38 + g)) (M.1 26) (M.1 27) (M.1 25 0) (M.1 25 1) (M.1 25 2) s).2
def rS (M : zM) (t G : Nat) (s : aS) : Bool := aSt G (fun g => M.1 t (2 + g)) (M.1 27) (M.1 25 2) s.1
theorem rT_bd {M : zM} {t G R : Nat} (hR : M.1 25 0 = nI R) (hR0 : 0 < R) (hR2 : R ≤ 6) {s : aS} (hb : aBd G R s) : aBd G R (rT M t G s) := by
  unfold rT
  rw [hR]
  exact aTurn_bd hR0 (by omega) hb
theorem rT_st {M : zM} {t G : Nat} (h1 : 28 ≤ t) (v : Int32) (s : aS) : rT (zs M t 1 v) t G s = rT M t G s := by
  unfold rT
  rw [zs_ne (q := 26) (by omega), zs_ne (q := 27) (by omega), zs_ne (q := 25) (by omega)]
  have e : ∀ k, 2 ≤ k → (zs M t 1 v).1 t k = M.1 t k := fun k hk => by rw [zs_row, upd_n (by omega)]
  rw [show (fun g => (zs M t 1 v).1 t (2 + g)) = fun g => M.1 t (2 + g) from funext fun g => e _ (by omega), show (fun g => (zs M t 1 v).1 t (11 + g)) = fun g => M.1 t (11 + g) from funext fun g => e _ (by omega), show (fun g => (zs M t 1 v).1 t (38 + g)) = fun g => M.1 t (38 + g) from funext fun g => e _ (by omega)]
theorem r_goT {M : zM} {t G S R : Nat} (X : zRx M t G S) (hR : M.1 25 0 = nI R) (hR0 : 0 < R) (hR2 : R ≤ 6) (v : Int32) (s : aS) (hb : aBd G R s) : ∃ x v', f_X12_goes (zrw (zs M t 1 v) t s) t = some (x, zrw (zs M t 1 v') t (rT M t G s)) := by
  have h1 := X.1
  have := r_goes (X.st v) (by rw [zs_ne (by omega)]; exact hR) hR0 hR2 s hb
  rw [zs_zs] at this
  have e : (aTurn G (fun g => (zs M t 1 v).1 t (2 + g)) (fun g => (zs M t 1 v).1 t (11 + g)) (fun g => (zs M t 1 v).1 t (38 + g)) ((zs M t 1 v).1 26) ((zs M t 1 v).1 27) ((zs M t 1 v).1 25 0) ((zs M t 1 v).1 25 1) ((zs M t 1 v).1 25 2) s).2 = rT M t G s := rT_st h1 v s
  rw [e] at this
  exact ⟨_, _, this⟩
theorem r_when {M : zM} {G S R g : Nat} (X : zRx M 29 G S) (hR : M.1 25 0 = nI R) (hR0 : 0 < R) (hR2 : R ≤ 6) (hg : g < 9) : ∀ (k n m : Nat) (v : Int32) (s : aS), n + k = 61 → k < m → aBd G R s → ∃ (v' : Int32) (s' : aS), f_X12_whenAside_2 (nI g) m (zrw (zs M 29 1 v) 29 s) (nI n) = some (nI (aWhen (rT M 29 G) (rS M 29 G) g k s n), zrw (zs M 29 1 v') 29 s') := by
  intro k
  induction k with
  | zero =>
    intro n m v s hn hm hb
    obtain ⟨m, rfl⟩ : ∃ q, m = q + 1 := ⟨m - 1, by omega⟩
    obtain rfl : n = 61 := by omega
    refine ⟨v, s, ?_⟩
    rw [f_X12_whenAside_2, if_pos (by decide), aWhen]
    rfl
  | succ k ih =>
    intro n m v s hn hm hb
    obtain ⟨m, rfl⟩ : ∃ q, m = q + 1 := ⟨m - 1, by omega⟩
    rw [f_X12_whenAside_2, if_neg (show ¬ (61 : Int32) ≤ nI n from by rw [nI_lit 61]; exact nI_ge (by omega) (by omega)), ix20, zg_in (by omega) (by decide), nI_clamp (by omega), zrw_w (by omega), aWhen]
    by_cases h2 : s.1 g = 2
    · exact ⟨v, s, by rw [if_pos h2, if_pos h2]⟩
    · rw [if_neg h2, if_neg h2]
      obtain ⟨x, v1, e⟩ := r_goT X hR hR0 hR2 v s hb
      rw [e, zbi_s, nI_1]
      obtain ⟨v2, s2, e2⟩ := ih (n + 1) m v1 _ (by omega) (by omega) (rT_bd hR hR0 hR2 hb)
      refine ⟨v2, s2, e2.trans ?_⟩
      by_cases h4 : rS M 29 G s = true
      · rw [if_pos h4]
        have e3 : rT M 29 G s = s := by unfold rT; rw [aTurn_stuck h4]
        rw [e3, aWhen_stuck h4 h2]
      · rw [if_neg h4]
def e61 (x : Nat) : Int32 := if x = 61 then -9 else nI x
theorem r_sticksF {M : zM} {G S R : Nat} (X : zRx M 29 G S) (hR : M.1 25 0 = nI R) (hR0 : 0 < R) (hR2 : R ≤ 6) : ∀ (k n m : Nat) (v : Int32) (s : aS), n + k = 61 → k < m → aBd G R s → ∃ (v' : Int32) (s' : aS), f_X12_sticksFirst_6 m (zrw (zs M 29 1 v) 29 s) (nI n) = some (e61 (aStick (rT M 29 G) (rS M 29 G) k s n), zrw (zs M 29 1 v') 29 s') := by
  intro k
  induction k with
  | zero =>
    intro n m v s hn hm hb
    obtain ⟨m, rfl⟩ : ∃ q, m = q + 1 := ⟨m - 1, by omega⟩
    obtain rfl : n = 61 := by omega
    refine ⟨v, s, ?_⟩
    rw [f_X12_sticksFirst_6, if_pos (by decide), aStick]
    rfl
  | succ k ih =>
    intro n m v s hn hm hb
    obtain ⟨m, rfl⟩ : ∃ q, m = q + 1 := ⟨m - 1, by omega⟩
    have hs := r_sticksOn (X.st v) s
    have es : aSt G (fun g => (zs M 29 1 v).1 29 (2 + g)) ((zs M 29 1 v).1 27) ((zs M 29 1 v).1 25 2) s.1 = rS M 29 G s := by
      unfold rS
      rw [zs_ne (q := 27) (by omega), zs_ne (q := 25) (by omega), show (fun g => (zs M 29 1 v).1 29 (2 + g)) = fun g => M.1 29 (2 + g) from funext fun g => by rw [zs_row, upd_n (by omega)]]
    rw [es] at hs
    rw [f_X12_sticksFirst_6, if_neg (show ¬ (61 : Int32) ≤ nI n from by rw [nI_lit 61]; exact nI_ge (by omega) (by omega)), hs, zbi_s, aStick]
    by_cases h4 : rS M 29 G s = true
    · exact ⟨v, s, by rw [if_pos h4, if_pos h4, if_neg (by decide), e61, if_neg (by omega)]⟩
    · rw [if_neg h4, if_neg h4, if_pos rfl]
      obtain ⟨x, v1, e⟩ := r_goT X hR hR0 hR2 v s hb
      rw [e, zbi_s, nI_1]
      exact ih (n + 1) m v1 _ (by omega) (by omega) (rT_bd hR hR0 hR2 hb)
theorem or0 {wh : Nat → Int32} {G : Nat} (h9 : G ≤ 9) : (aWho wh 0 G ||| aWho wh 1 G = 0) ↔ aOut G wh = true := by
  unfold aOut
  rw [who_bits wh 0 h9, who_bits wh 1 h9, fa_or, Bool.and_eq_true, decide_eq_true_iff, decide_eq_true_iff]
  have b1 := bN_512 (fun j => decide (wh j = 0)) h9
  have b2 := bN_512 (fun j => decide (wh j = 1)) h9
  have b3 : bN (fun j => decide (wh j = 0)) G ||| bN (fun j => decide (wh j = 1)) G < 2 ^ 9 := Nat.or_lt_two_pow b1 b2
  generalize bN (fun j => decide (wh j = 0)) G = a at *
  generalize bN (fun j => decide (wh j = 1)) G = b at *
  rw [← nI_0, nI_eq (by omega) (by omega), nI_eq (by omega) (by omega), nI_eq (by omega) (by omega), Nat.or_eq_zero_iff]
theorem r_allO {M : zM} {G S R : Nat} (X : zRx M 29 G S) (hR : M.1 25 0 = nI R) (hR0 : 0 < R) (hR2 : R ≤ 6) : ∀ (k n m : Nat) (v : Int32) (s : aS), n + k = 61 → k < m → aBd G R s → ∃ (v' : Int32) (s' : aS), f_X12_allOut_6 m (zrw (zs M 29 1 v) 29 s) (nI n) = some (e61 (aAll (rT M 29 G) (rS M 29 G) (fun s => aOut G s.1) k s n), zrw (zs M 29 1 v') 29 s') := by
  intro k
  induction k with
  | zero =>
    intro n m v s hn hm hb
    obtain ⟨m, rfl⟩ : ∃ q, m = q + 1 := ⟨m - 1, by omega⟩
    obtain rfl : n = 61 := by omega
    refine ⟨v, s, ?_⟩
    rw [f_X12_allOut_6, if_pos (by decide), aAll]
    rfl
  | succ k ih =>
    intro n m v s hn hm hb
    obtain ⟨m, rfl⟩ : ∃ q, m = q + 1 := ⟨m - 1, by omega⟩
    rw [f_X12_allOut_6, if_neg (show ¬ (61 : Int32) ≤ nI n from by rw [nI_lit 61]; exact nI_ge (by omega) (by omega)), r_those (X.st v), zbi_s, r_those (X.st v), zbi_s, aAll]
    by_cases h2 : aOut G s.1 = true
    · exact ⟨v, s, by rw [if_pos ((or0 X.2.2.1).mpr h2), if_pos h2, e61, if_neg (by omega)]⟩
    · rw [if_neg (fun q => h2 ((or0 X.2.2.1).mp q)), if_neg h2]
      obtain ⟨x, v1, e⟩ := r_goT X hR hR0 hR2 v s hb
      rw [e, zbi_s, nI_1]
      obtain ⟨v2, s2, e2⟩ := ih (n + 1) m v1 _ (by omega) (by omega) (rT_bd hR hR0 hR2 hb)
      refine ⟨v2, s2, e2.trans ?_⟩
      by_cases h4 : rS M 29 G s = true
      · rw [if_pos h4]
        have e3 : rT M 29 G s = s := by unfold rT; rw [aTurn_stuck h4]
        rw [e3, aAll_stuck h4 h2]
      · rw [if_neg h4]
/-- copies -/
theorem r_copies {M : zM} {p0 n0 p2 n2 i j m : Nat} (hp : p0 ≠ p2) (h0 : i + m ≤ n0) (h2 : j + m ≤ n2) (hn0 : n0 < 2 ^ 20) (hn2 : n2 < 2 ^ 20) (hm : m ≤ 1000) : f_X12_copies M p0 n0 (nI i) p2 n2 (nI j) (nI m) = some (zr M p2 (va_cpy (M.1 p0) (M.1 p2) i j m)) := by
  have key : ∀ k q n, q + k = m → k < n → f_X12_copies_3 p0 n0 (nI i) p2 n2 (nI j) (nI m) n (zr M p2 (va_cpy (M.1 p0) (M.1 p2) i j q)) (nI q) = some (zr M p2 (va_cpy (M.1 p0) (M.1 p2) i j m)) := by
    intro k
    induction k with
    | zero =>
      intro q n hq hn
      obtain ⟨n, rfl⟩ : ∃ x, n = x + 1 := ⟨n - 1, by omega⟩
      obtain rfl : q = m := by omega
      rw [f_X12_copies_3, if_pos (Int32.le_refl _)]
    | succ k ih =>
      intro q n hq hn
      obtain ⟨n, rfl⟩ : ∃ x, n = x + 1 := ⟨n - 1, by omega⟩
      rw [f_X12_copies_3, if_neg (nI_ge (by omega) (by omega)), nI_add, nI_add, zg_in (j := i + q) (by omega) (by omega), zg_in (j := j + q) (by omega) (by omega), nI_clamp (n := i + q) (by omega), nI_clamp (n := j + q) (by omega), zr_ne hp, nI_1]
      have e : zs (zr M p2 (va_cpy (M.1 p0) (M.1 p2) i j q)) p2 (j + q) (M.1 p0 (i + q)) = zr M p2 (va_cpy (M.1 p0) (M.1 p2) i j (q + 1)) := by
        unfold zs
        rw [zr_row, zr_zr]
        congr 1
        funext x
        unfold va_cpy upd
        dsimp only
        by_cases hx : x = j + q
        · subst hx
          rw [if_pos rfl, if_pos ⟨by omega, by omega⟩, show j + q - j = q by omega]
        · rw [if_neg hx]
          by_cases hx2 : j ≤ x ∧ x < j + q
          · rw [if_pos hx2, if_pos ⟨by omega, by omega⟩]
          · rw [if_neg hx2, if_neg (by omega)]
      rw [e]
      exact ih (q + 1) n (by omega) (by omega)
  have := key m 0 zFU (by omega) (zFU_gt hm)
  rw [nI_0] at this
  have e0 : zr M p2 (va_cpy (M.1 p0) (M.1 p2) i j 0) = M := by
    have : va_cpy (M.1 p0) (M.1 p2) i j 0 = M.1 p2 := by
      funext x
      unfold va_cpy
      rw [if_neg (by omega)]
    rw [this, zr_self]
  rw [e0] at this
  exact this
/-- one memory is another but for some places -/
def zFr (B : Nat → Prop) (M M' : zM) : Prop := (∀ q, ¬ B q → M'.1 q = M.1 q) ∧ M'.2 = M.2
theorem zcp1 {M : zM} {a0 a : Nat} {j : Nat} (hj : j < 9) : (zcp M a0 a 0 0 9).1 a j = M.1 a0 j := by
  unfold zcp
  rw [zr_row]
  exact (pk_cpy_in (Nat.zero_le _) (by show j < 0 + 9; omega)).trans (by show M.1 a0 (0 + (j - 0)) = _; rw [Nat.sub_zero, Nat.zero_add])
theorem zcp_ne {M : zM} {a0 a q : Nat} {x y z : Int32} (h : q ≠ a) : (zcp M a0 a x y z).1 q = M.1 q := by
  unfold zcp
  rw [zr_ne h]
theorem c_copy {M : zM} {c p : Nat} (h : c + 6 ≤ p ∨ p + 6 ≤ c) : ∃ M', f_X5_copy M c p = some M' ∧ (∀ q, ¬ (c ≤ q ∧ q < c + 6) → M'.1 q = M.1 q) ∧ M'.2 = M.2 ∧ M'.1 c 1 = M.1 p 1 ∧ M'.1 c 2 = M.1 p 2 ∧ (∀ i j, 1 ≤ i → i ≤ 5 → j < 9 → M'.1 (c + i) j = M.1 (p + i) j) := by
  refine ⟨_, rfl, fun q hq => ?_, rfl, ?_, ?_, fun i j h1 h5 hj => ?_⟩
  · rw [zcp_ne (by omega), zcp_ne (by omega), zcp_ne (by omega), zcp_ne (by omega), zcp_ne (by omega), zs_ne (by omega), zs_ne (by omega)]
  · rw [zcp_ne (by omega), zcp_ne (by omega), zcp_ne (by omega), zcp_ne (by omega), zcp_ne (by omega), zs_row, upd_n (by decide), zs_row, upd_s]
  · rw [zcp_ne (by omega), zcp_ne (by omega), zcp_ne (by omega), zcp_ne (by omega), zcp_ne (by omega), zs_row, upd_s, zs_ne (by omega)]
  · obtain rfl | rfl | rfl | rfl | rfl : i = 1 ∨ i = 2 ∨ i = 3 ∨ i = 4 ∨ i = 5 := by omega
    · rw [zcp_ne (by omega), zcp_ne (by omega), zcp_ne (by omega), zcp_ne (by omega), zcp1 hj, zs_ne (by omega), zs_ne (by omega)]
    · rw [zcp_ne (by omega), zcp_ne (by omega), zcp_ne (by omega), zcp1 hj, zcp_ne (by omega), zs_ne (by omega), zs_ne (by omega)]
    · rw [zcp_ne (by omega), zcp_ne (by omega), zcp1 hj, zcp_ne (by omega), zcp_ne (by omega), zs_ne (by omega), zs_ne (by omega)]
    · rw [zcp_ne (by omega), zcp1 hj, zcp_ne (by omega), zcp_ne (by omega), zcp_ne (by omega), zs_ne (by omega), zs_ne (by omega)]
    · rw [zcp1 hj, zcp_ne (by omega), zcp_ne (by omega), zcp_ne (by omega), zcp_ne (by omega), zs_ne (by omega), zs_ne (by omega)]
