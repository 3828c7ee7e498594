/-! which, look -/
def vS (bu pu : Nat → Int32) (w : Int32) (s : Nat) : Int32 := if w = 0 then bu s else pu s
def cV (M : zM) (s k : Nat) : Bool := decide ((if M.1 15 k < vS (M.1 4) (M.1 5) (M.1 14 k) s then (0 : Int32) else 1) = (if M.1 16 k = 1 then 1 else 0))
def rV (M : zM) (s k : Nat) : Bool := decide ((if M.1 33 (3 * k + 1) < vS (M.1 26) (M.1 27) (M.1 33 (3 * k)) s then (0 : Int32) else 1) = (if M.1 33 (3 * k + 2) = 1 then 1 else 0))
def aSoC (v : Nat → Bool) : Nat → Nat → Bool
  | 0, _ => true
  | k + 1, i => v i && aSoC v k (i + 1)
theorem aSoC_congr {v v' : Nat → Bool} : ∀ k i, (∀ j, i ≤ j → j < i + k → v j = v' j) → aSoC v k i = aSoC v' k i := by
  intro k
  induction k with
  | zero => intro i _; rfl
  | succ k ih =>
    intro i h
    rw [aSoC, aSoC, h i (by omega) (by omega), ih (i + 1) (fun j h1 h2 => h j (by omega) (by omega))]
theorem c_isAt {M : zM} {S s : Nat} (hS : M.1 3 3 = nI S) (h6 : S ≤ 6) (hs : s < S) (w b : Int32) : f_X7_isAtMost M 3 (nI s) w b = some (if b < vS (M.1 4) (M.1 5) w s then 0 else 1, M) := by
  show f_X7_isAtMost_0 3 (nI s) w b M = _
  rw [f_X7_isAtMost_0]
  unfold vS
  by_cases h : w = 0
  · rw [if_pos h, if_pos h, c_pbulk hS h6 hs, zbi_s, f_X7_isAtMost_17]
    by_cases h2 : b < M.1 4 s
    · rw [if_pos h2, if_pos h2]
    · rw [if_neg h2, if_neg h2]
  · rw [if_neg h, if_neg h, c_ppush hS h6 hs, zbi_s, f_X7_isAtMost_17]
    by_cases h2 : b < M.1 5 s
    · rw [if_pos h2, if_pos h2]
    · rw [if_neg h2, if_neg h2]
theorem c_allSo {M : zM} {S s z : Nat} (hS : M.1 3 3 = nI S) (h6 : S ≤ 6) (hs : s < S) (hz : M.1 13 4 = nI z) (hz6 : z ≤ 6) : ∀ k i n, i + k = z → k < n → f_X8_allIsSoOf_2 (nI s) n M (nI i) = some (if aSoC (cV M s) k i = true then 1 else 0, M) := by
  intro k
  induction k with
  | zero =>
    intro i n hi hn
    obtain ⟨n, rfl⟩ : ∃ q, n = q + 1 := ⟨n - 1, by omega⟩
    obtain rfl : i = z := by omega
    rw [f_X8_allIsSoOf_2, hz, if_pos (Int32.le_refl _)]
    rfl
  | succ k ih =>
    intro i n hi hn
    obtain ⟨n, rfl⟩ : ∃ q, n = q + 1 := ⟨n - 1, by omega⟩
    rw [f_X8_allIsSoOf_2, hz, if_neg (nI_ge (by omega) (by omega)), zg_in (by omega) (by decide), zg_in (by omega) (by decide), nI_clamp (by omega), c_isAt hS h6 hs, zbi_s, zg_in (by omega) (by decide), aSoC]
    have hv : ∀ f : Int32, (if M.1 16 i = 1 then (1 : Int32) else 0) = f → f_X8_allIsSoOf_45 (nI s) (f_X8_allIsSoOf_2 (nI s) n) M (nI i) f (if M.1 15 i < vS (M.1 4) (M.1 5) (M.1 14 i) s then 0 else 1) = some (if (cV M s i && aSoC (cV M s) k (i + 1)) = true then 1 else 0, M) := by
      intro f e
      subst e
      rw [f_X8_allIsSoOf_45]
      by_cases hc : (if M.1 15 i < vS (M.1 4) (M.1 5) (M.1 14 i) s then (0 : Int32) else 1) = (if M.1 16 i = 1 then 1 else 0)
      · rw [if_pos hc, nI_1, ih (i + 1) n (by omega) (by omega)]
        have e1 : cV M s i = true := decide_eq_true hc
        rw [e1, Bool.true_and]
      · rw [if_neg hc]
        have e1 : cV M s i = false := decide_eq_false hc
        rw [e1, Bool.false_and]
        rfl
    by_cases hm : M.1 16 i = 1
    · rw [if_pos hm]
      exact hv 1 (if_pos hm)
    · rw [if_neg hm]
      exact hv 0 (if_neg hm)
theorem r_of {M : zM} {s : Nat} (hs : s < 6) (w : Int32) : f_X12_of M (nI s) w = some (vS (M.1 26) (M.1 27) w s, M) := by
  show f_X12_of_0 (nI s) w M = _
  rw [f_X12_of_0]
  unfold vS
  by_cases h : w = 0
  · rw [if_pos h, if_pos h, zg_in hs (by decide), nI_clamp (by omega)]
  · rw [if_neg h, if_neg h, zg_in hs (by decide), nI_clamp (by omega)]
theorem r_allSo {M : zM} {s z : Nat} (hs : s < 6) (hz : M.1 25 13 = nI z) (hz6 : z ≤ 6) (k4 : zM → Int32 → Int32 → Option (Int32 × zM)) (x1 : Int32) : ∀ k i n (so : Bool), i + k = z → k < n → f_X12_which_17 k4 n M x1 (nI s) (if so = true then 1 else 0) (nI (3 * i)) = k4 M (x1 ||| (if (so && aSoC (rV M s) k i) = true then zbit s else 0)) (nI (s + 1)) := by
  intro k
  induction k with
  | zero =>
    intro i n so hi hn
    obtain ⟨n, rfl⟩ : ∃ q, n = q + 1 := ⟨n - 1, by omega⟩
    obtain rfl : i = z := by omega
    rw [f_X12_which_17, hz, x3m, if_pos (Int32.le_refl _), aSoC, Bool.and_true]
    cases so with
    | true => rw [if_pos rfl, if_neg (by decide), if_pos rfl, f_X12_which_106, nI_1]; rfl
    | false => rw [if_pos (show (if false = true then (1 : Int32) else 0) = 0 by decide), if_neg (by decide), f_X12_which_106, nI_1]
  | succ k ih =>
    intro i n so hi hn
    obtain ⟨n, rfl⟩ : ∃ q, n = q + 1 := ⟨n - 1, by omega⟩
    have e3 : nI (3 * i) + (3 : Int32) = nI (3 * (i + 1)) := nI_add (3 * i) 3
    rw [f_X12_which_17, hz, x3m, if_neg (nI_ge (by omega) (by omega)), aSoC]
    cases so with
    | false =>
      rw [if_pos (show (if false = true then (1 : Int32) else 0) = 0 by decide), f_X12_which_87, e3]
      have := ih (i + 1) n false (by omega) (by omega)
      rw [if_neg (by decide), Bool.false_and] at this
      rw [Bool.false_and]
      exact this
    | true =>
      rw [if_pos rfl, if_neg (by decide), zg_in (j := 3 * i) (by omega) (by decide), nI_clamp (n := 3 * i) (by omega), r_of hs, zbi_s, nI_1, zg_in (j := 3 * i + 1) (by omega) (by decide), nI_clamp (n := 3 * i + 1) (by omega), Bool.true_and]
      have hv : ∀ f : Int32, (if M.1 33 (3 * i + 1) < vS (M.1 26) (M.1 27) (M.1 33 (3 * i)) s then (0 : Int32) else 1) = f → f_X12_which_61 k4 (f_X12_which_17 k4 n) M x1 (nI s) (nI (3 * i)) f = k4 M (x1 ||| (if (rV M s i && aSoC (rV M s) k (i + 1)) = true then zbit s else 0)) (nI (s + 1)) := by
        intro f e
        subst e
        rw [f_X12_which_61, show nI (3 * i) + (2 : Int32) = nI (3 * i + 2) from nI_add (3 * i) 2, zg_in (j := 3 * i + 2) (by omega) (by decide), nI_clamp (n := 3 * i + 2) (by omega)]
        have hw : ∀ f2 : Int32, (if M.1 33 (3 * i + 2) = 1 then (1 : Int32) else 0) = f2 → f_X12_which_79 k4 (f_X12_which_17 k4 n) M x1 (nI s) (nI (3 * i)) f2 (if M.1 33 (3 * i + 1) < vS (M.1 26) (M.1 27) (M.1 33 (3 * i)) s then (0 : Int32) else 1) = k4 M (x1 ||| (if (rV M s i && aSoC (rV M s) k (i + 1)) = true then zbit s else 0)) (nI (s + 1)) := by
          intro f2 e2
          subst e2
          rw [f_X12_which_79]
          by_cases hc : (if M.1 33 (3 * i + 1) < vS (M.1 26) (M.1 27) (M.1 33 (3 * i)) s then (0 : Int32) else 1) = (if M.1 33 (3 * i + 2) = 1 then 1 else 0)
          · rw [if_pos hc, f_X12_which_87, e3]
            have e1 : rV M s i = true := decide_eq_true hc
            have := ih (i + 1) n true (by omega) (by omega)
            rw [if_pos rfl, Bool.true_and] at this
            rw [e1, Bool.true_and]
            exact this
          · rw [if_neg hc, f_X12_which_87, e3]
            have e1 : rV M s i = false := decide_eq_false hc
            have := ih (i + 1) n false (by omega) (by omega)
            rw [if_neg (by decide), Bool.false_and] at this
            rw [e1, Bool.false_and]
            exact this
        by_cases hm : M.1 33 (3 * i + 2) = 1
        · rw [if_pos hm]
          exact hw 1 (if_pos hm)
        · rw [if_neg hm]
          exact hw 0 (if_neg hm)
      by_cases hlt : M.1 33 (3 * i + 1) < vS (M.1 26) (M.1 27) (M.1 33 (3 * i)) s
      · rw [if_pos hlt]
        exact hv 0 (if_pos hlt)
      · rw [if_neg hlt]
        exact hv 1 (if_neg hlt)
def aPos (v : Nat → Bool) (S : Nat) : Int32 := nI (bN v S)
theorem aPos_f (v : Nat → Bool) {S : Nat} (h : S ≤ 9) : zfo (fun s (a : Int32) => if v s = true then a ||| zbit s else a) S 0 = aPos v S := by
  rw [bits_of (Q := fun s => v s = true) S h]
  unfold aPos
  congr 1
  unfold bN
  refine zfo_congr (fun j a _ => ?_)
  by_cases hv : v j = true
  · rw [if_pos (decide_eq_true hv), if_pos hv]
  · rw [if_neg (fun q => hv (of_decide_eq_true q)), if_neg hv]
theorem c_poss {M : zM} {S z : Nat} (hS : M.1 3 3 = nI S) (h6 : S ≤ 6) (hz : M.1 13 4 = nI z) (hz6 : z ≤ 6) : f_X8_possibleSorts M = some (aPos (fun s => aSoC (cV M s) z 0) S, M) := by
  rw [← aPos_f _ (by omega)]
  refine zloop0 (fun n a i => f_X8_possibleSorts_4 n M a i) (fun s (a : Int32) => if aSoC (cV M s) z 0 = true then a ||| zbit s else a) (fun a => some (a, M)) S (fun n j a hj => ?_) (fun n a => ?_) (zFU_gt (by omega))
  · show f_X8_possibleSorts_4 (n + 1) M a (nI j) = f_X8_possibleSorts_4 n M _ (nI (j + 1))
    rw [f_X8_possibleSorts_4, hS, if_neg (nI_ge hj (by omega))]
    have := c_allSo hS h6 hj hz hz6 z 0 zFU (by omega) (zFU_gt (by omega))
    rw [nI_0] at this
    show zbi (f_X8_allIsSoOf_2 (nI j) zFU M 0) _ = _
    rw [this, zbi_s, nI_1]
    by_cases h : aSoC (cV M j) z 0 = true
    · rw [if_pos h, if_pos h, if_neg (by decide)]; rfl
    · rw [if_neg h, if_neg h, if_pos rfl]
  · show f_X8_possibleSorts_4 (n + 1) M a (nI S) = _
    rw [f_X8_possibleSorts_4, hS, if_pos (Int32.le_refl _)]
theorem r_which {M : zM} {S z : Nat} (hS : M.1 25 3 = nI S) (h6 : S ≤ 6) (hz : M.1 25 13 = nI z) (hz6 : z ≤ 6) : f_X12_which M = some (aPos (fun s => aSoC (rV M s) z 0) S, M) := by
  rw [← aPos_f _ (by omega)]
  refine zloop0 (fun n a i => f_X12_which_4 n M a i) (fun s (a : Int32) => if aSoC (rV M s) z 0 = true then a ||| zbit s else a) (fun a => some (a, M)) S (fun n j a hj => ?_) (fun n a => ?_) (zFU_gt (by omega))
  · show f_X12_which_4 (n + 1) M a (nI j) = f_X12_which_4 n M _ (nI (j + 1))
    rw [f_X12_which_4, hS, if_neg (nI_ge hj (by omega))]
    have := r_allSo (s := j) (by omega) hz hz6 (f_X12_which_4 n) a z 0 zFU true (by omega) (zFU_gt (by omega))
    rw [if_pos rfl, Nat.mul_zero, nI_0, Bool.true_and] at this
    rw [this]
    by_cases h : aSoC (rV M j) z 0 = true
    · rw [if_pos h, if_pos h]
    · rw [if_neg h, if_neg h, Int32.or_zero]
  · show f_X12_which_4 (n + 1) M a (nI S) = _
    rw [f_X12_which_4, hS, if_pos (Int32.le_refl _)]
/-- both sides see the same sorts -/
theorem poss_eq {M : zM} {R W H S z : Nat} (P : wP M R W H S) (hz : ∀ k, k < z → M.1 14 k = M.1 33 (3 * k) ∧ M.1 15 k = M.1 33 (3 * k + 1) ∧ M.1 16 k = M.1 33 (3 * k + 2)) : ∀ s, s < S → aSoC (cV M s) z 0 = aSoC (rV M s) z 0 := by
  intro s hs
  refine aSoC_congr z 0 (fun j _ hj => ?_)
  obtain ⟨e1, e2, e3⟩ := hz j (by omega)
  obtain ⟨p1, p2, _⟩ := P.2.2.2 s hs
  unfold cV rV vS
  rw [e1, e2, e3, p1, p2]
theorem bN_congr {v v' : Nat → Bool} {S : Nat} (h : ∀ s, s < S → v s = v' s) : bN v S = bN v' S := by
  unfold bN
  refine zfo_congr (fun j a hj => ?_)
  rw [h j hj]
theorem cN_congr {v v' : Nat → Bool} {S : Nat} (h : ∀ s, s < S → v s = v' s) : cN v S = cN v' S := by
  unfold cN
  refine zfo_congr (fun j a hj => ?_)
  rw [h j hj]
theorem p_which {n : Nat} {M : zM} (X : wI n M) : wOp n M (fun M => f_X11_which M) (fun M => f_X12_which M) := by
  obtain ⟨R, W, H, S, a1, a2, a3, a4, ⟨z, z1, z2, z3, z4⟩, a6, a7⟩ := id X
  have h6 := a1.1.2.2.2.2
  refine wOp_same X (aPos (fun s => aSoC (cV M s) z 0) S) ?_ ?_
  · show f_X11_which_0 M = _
    rw [f_X11_which_0, c_poss a1.2.1.2.2.2 h6 z2 z1, zbi_s]
  · show f_X12_which M = _
    rw [r_which a1.2.2.1.2.2.2 h6 z3 z1]
    unfold aPos
    rw [bN_congr (poss_eq a1 z4)]
/-- how many bits -/
theorem zbc_pc : ∀ m, m < 512 → zbc (nI m) = nI (cN (fun j => m.testBit j) 9) := by decide +kernel
theorem cN_bN (P : Nat → Bool) {S : Nat} (h : S ≤ 9) : cN (fun j => (bN P S).testBit j) 9 = cN P S := by
  have e : (fun j => (bN P S).testBit j) = fun j => decide (j < S) && P j := funext fun j => bN_test P j S
  rw [e]
  have key : ∀ d, cN (fun j => decide (j < S) && P j) (S + d) = cN P S := by
    intro d
    induction d with
    | zero =>
      refine cN_congr (fun s hs => ?_)
      rw [decide_eq_true (show s < S by omega), Bool.true_and]
    | succ d ih =>
      rw [show S + (d + 1) = S + d + 1 by omega, cN_succ, ih, decide_eq_false (show ¬ S + d < S by omega), Bool.false_and, if_neg (by decide)]
  have := key (9 - S)
  rw [show S + (9 - S) = 9 by omega] at this
  exact this
theorem aPos_bc (P : Nat → Bool) {S : Nat} (h : S ≤ 9) : zbc (aPos P S) = nI (cN P S) := by
  unfold aPos
  rw [zbc_pc _ (bN_512 P h), cN_bN P h]
theorem cN_and_le (P Q : Nat → Bool) : ∀ S, cN (fun s => P s && Q s) S ≤ cN P S := by
  intro S
  induction S with
  | zero => exact Nat.le_refl _
  | succ n ih =>
    rw [cN_succ, cN_succ]
    cases hp : P n with
    | false => rw [Bool.false_and, if_neg (by decide), if_neg (by decide)]; exact ih
    | true =>
      cases hq : Q n with
      | false => rw [Bool.true_and, if_neg (by decide), if_pos rfl]; omega
      | true => rw [Bool.true_and, if_pos rfl, if_pos rfl]; omega
def aAt (P : Nat → Bool) (val : Nat → Int32) (v : Int32) (S : Nat) : Nat := cN (fun s => P s && decide (¬ v < val s)) S
theorem aPos_has (P : Nat → Bool) {S s : Nat} (h : S ≤ 9) (hs : s < S) : ((aPos P S >>> (nI s &&& 31)) &&& 1 = 1) ↔ P s = true := by
  unfold aPos
  rw [bit_has (bN_512 P h) (by omega), bN_test, decide_eq_true hs, Bool.true_and]
theorem c_atMost {M : zM} {S : Nat} (hS : M.1 3 3 = nI S) (h6 : S ≤ 6) (P : Nat → Bool) (w v : Int32) : f_X7_howManyAtMost M 3 (aPos P S) w v = some (nI (aAt P (vS (M.1 4) (M.1 5) w) v S), M) := by
  refine (zloop0 (fun n a i => f_X7_howManyAtMost_6 3 (aPos P S) w v n M (nI a) i) (fun s (a : Nat) => if (P s && decide (¬ v < vS (M.1 4) (M.1 5) w s)) = true then a + 1 else a) (fun a => some (nI a, M)) S (fun n j a hj => ?_) (fun n a => ?_) (a0 := 0) (zFU_gt (by omega)))
  · show f_X7_howManyAtMost_6 3 (aPos P S) w v (n + 1) M (nI a) (nI j) = f_X7_howManyAtMost_6 3 (aPos P S) w v n M (nI _) (nI (j + 1))
    rw [f_X7_howManyAtMost_6, hS, if_neg (nI_ge hj (by omega))]
    by_cases hp : P j = true
    · rw [if_pos ((aPos_has P (by omega) hj).mpr hp), c_isAt hS h6 hj, zbi_s, hp, Bool.true_and]
      by_cases hv : v < vS (M.1 4) (M.1 5) w j
      · rw [if_pos hv, if_pos rfl, if_neg (show ¬ decide (¬ v < vS (M.1 4) (M.1 5) w j) = true from fun q => of_decide_eq_true q hv), nI_1]
      · rw [if_neg hv, if_neg (by decide), if_pos (decide_eq_true hv), nI_1, nI_1]
    · rw [if_neg (fun q => hp ((aPos_has P (by omega) hj).mp q)), nI_1]
      cases hp2 : P j with
      | true => exact absurd hp2 hp
      | false => rw [Bool.false_and, if_neg (by decide)]
  · show f_X7_howManyAtMost_6 3 (aPos P S) w v (n + 1) M (nI a) (nI S) = _
    rw [f_X7_howManyAtMost_6, hS, if_pos (Int32.le_refl _)]
def lkF (P : Nat → Bool) (val : Nat → Int32) (S all v : Nat) : Nat := if aAt P val (nI v) S < all - aAt P val (nI v) S then all - aAt P val (nI v) S else aAt P val (nI v) S
def lk (F : Nat → Nat) : Nat → Nat → Int32 → Nat → Int32
  | 0, _, b, _ => b
  | k + 1, v, b, l => if F v < l then lk F k (v + 1) (nI v) (F v) else lk F k (v + 1) b l
theorem lkF_le {P : Nat → Bool} {val : Nat → Int32} {S v : Nat} : lkF P val S (cN P S) v ≤ cN P S := by
  have := cN_and_le P (fun s => decide (¬ nI v < val s)) S
  unfold lkF aAt
  split
  · omega
  · exact this
theorem c_look {M : zM} {S a lo hi : Nat} (hS : M.1 3 3 = nI S) (h6 : S ≤ 6) (h : (a = 0 ∧ lo = 1 ∧ hi = 5) ∨ (a = 1 ∧ lo = 0 ∧ hi = 9)) (P : Nat → Bool) : ∀ k v n b l, v + k = hi + 1 → k < n → l < 1000 → f_X11_look_47 (nI a) n M (aPos P S) (nI (cN P S)) b (nI l) (nI v) = some (lk (lkF P (vS (M.1 4) (M.1 5) (nI a)) S (cN P S)) k v b l, M) := by
  intro k
  have hA := cN_le P S
  induction k with
  | zero =>
    intro v n b l hv hn hl
    obtain ⟨n, rfl⟩ : ∃ q, n = q + 1 := ⟨n - 1, by omega⟩
    rw [f_X11_look_47, (c_least h).2, zbi_s, if_pos (nI_lt (by omega) (by omega))]
    rfl
  | succ k ih =>
    intro v n b l hv hn hl
    obtain ⟨n, rfl⟩ : ∃ q, n = q + 1 := ⟨n - 1, by omega⟩
    have hc := cN_and_le P (fun s => decide (¬ nI v < vS (M.1 4) (M.1 5) (nI a) s)) S
    have hc : aAt P (vS (M.1 4) (M.1 5) (nI a)) (nI v) S ≤ cN P S := hc
    rw [f_X11_look_47, (c_least h).2, zbi_s, if_neg (nI_nlt (by omega) (by omega)), c_atMost hS h6, zbi_s, pk_sub hc, nI_1]
    have hf : (if nI (aAt P (vS (M.1 4) (M.1 5) (nI a)) (nI v) S) < nI (cN P S - aAt P (vS (M.1 4) (M.1 5) (nI a)) (nI v) S) then nI (cN P S - aAt P (vS (M.1 4) (M.1 5) (nI a)) (nI v) S) else nI (aAt P (vS (M.1 4) (M.1 5) (nI a)) (nI v) S)) = nI (lkF P (vS (M.1 4) (M.1 5) (nI a)) S (cN P S) v) := by
      unfold lkF
      by_cases hlt : aAt P (vS (M.1 4) (M.1 5) (nI a)) (nI v) S < cN P S - aAt P (vS (M.1 4) (M.1 5) (nI a)) (nI v) S
      · rw [if_pos (nI_lt hlt (by omega)), if_pos hlt]
      · rw [if_neg (nI_nlt (by omega) (by omega)), if_neg hlt]
    have hFl : lkF P (vS (M.1 4) (M.1 5) (nI a)) S (cN P S) v ≤ cN P S := lkF_le
    rw [hf, lk]
    by_cases hlt : lkF P (vS (M.1 4) (M.1 5) (nI a)) S (cN P S) v < l
    · rw [if_neg (nI_ge hlt (by omega)), if_pos hlt]
      exact ih (v + 1) n _ _ (by omega) (by omega) (by omega)
    · rw [if_pos (nI_le (by omega) (by omega)), if_neg hlt]
      exact ih (v + 1) n _ _ (by omega) (by omega) hl
theorem r_has {M : zM} {P : Nat → Bool} {S s : Nat} (h : S ≤ 9) (hs : s < S) : f_X12_has M (aPos P S) (nI s) = some (if P s = true then 1 else 0, M) := by
  show f_X12_has_0 _ _ M = _
  rw [f_X12_has_0]
  by_cases hp : P s = true
  · rw [if_pos ((aPos_has P h hs).mpr hp), if_pos hp]
  · rw [if_neg (fun q => hp ((aPos_has P h hs).mp q)), if_neg hp]
theorem r_look65 {M : zM} {S : Nat} (hS : M.1 25 3 = nI S) (h6 : S ≤ 6) (P : Nat → Bool) (w : Int32) (k38 : zM → Int32 → Int32 → Int32 → Int32 → Int32 → Option (Int32 × zM)) (x3 x4 x5 x6 : Int32) : f_X12_look_65 w k38 zFU M (aPos P S) x3 x4 x5 x6 0 0 = (if nI (aAt P (vS (M.1 26) (M.1 27) w) x6 S) ≤ (x3 - nI (aAt P (vS (M.1 26) (M.1 27) w) x6 S)) then (f_X12_look_129 w k38 M (aPos P S) x3 x4 x5 x6 (x3 - nI (aAt P (vS (M.1 26) (M.1 27) w) x6 S))) else (f_X12_look_129 w k38 M (aPos P S) x3 x4 x5 x6 (nI (aAt P (vS (M.1 26) (M.1 27) w) x6 S)))) := by
  refine (zloop0 (fun n a i => f_X12_look_65 w k38 n M (aPos P S) x3 x4 x5 x6 (nI a) i) (fun s (a : Nat) => if (P s && decide (¬ x6 < vS (M.1 26) (M.1 27) w s)) = true then a + 1 else a) (fun a => (if nI a ≤ (x3 - nI a) then (f_X12_look_129 w k38 M (aPos P S) x3 x4 x5 x6 (x3 - nI a)) else (f_X12_look_129 w k38 M (aPos P S) x3 x4 x5 x6 (nI a)))) S (fun n j a hj => ?_) (fun n a => ?_) (a0 := 0) (zFU_gt (by omega)))
  · show f_X12_look_65 w k38 (n + 1) M (aPos P S) x3 x4 x5 x6 (nI a) (nI j) = f_X12_look_65 w k38 n M (aPos P S) x3 x4 x5 x6 (nI _) (nI (j + 1))
    rw [f_X12_look_65, hS, if_neg (nI_ge hj (by omega)), r_has (by omega) hj, zbi_s]
    by_cases hp : P j = true
    · rw [if_pos hp, if_neg (by decide), r_of (by omega), zbi_s, hp, Bool.true_and]
      by_cases hv : x6 < vS (M.1 26) (M.1 27) w j
      · rw [if_pos hv, if_neg (show ¬ decide (¬ x6 < vS (M.1 26) (M.1 27) w j) = true from fun q => of_decide_eq_true q hv), f_X12_look_102, nI_1, Int32.add_zero]
      · rw [if_neg hv, if_pos (decide_eq_true hv), f_X12_look_102, nI_1, nI_1]
    · rw [if_neg hp, if_pos rfl, f_X12_look_102, nI_1, Int32.add_zero]
      cases hp2 : P j with
      | true => exact absurd hp2 hp
      | false => rw [Bool.false_and, if_neg (by decide)]
  · show f_X12_look_65 w k38 (n + 1) M (aPos P S) x3 x4 x5 x6 (nI a) (nI S) = _
    rw [f_X12_look_65, hS, if_pos (Int32.le_refl _)]
theorem r_look {M : zM} {S a lo hi : Nat} (hS : M.1 25 3 = nI S) (h6 : S ≤ 6) (h : (a = 0 ∧ lo = 1 ∧ hi = 5) ∨ (a = 1 ∧ lo = 0 ∧ hi = 9)) (P : Nat → Bool) (h1 : 1 < cN P S) : ∀ k v n b l, v + k = hi + 1 → k < n → l < 1000 → f_X12_look_38 (nI a) n M (aPos P S) (nI (cN P S)) (nI l) b (nI v) = some (lk (lkF P (vS (M.1 26) (M.1 27) (nI a)) S (cN P S)) k v b l, M) := by
  intro k
  have hA := cN_le P S
  have h51 : ∀ n l b v, f_X12_look_38 (nI a) (n + 1) M (aPos P S) (nI (cN P S)) (nI l) b (nI v) = f_X12_look_51 (nI a) (f_X12_look_38 (nI a) n) M (aPos P S) (nI (cN P S)) (nI l) b (nI v) (nI (hi + 1)) (nI v) := by
    intro n l b v
    rw [f_X12_look_38]
    rcases h with ⟨rfl, rfl, rfl⟩ | ⟨rfl, rfl, rfl⟩
    · rw [if_pos (by rfl)]; rfl
    · rw [if_neg (by decide)]; rfl
  induction k with
  | zero =>
    intro v n b l hv hn hl
    obtain ⟨n, rfl⟩ : ∃ q, n = q + 1 := ⟨n - 1, by omega⟩
    rw [h51, f_X12_look_51, if_pos (nI_le (by omega) (by omega))]
    rfl
  | succ k ih =>
    intro v n b l hv hn hl
    obtain ⟨n, rfl⟩ : ∃ q, n = q + 1 := ⟨n - 1, by omega⟩
    have hc := cN_and_le P (fun s => decide (¬ nI v < vS (M.1 26) (M.1 27) (nI a) s)) S
    have hc : aAt P (vS (M.1 26) (M.1 27) (nI a)) (nI v) S ≤ cN P S := hc
    rw [h51, f_X12_look_51, if_neg (nI_ge (by omega) (by omega)), if_neg (show ¬ nI (cN P S) ≤ (1 : Int32) from nI_ge (a := 1) h1 (by omega)), r_look65 hS h6, pk_sub hc]
    have hFl : lkF P (vS (M.1 26) (M.1 27) (nI a)) S (cN P S) v ≤ cN P S := lkF_le
    have go : ∀ s0, s0 = nI (lkF P (vS (M.1 26) (M.1 27) (nI a)) S (cN P S) v) → f_X12_look_129 (nI a) (f_X12_look_38 (nI a) n) M (aPos P S) (nI (cN P S)) (nI l) b (nI v) s0 = some (lk (lkF P (vS (M.1 26) (M.1 27) (nI a)) S (cN P S)) (k + 1) v b l, M) := by
      intro s0 e
      subst e
      rw [f_X12_look_129, lk]
      by_cases hlt : lkF P (vS (M.1 26) (M.1 27) (nI a)) S (cN P S) v < l
      · rw [if_neg (nI_ge hlt (by omega)), if_pos hlt, f_X12_look_145, if_neg (nI_ge hlt (by omega)), f_X12_look_161, nI_1]
        exact ih (v + 1) n _ _ (by omega) (by omega) (by omega)
      · rw [if_pos (nI_le (by omega) (by omega)), if_neg hlt, f_X12_look_145, if_pos (nI_le (by omega) (by omega)), f_X12_look_161, nI_1]
        exact ih (v + 1) n _ _ (by omega) (by omega) hl
    by_cases hle : aAt P (vS (M.1 26) (M.1 27) (nI a)) (nI v) S ≤ cN P S - aAt P (vS (M.1 26) (M.1 27) (nI a)) (nI v) S
    · rw [if_pos (nI_le hle (by omega))]
      refine go _ ?_
      unfold lkF
      split
      · rfl
      · congr 1; omega
    · rw [if_neg (nI_ge (by omega) (by omega))]
      refine go _ ?_
      unfold lkF
      rw [if_neg (by omega)]
theorem lk_congr {F F' : Nat → Nat} (h : ∀ v, F v = F' v) : ∀ k v b l, lk F k v b l = lk F' k v b l := by
  intro k v b l
  rw [show F = F' from funext h]
theorem p_lookA {n : Nat} {M : zM} (X : wI n M) {a lo hi : Nat} (h : (a = 0 ∧ lo = 1 ∧ hi = 5) ∨ (a = 1 ∧ lo = 0 ∧ hi = 9)) : wOp n M (fun M => f_X11_look M (nI a)) (fun M => f_X12_look M (nI a)) := by
  obtain ⟨R, W, H, S, a1, a2, a3, a4, ⟨z, z1, z2, z3, z4⟩, a6, a7⟩ := id X
  have h6 := a1.1.2.2.2.2
  have hS := a1.2.1.2.2.2
  have hS' := a1.2.2.1.2.2.2
  have ePos : aPos (fun s => aSoC (rV M s) z 0) S = aPos (fun s => aSoC (cV M s) z 0) S := by
    unfold aPos
    rw [bN_congr (poss_eq a1 z4)]
  have hA := cN_le (fun s => aSoC (cV M s) z 0) S
  have hcl : f_X11_look M (nI a) = (if (1 : Int32) < nI (cN (fun s => aSoC (cV M s) z 0) S) then f_X11_look_47 (nI a) zFU M (aPos (fun s => aSoC (cV M s) z 0) S) (nI (cN (fun s => aSoC (cV M s) z 0) S)) (-9 : Int32) (nI (cN (fun s => aSoC (cV M s) z 0) S + 1)) (nI lo) else some ((-9 : Int32), M)) := by
    show f_X11_look_0 (nI a) M = _
    rw [f_X11_look_0, if_neg (nI_pos (by omega)), if_pos (show nI a ≤ (1 : Int32) from nI_le (b := 1) (by omega) (by decide)), c_poss hS h6 z2 z1, zbi_s, c_bc, zbi_s, aPos_bc _ (by omega), (c_least h).1, zbi_s, nI_1]
  have hrl : f_X12_look M (nI a) = f_X12_look_38 (nI a) zFU M (aPos (fun s => aSoC (cV M s) z 0) S) (nI (cN (fun s => aSoC (cV M s) z 0) S)) (nI 7) (-9 : Int32) (nI lo) := by
    show f_X12_look_0 (nI a) M = _
    have hb : f_X12_bits M (aPos (fun s => aSoC (cV M s) z 0) S) = some (nI (cN (fun s => aSoC (cV M s) z 0) S), M) := by
      rw [← aPos_bc _ (by omega)]
      exact r_bits M (bN_512 _ (by omega))
    rw [f_X12_look_0, r_isBitT (by omega), zbi_s, if_neg (by decide), r_which hS' h6 z3 z1, zbi_s, ePos, hb, zbi_s]
    rcases h with ⟨rfl, rfl, rfl⟩ | ⟨rfl, rfl, rfl⟩
    · rw [if_pos (by rfl)]; rfl
    · rw [if_neg (by decide)]; rfl
  by_cases h1 : 1 < cN (fun s => aSoC (cV M s) z 0) S
  · have e : ∀ v, lkF (fun s => aSoC (cV M s) z 0) (vS (M.1 26) (M.1 27) (nI a)) S (cN (fun s => aSoC (cV M s) z 0) S) v = lkF (fun s => aSoC (cV M s) z 0) (vS (M.1 4) (M.1 5) (nI a)) S (cN (fun s => aSoC (cV M s) z 0) S) v := by
      intro v
      have : aAt (fun s => aSoC (cV M s) z 0) (vS (M.1 26) (M.1 27) (nI a)) (nI v) S = aAt (fun s => aSoC (cV M s) z 0) (vS (M.1 4) (M.1 5) (nI a)) (nI v) S := by
        unfold aAt
        refine cN_congr (fun s hs => ?_)
        obtain ⟨p1, p2, _⟩ := a1.2.2.2 s hs
        unfold vS
        rw [p1, p2]
      unfold lkF
      rw [this]
    refine wOp_same X (lk (lkF (fun s => aSoC (cV M s) z 0) (vS (M.1 4) (M.1 5) (nI a)) S (cN (fun s => aSoC (cV M s) z 0) S)) (hi + 1 - lo) lo (-9) (cN (fun s => aSoC (cV M s) z 0) S + 1)) ?_ ?_
    · show f_X11_look M (nI a) = _
      rw [hcl, if_pos (show (1 : Int32) < nI _ from nI_lt (a := 1) h1 (by omega)), c_look hS h6 h _ (hi + 1 - lo) lo zFU _ _ (by omega) (zFU_gt (by omega)) (by omega)]
    · show f_X12_look M (nI a) = _
      rw [hrl, r_look hS' h6 h _ h1 (hi + 1 - lo) lo zFU _ _ (by omega) (zFU_gt (by omega)) (by omega), lk_congr e]
      obtain ⟨k, hk⟩ : ∃ k, hi + 1 - lo = k + 1 := ⟨hi - lo, by omega⟩
      have hF : lkF (fun s => aSoC (cV M s) z 0) (vS (M.1 4) (M.1 5) (nI a)) S (cN (fun s => aSoC (cV M s) z 0) S) lo ≤ cN (fun s => aSoC (cV M s) z 0) S := lkF_le
      rw [hk, lk, lk, if_pos (by omega), if_pos (by omega)]
  · refine wOp_same X (-9) ?_ ?_
    · show f_X11_look M (nI a) = _
      rw [hcl, if_neg (show ¬ (1 : Int32) < nI _ from nI_nlt (a := 1) (by omega) (by decide))]
    · show f_X12_look M (nI a) = _
      rw [hrl]
      show f_X12_look_38 (nI a) (1999 + 1) M _ _ _ _ _ = _
      rw [f_X12_look_38]
      have hle : nI (cN (fun s => aSoC (cV M s) z 0) S) ≤ (1 : Int32) := nI_le (b := 1) (by omega) (by decide)
      rcases h with ⟨rfl, rfl, rfl⟩ | ⟨rfl, rfl, rfl⟩
      · rw [if_pos (by rfl), f_X12_look_51, if_neg (by decide), if_pos hle]
      · rw [if_neg (by decide), f_X12_look_51, if_neg (by decide), if_pos hle]
theorem p_look {n : Nat} {M : zM} (X : wI n M) (x : Int32) : wOp n M (fun M => f_X11_look M x) (fun M => f_X12_look M x) := by
  rcases pk_ix x (n := 2) (by decide) with h | h | ⟨a, ha, rfl⟩
  · refine wOp_same X (-1) ?_ ?_
    · show f_X11_look_0 x M = _
      rw [f_X11_look_0, if_pos h]
    · show f_X12_look_0 x M = _
      rw [f_X12_look_0, r_isBitF (Or.inl h), zbi_s, if_pos rfl]
  · refine wOp_same X (-1) ?_ ?_
    · show f_X11_look_0 x M = _
      rw [f_X11_look_0, if_neg (big_nn h (by decide)), if_neg (show ¬ x ≤ (1 : Int32) from big_nle (n := 2) (m := 1) h (by decide) (by decide))]
    · show f_X12_look_0 x M = _
      rw [f_X12_look_0, r_isBitF (Or.inr h), zbi_s, if_pos rfl]
  · obtain rfl | rfl : a = 0 ∨ a = 1 := by omega
    · exact p_lookA X (Or.inl ⟨rfl, rfl, rfl⟩)
    · exact p_lookA X (Or.inr ⟨rfl, rfl, rfl⟩)
