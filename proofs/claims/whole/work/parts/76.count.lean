/-! odds: the counting -/
def sm (f : Nat → Nat) (n : Nat) : Nat := zfo (fun k a => a + f k) n 0
theorem sm_succ (f : Nat → Nat) (n : Nat) : sm f (n + 1) = sm f n + f n := rfl
theorem sm_0 (f : Nat → Nat) : sm f 0 = 0 := rfl
theorem sm_congr {f g : Nat → Nat} : ∀ n, (∀ k, k < n → f k = g k) → sm f n = sm g n := by
  intro n
  induction n with
  | zero => intro _; rfl
  | succ n ih =>
    intro h
    rw [sm_succ, sm_succ, ih (fun k hk => h k (by omega)), h n (by omega)]
theorem sm_add (f : Nat → Nat) (m : Nat) : ∀ n, sm f (m + n) = sm f m + sm (fun k => f (m + k)) n := by
  intro n
  induction n with
  | zero => rw [Nat.add_zero, sm_0, Nat.add_zero]
  | succ n ih => rw [← Nat.add_assoc, sm_succ, ih, sm_succ, Nat.add_assoc]
theorem sm_mul (c : Nat) (f : Nat → Nat) : ∀ n, sm (fun k => c * f k) n = c * sm f n := by
  intro n
  induction n with
  | zero => rfl
  | succ n ih => rw [sm_succ, sm_succ, ih, Nat.mul_add]
theorem sm_plus (f g : Nat → Nat) : ∀ n, sm (fun k => f k + g k) n = sm f n + sm g n := by
  intro n
  induction n with
  | zero => rfl
  | succ n ih => rw [sm_succ, sm_succ, sm_succ, ih]; omega
theorem sm_z {f : Nat → Nat} : ∀ n, (∀ k, k < n → f k = 0) → sm f n = 0 := by
  intro n
  induction n with
  | zero => intro _; rfl
  | succ n ih =>
    intro h
    rw [sm_succ, ih (fun k hk => h k (by omega)), h n (by omega)]
theorem sm_first {f : Nat → Nat} (h : ∀ k, 0 < k → f k = 0) : ∀ n, 0 < n → sm f n = f 0 := by
  intro n hn
  obtain ⟨m, rfl⟩ : ∃ m, n = 1 + m := ⟨n - 1, by omega⟩
  rw [sm_add, sm_z m (fun k _ => h _ (by omega)), sm_succ, sm_0, Nat.zero_add, Nat.add_zero]
def oE (x : Nat) (ins : Nat → Bool) (p : Nat → Nat) (d : Nat) : Nat → Nat → Nat
  | 0, s => if d ≤ s then 1 else 0
  | j + 1, s => if ins j = true then x * oE x ins p d j s + (10 - x) * oE x ins p d j (s + p j) else oE x ins p d j s
def oW (x : Nat) (ins : Nat → Bool) (p : Nat → Nat) : Nat → Nat → Nat
  | 0, t => if t = 0 then 1 else 0
  | j + 1, t => if ins j = true then x * oW x ins p j t + (if p j ≤ t then (10 - x) * oW x ins p j (t - p j) else 0) else oW x ins p j t
def oH (ins : Nat → Bool) (p : Nat → Nat) : Nat → Nat
  | 0 => 0
  | j + 1 => if ins j = true then oH ins p j + p j else oH ins p j
theorem oW_z {x : Nat} {ins : Nat → Bool} {p : Nat → Nat} : ∀ j t, oH ins p j < t → oW x ins p j t = 0 := by
  intro j
  induction j with
  | zero =>
    intro t h
    have h : 0 < t := h
    rw [oW, if_neg (by omega)]
  | succ j ih =>
    intro t h
    rw [oH] at h
    rw [oW]
    by_cases hi : ins j = true
    · rw [if_pos hi] at h
      rw [if_pos hi, ih t (by omega), Nat.mul_zero, Nat.zero_add]
      by_cases hp : p j ≤ t
      · rw [if_pos hp, ih (t - p j) (by omega), Nat.mul_zero]
      · rw [if_neg hp]
    · rw [if_neg hi] at h
      rw [if_neg hi, ih t h]
theorem oW_sum {x : Nat} {ins : Nat → Bool} {p : Nat → Nat} {d : Nat} : ∀ j s T, oH ins p j < T → sm (fun t => if d ≤ t + s then oW x ins p j t else 0) T = oE x ins p d j s := by
  intro j
  induction j with
  | zero =>
    intro s T h
    have h : 0 < T := h
    have hz : ∀ k, 0 < k → (if d ≤ k + s then oW x ins p 0 k else 0) = 0 := by
      intro k hk
      have e : oW x ins p 0 k = 0 := by rw [oW, if_neg (by omega)]
      rw [e]
      split <;> rfl
    rw [sm_first hz T h]
    rw [oW, if_pos rfl, oE, Nat.zero_add]
  | succ j ih =>
    intro s T h
    rw [oH] at h
    rw [oE]
    by_cases hi : ins j = true
    · rw [if_pos hi] at h
      rw [if_pos hi]
      have e : sm (fun t => if d ≤ t + s then oW x ins p (j + 1) t else 0) T = sm (fun t => x * (if d ≤ t + s then oW x ins p j t else 0) + (if p j ≤ t then (10 - x) * (if d ≤ t + s then oW x ins p j (t - p j) else 0) else 0)) T := by
        refine sm_congr T (fun t _ => ?_)
        rw [oW, if_pos hi]
        by_cases hd : d ≤ t + s
        · rw [if_pos hd, if_pos hd, if_pos hd]
        · rw [if_neg hd, if_neg hd, if_neg hd, Nat.mul_zero, Nat.mul_zero, Nat.zero_add]
          split <;> rfl
      rw [e, sm_plus, sm_mul, ih s T (by omega)]
      congr 1
      obtain ⟨U, rfl⟩ : ∃ U, T = p j + U := ⟨T - p j, by omega⟩
      rw [sm_add, sm_z (p j) (fun k hk => by rw [if_neg (by omega)]), Nat.zero_add]
      have e2 : sm (fun k => if p j ≤ p j + k then (10 - x) * (if d ≤ p j + k + s then oW x ins p j (p j + k - p j) else 0) else 0) U = sm (fun k => (10 - x) * (if d ≤ k + (s + p j) then oW x ins p j k else 0)) U := by
        refine sm_congr U (fun k _ => ?_)
        rw [if_pos (by omega), show p j + k - p j = k by omega, show p j + k + s = k + (s + p j) by omega]
      rw [e2, sm_mul, ih (s + p j) U (by omega)]
    · rw [if_neg hi] at h
      rw [if_neg hi, ← ih s T h]
      refine sm_congr T (fun t _ => ?_)
      rw [oW, if_neg hi]
/-- the ways from d on -/
theorem oW_up {x : Nat} {ins : Nat → Bool} {p : Nat → Nat} {d j : Nat} : sm (fun k => oW x ins p j (d + k)) (oH ins p j + 1 - d) = oE x ins p d j 0 := by
  rw [← oW_sum j 0 (oH ins p j + 1) (by omega)]
  by_cases h : d ≤ oH ins p j + 1
  · obtain ⟨U, hU⟩ : ∃ U, oH ins p j + 1 = d + U := ⟨oH ins p j + 1 - d, by omega⟩
    rw [hU, sm_add, sm_z d (fun k hk => by rw [if_neg (by omega)]), Nat.zero_add, Nat.add_sub_cancel_left]
    refine sm_congr U (fun k _ => ?_)
    rw [if_pos (by omega)]
  · rw [show oH ins p j + 1 - d = 0 by omega, sm_0, sm_z _ (fun k hk => by rw [if_neg (by omega)])]
def oT (x : Nat) (ins : Nat → Bool) (p : Nat → Nat) (d : Nat) : Nat → Nat → Nat → Nat
  | 0, s, _ => if d ≤ s then 1 else 0
  | j + 1, s, u => if u.testBit j = true then (if ins j = true then (10 - x) * oT x ins p d j (s + p j) u else 0) else (if ins j = true then x * oT x ins p d j s u else oT x ins p d j s u)
theorem oT_low {x : Nat} {ins : Nat → Bool} {p : Nat → Nat} {d : Nat} : ∀ j s u u', (∀ i, i < j → u.testBit i = u'.testBit i) → oT x ins p d j s u = oT x ins p d j s u' := by
  intro j
  induction j with
  | zero => intro s u u' _; rfl
  | succ j ih =>
    intro s u u' h
    rw [oT, oT, h j (by omega), ih s u u' (fun i hi => h i (by omega)), ih (s + p j) u u' (fun i hi => h i (by omega))]
theorem oT_sum {x : Nat} {ins : Nat → Bool} {p : Nat → Nat} {d : Nat} : ∀ j s, sm (fun u => oT x ins p d j s u) (2 ^ j) = oE x ins p d j s := by
  intro j
  induction j with
  | zero =>
    intro s
    show sm _ 1 = _
    rw [sm_succ, sm_0, Nat.zero_add, oT, oE]
  | succ j ih =>
    intro s
    rw [Nat.pow_succ, Nat.mul_two, sm_add, oE]
    have e1 : ∀ k, k < 2 ^ j → k.testBit j = false := fun k hk => Nat.testBit_lt_two_pow hk
    have e2 : ∀ k, k < 2 ^ j → (2 ^ j + k).testBit j = true := fun k hk => by rw [Nat.testBit_two_pow_add_eq, e1 k hk]; rfl
    have e3 : ∀ k i, i < j → (2 ^ j + k).testBit i = k.testBit i := fun k i hi => Nat.testBit_two_pow_add_gt hi k
    by_cases hi : ins j = true
    · rw [if_pos hi]
      congr 1
      · rw [← ih s, ← sm_mul]
        refine sm_congr _ (fun u hu => ?_)
        rw [oT, e1 u hu, if_neg (by decide), if_pos hi]
      · rw [← ih (s + p j), ← sm_mul]
        refine sm_congr _ (fun u hu => ?_)
        rw [oT, e2 u hu, if_pos rfl, if_pos hi, oT_low j (s + p j) (2 ^ j + u) u (fun i hij => e3 u i hij)]
    · rw [if_neg hi, sm_z (f := fun k => oT x ins p d (j + 1) s (2 ^ j + k)) (2 ^ j) (fun u hu => by rw [oT, e2 u hu, if_pos rfl, if_neg hi]), Nat.add_zero, ← ih s]
      refine sm_congr _ (fun u hu => ?_)
      rw [oT, e1 u hu, if_neg (by decide), if_neg hi]
def oL (p : Nat → Nat) (u : Nat) (j : Nat) : Nat := sm (fun i => if u.testBit i = true then p i else 0) j
theorem oC_le {ins : Nat → Bool} {u : Nat} : ∀ j, (∀ i, i < j → u.testBit i = true → ins i = true) → cN (fun i => u.testBit i) j ≤ cN ins j := by
  intro j
  induction j with
  | zero => intro _; exact Nat.le_refl _
  | succ j ih =>
    intro h
    have := ih (fun i hi => h i (by omega))
    rw [cN_succ, cN_succ]
    by_cases hb : u.testBit j = true
    · rw [if_pos hb, if_pos (h j (by omega) hb)]; omega
    · rw [if_neg hb]
      split <;> omega
theorem oT_in {x : Nat} {ins : Nat → Bool} {p : Nat → Nat} {d u : Nat} : ∀ j s, (∀ i, i < j → u.testBit i = true → ins i = true) → oT x ins p d j s u = if d ≤ s + oL p u j then (10 - x) ^ cN (fun i => u.testBit i) j * x ^ (cN ins j - cN (fun i => u.testBit i) j) else 0 := by
  intro j
  induction j with
  | zero =>
    intro s _
    rw [oT]
    rfl
  | succ j ih =>
    intro s h
    have h' : ∀ i, i < j → u.testBit i = true → ins i = true := fun i hi => h i (by omega)
    have hle := oC_le (ins := ins) (u := u) j h'
    have eL : oL p u (j + 1) = oL p u j + (if u.testBit j = true then p j else 0) := rfl
    rw [oT, cN_succ, cN_succ, eL]
    by_cases hb : u.testBit j = true
    · have hi := h j (by omega) hb
      rw [if_pos hb, if_pos hi, if_pos hb, if_pos hi, if_pos hb, ih (s + p j) h', show s + p j + oL p u j = s + (oL p u j + p j) by omega, Nat.add_sub_add_right]
      by_cases hd : d ≤ s + (oL p u j + p j)
      · rw [if_pos hd, if_pos hd, Nat.pow_succ, Nat.mul_comm _ (10 - x), Nat.mul_assoc]
      · rw [if_neg hd, if_neg hd, Nat.mul_zero]
    · rw [if_neg hb, if_neg hb, if_neg hb, Nat.add_zero, ih s h']
      by_cases hi : ins j = true
      · rw [if_pos hi, if_pos hi, show cN ins j + 1 - cN (fun i => u.testBit i) j = cN ins j - cN (fun i => u.testBit i) j + 1 by omega]
        by_cases hd : d ≤ s + oL p u j
        · rw [if_pos hd, if_pos hd, Nat.pow_succ, Nat.mul_comm x, Nat.mul_assoc]
        · rw [if_neg hd, if_neg hd, Nat.mul_zero]
      · rw [if_neg hi, if_neg hi]
theorem oT_out {x : Nat} {ins : Nat → Bool} {p : Nat → Nat} {d u : Nat} : ∀ j s i, i < j → u.testBit i = true → ¬ ins i = true → oT x ins p d j s u = 0 := by
  intro j
  induction j with
  | zero => intro s i hi; omega
  | succ j ih =>
    intro s i hi hb hn
    rw [oT]
    by_cases hij : i = j
    · subst hij
      rw [if_pos hb, if_neg hn]
    · rw [ih s i (by omega) hb hn, ih (s + p j) i (by omega) hb hn]
      split
      · split <;> simp
      · split <;> simp
/-- all in all at most ten to the power of how many -/
theorem oE_le {x : Nat} {ins : Nat → Bool} {p : Nat → Nat} {d : Nat} (hx : x ≤ 10) : ∀ j s, oE x ins p d j s ≤ 10 ^ cN ins j := by
  intro j
  induction j with
  | zero =>
    intro s
    rw [oE]
    show _ ≤ 1
    split <;> omega
  | succ j ih =>
    intro s
    rw [oE, cN_succ]
    by_cases hi : ins j = true
    · rw [if_pos hi, if_pos hi, Nat.pow_succ]
      have h1 := Nat.mul_le_mul_left x (ih s)
      have h2 := Nat.mul_le_mul_left (10 - x) (ih (s + p j))
      have h3 : x * 10 ^ cN ins j + (10 - x) * 10 ^ cN ins j = 10 ^ cN ins j * 10 := by
        rw [← Nat.add_mul, show x + (10 - x) = 10 by omega, Nat.mul_comm]
      omega
    · rw [if_neg hi, if_neg hi]
      exact ih s
/-- Euclid -/
def eu : Nat → Nat → Nat → Option Nat
  | 0, _, _ => none
  | f + 1, a, b => if b = 0 then some a else eu f b (a % b)
theorem eu_gcd : ∀ k a b f, b < 2 ^ k → 2 * k < f → eu f a b = some (Nat.gcd a b) := by
  intro k
  induction k with
  | zero =>
    intro a b f hb hf
    obtain ⟨f, rfl⟩ : ∃ q, f = q + 1 := ⟨f - 1, by omega⟩
    obtain rfl : b = 0 := by omega
    rw [eu, if_pos rfl, Nat.gcd_zero_right]
  | succ k ih =>
    intro a b f hb hf
    obtain ⟨f, rfl⟩ : ∃ q, f = q + 1 + 1 := ⟨f - 2, by omega⟩
    rw [eu]
    by_cases h0 : b = 0
    · subst h0
      rw [if_pos rfl, Nat.gcd_zero_right]
    · rw [if_neg h0, eu]
      have e1 : Nat.gcd b (a % b) = Nat.gcd a b := by rw [Nat.gcd_comm b, ← Nat.gcd_rec, Nat.gcd_comm]
      by_cases h1 : a % b = 0
      · rw [if_pos h1]
        rw [h1, Nat.gcd_zero_right] at e1
        exact congrArg some e1
      · rw [if_neg h1]
        have hlt : a % b < b := Nat.mod_lt _ (by omega)
        have hlt2 : b % (a % b) < a % b := Nat.mod_lt _ (by omega)
        have hd := Nat.div_add_mod b (a % b)
        have hq : 1 ≤ b / (a % b) := Nat.div_pos (Nat.le_of_lt hlt) (by omega)
        have hm : a % b ≤ a % b * (b / (a % b)) := Nat.le_mul_of_pos_right _ hq
        have hp : 2 ^ (k + 1) = 2 ^ k * 2 := Nat.pow_succ 2 k
        have e2 : Nat.gcd (a % b) (b % (a % b)) = Nat.gcd b (a % b) := by rw [Nat.gcd_comm (a % b), ← Nat.gcd_rec, Nat.gcd_comm]
        rw [ih (a % b) (b % (a % b)) f (by omega) (by omega), e2, e1]
