/-! sets of nine as bits -/
theorem fa_or (a b : Nat) : nI a ||| nI b = nI (a ||| b) := by
  apply Int32.toBitVec_inj.1
  show BitVec.ofNat 32 a ||| BitVec.ofNat 32 b = BitVec.ofNat 32 (a ||| b)
  apply BitVec.eq_of_getLsbD_eq
  intro i hi
  simp [hi]
theorem zbit_n : ∀ j, j < 9 → zbit j = nI (2 ^ j) := by decide
def bN (P : Nat → Bool) (G : Nat) : Nat := zfo (fun j a => if P j = true then a ||| 2 ^ j else a) G 0
theorem bN_succ (P : Nat → Bool) (n : Nat) : bN P (n + 1) = if P n = true then bN P n ||| 2 ^ n else bN P n := rfl
theorem bN_test (P : Nat → Bool) (i : Nat) : ∀ G, (bN P G).testBit i = (decide (i < G) && P i) := by
  intro G
  induction G with
  | zero =>
    show Nat.testBit 0 i = _
    rw [Nat.zero_testBit, decide_eq_false (Nat.not_lt_zero _), Bool.false_and]
  | succ n ih =>
    rw [bN_succ]
    by_cases hP : P n = true
    · rw [if_pos hP, Nat.testBit_or, ih, Nat.testBit_two_pow]
      by_cases hi : n = i
      · subst hi
        rw [decide_eq_false (Nat.lt_irrefl _), Bool.false_and, Bool.false_or, decide_eq_true rfl, decide_eq_true (Nat.lt_succ_self _), hP]
        rfl
      · rw [decide_eq_false hi, Bool.or_false]
        by_cases h : i < n
        · rw [decide_eq_true h, decide_eq_true (Nat.lt_succ_of_lt h)]
        · rw [decide_eq_false h, decide_eq_false (by omega)]
    · rw [if_neg hP, ih]
      by_cases hi : n = i
      · subst hi
        rw [decide_eq_false (Nat.lt_irrefl _), Bool.false_and]
        cases h : P n with
        | false => rw [Bool.and_false]
        | true => exact absurd h hP
      · by_cases h : i < n
        · rw [decide_eq_true h, decide_eq_true (Nat.lt_succ_of_lt h)]
        · rw [decide_eq_false h, decide_eq_false (by omega)]
theorem bN_lt (P : Nat → Bool) (G : Nat) : bN P G < 2 ^ G := by
  refine Nat.lt_pow_two_of_testBit _ (fun i hi => ?_)
  rw [bN_test, decide_eq_false (by omega), Bool.false_and]
theorem bN_512 (P : Nat → Bool) {G : Nat} (h : G ≤ 9) : bN P G < 512 := Nat.lt_of_lt_of_le (bN_lt P G) (Nat.pow_le_pow_right (by decide) h)
theorem bits_of {Q : Nat → Prop} [DecidablePred Q] : ∀ G, G ≤ 9 → zfo (fun j (a : Int32) => if Q j then a ||| zbit j else a) G 0 = nI (bN (fun j => decide (Q j)) G) := by
  intro G
  induction G with
  | zero => intro _; rfl
  | succ n ih =>
    intro h
    show (if Q n then zfo _ n 0 ||| zbit n else zfo _ n 0) = _
    rw [ih (by omega), bN_succ]
    by_cases hq : Q n
    · rw [if_pos hq, decide_eq_true hq, if_pos rfl, zbit_n n (by omega), fa_or]
    · rw [if_neg hq, decide_eq_false hq, if_neg (by decide)]
theorem who_bits (wh : Nat → Int32) (w : Int32) {G : Nat} (h : G ≤ 9) : aWho wh w G = nI (bN (fun j => decide (wh j = w)) G) := bits_of (Q := fun j => wh j = w) G h
theorem room_bits (wh pl : Nat → Int32) (p : Int32) {G : Nat} (h : G ≤ 9) : aRoom wh pl p G = nI (bN (fun j => decide (wh j = 1 ∧ pl j = p)) G) := bits_of (Q := fun j => wh j = 1 ∧ pl j = p) G h
theorem sm9 : ∀ j, j < 9 → ((nI j &&& 31).toBitVec.smod 32).toNat = j := by decide
theorem bit_at {n j : Nat} (hn : n < 512) (hj : j < 9) : (nI n >>> (nI j &&& 31)) &&& 1 = nI (n / 2 ^ j % 2) := by
  rw [pk_shrN (by omega) _ j (sm9 j hj)]
  have h := pk_andN (n := n / 2 ^ j) (m := 1) (Nat.lt_of_le_of_lt (Nat.div_le_self _ _) (by omega)) 1 (by decide)
  rw [h]
theorem bit_has {n j : Nat} (hn : n < 512) (hj : j < 9) : ((nI n >>> (nI j &&& 31)) &&& 1 = 1) ↔ n.testBit j = true := by
  rw [bit_at hn hj, Nat.testBit_eq_decide_div_mod_eq, decide_eq_true_iff]
  have h2 : n / 2 ^ j % 2 < 2 := Nat.mod_lt _ (by decide)
  constructor
  · intro h
    have := (nI_eq (a := n / 2 ^ j % 2) (b := 1) (by omega) (by decide)).mp h
    exact this
  · intro h
    rw [h]
    rfl
/-- the reference's count of bits -/
def bL : Nat → Int32 → Int32 → Option Int32
  | 0, _, _ => none
  | k + 1, n, x => if x = 0 then some n else bL k (n + 1) (x &&& (x - 1))
theorem bL_f (M : zM) (x0 : Int32) : ∀ k n x, f_X12_bits_4 x0 k M n x = (bL k n x).map (fun r => (r, M)) := by
  intro k
  induction k with
  | zero => intro n x; rfl
  | succ k ih =>
    intro n x
    rw [f_X12_bits_4, bL]
    by_cases h : x = 0
    · rw [if_pos h, if_pos h]; rfl
    · rw [if_neg h, if_neg h, ih]
theorem bL_512 : ∀ n, n < 512 → bL 2000 0 (nI n) = some (zbc (nI n)) := by decide +kernel
theorem r_bits (M : zM) {n : Nat} (h : n < 512) : f_X12_bits M (nI n) = some (zbc (nI n), M) := by
  show f_X12_bits_4 (nI n) 2000 M 0 (nI n) = _
  rw [bL_f, bL_512 n h]
  rfl
