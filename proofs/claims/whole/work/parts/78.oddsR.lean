/-! odds: the reference's sum over all sets, and the two together -/
theorem r_gcd {M : zM} {x1 x2 : Int32} {x6 x8 : Int64} {g : Nat} : ∀ f n a b, eu f a b = some g → f ≤ n → a < 2 ^ 63 → b < 2 ^ 63 → f_X12_odds_199 x1 x2 n M x6 x8 (lN a) (lN b) = if x2 = 0 then f_X12_odds_235 x1 x2 M (lN g) x6 else f_X12_odds_235 x1 x2 M (lN g) x8 := by
  intro f
  induction f with
  | zero =>
    intro n a b h
    rw [eu] at h
    cases h
  | succ f ih =>
    intro n a b h hn ha hb
    obtain ⟨n, rfl⟩ : ∃ m, n = m + 1 := ⟨n - 1, by omega⟩
    rw [eu] at h
    rw [f_X12_odds_199]
    by_cases h0 : b = 0
    · rw [if_pos h0] at h
      have e : a = g := Option.some.inj h
      rw [e, if_pos ((lg_cmp_eq _ _).mpr (by rw [h0]; rfl))]
    · rw [if_neg h0] at h
      have hb0 : ¬ lN b = 0 := fun q => h0 ((pk_lEQ (b := 0) hb (by decide)).mp q)
      rw [if_neg (fun q => hb0 ((lg_cmp_eq _ _).mp q)), zg_t (show znL (lN b) = true from decide_eq_true hb0), pk_lRem ha (by omega) hb]
      exact ih n b (a % b) h (by omega) hb (Nat.lt_of_le_of_lt (Nat.mod_le _ _) ha)
theorem r_power5 {M : zM} {a e : Nat} (he : e ≤ 9) : ∀ k j n, j + k = e → k < n → f_X12_power_5 (lN a) (nI e) n M (lN (a ^ j)) (nI j) = some (lN (a ^ e), M) := by
  intro k
  induction k with
  | zero =>
    intro j n hj hn
    obtain ⟨n, rfl⟩ : ∃ m, n = m + 1 := ⟨n - 1, by omega⟩
    obtain rfl : j = e := by omega
    rw [f_X12_power_5, if_pos (Int32.le_refl _)]
  | succ k ih =>
    intro j n hj hn
    obtain ⟨n, rfl⟩ : ∃ m, n = m + 1 := ⟨n - 1, by omega⟩
    rw [f_X12_power_5, if_neg (nI_ge (by omega) (by omega)), lN_mul, ← Nat.pow_succ, nI_1]
    exact ih (j + 1) n (by omega) (by omega)
theorem r_pow (M : zM) {a e : Nat} (he : e ≤ 9) : f_X12_power M (lN a) (nI e) = some (lN (a ^ e), M) := by
  have := r_power5 (M := M) (a := a) he e 0 zFU (by omega) (zFU_gt (by omega))
  rw [Nat.pow_zero] at this
  exact this
theorem r_hasN (M : zM) {u j : Nat} (hu : u < 512) (hj : j < 9) : f_X12_has M (nI u) (nI j) = some (if u.testBit j = true then 1 else 0, M) := by
  show f_X12_has_0 _ _ M = _
  rw [f_X12_has_0]
  by_cases h : u.testBit j = true
  · rw [if_pos ((bit_has hu hj).mpr h), if_pos h]
  · rw [if_neg (fun q => h ((bit_has hu hj).mp q)), if_neg h]
theorem oL_le {p : Nat → Nat} {u : Nat} : ∀ j, (∀ g, g < j → p g ≤ 9) → oL p u j ≤ 9 * j := by
  intro j
  induction j with
  | zero => intro _; exact Nat.le_refl _
  | succ j ih =>
    intro h
    have h1 := ih (fun g hg => h g (by omega))
    have h2 := h j (by omega)
    show oL p u j + (if u.testBit j = true then p j else 0) ≤ _
    split <;> omega
theorem r_o82 {M : zM} {G S v d c u s : Nat} {p : Nat → Nat} {x2 x3 : Int32} {k59 : zM → Int32 → Int32 → Int32 → Int64 → Int32 → Option (Int32 × zM)} (X : zRx M 28 G S) (hv : v ≤ 10) (hp : ∀ g, g < G → p g ≤ 9 ∧ M.1 27 (M.1 28 (2 + g)).toNatClampNeg = nI (p g)) (hu : u < 512) (hd : d ≤ 100) (hc : c ≤ 9) (hcu : cN (fun i => u.testBit i) 9 ≤ c) : ∀ k j n, j + k = G → k < n → f_X12_odds_82 (nI v) x2 k59 n M x3 (nI c) (nI d) (lN s) (nI u) (nI (oL p u j)) (nI j) = k59 M x3 (nI c) (nI d) (lN (s + (if d ≤ oL p u G then (10 - v) ^ cN (fun i => u.testBit i) 9 * v ^ (c - cN (fun i => u.testBit i) 9) else 0))) (nI (u + 1)) := by
  have h9 : G ≤ 9 := X.2.2.1
  have h6 : S ≤ 6 := X.2.2.2.1
  have hG : M.1 28 0 = nI G := X.2.1
  intro k
  induction k with
  | zero =>
    intro j n hj hn
    obtain ⟨n, rfl⟩ : ∃ m, n = m + 1 := ⟨n - 1, by omega⟩
    obtain rfl : j = G := by omega
    have hL := oL_le (p := p) (u := u) j (fun g hg => (hp g hg).1)
    rw [f_X12_odds_82, zg_t (by decide), sb_cl0, hG, if_pos (Int32.le_refl _)]
    by_cases h : d ≤ oL p u j
    · rw [if_pos (nI_le h (by omega)), if_pos h, r_bits M hu, zbi_s, zbc_pc u hu, show (10 : Int32) - nI v = nI (10 - v) from pk_sub (a := 10) hv, nI_l (n := 10 - v) (by omega), r_pow M (by omega), zbi_s, r_bits M hu, zbi_s, zbc_pc u hu, nI_l (n := v) (by omega), pk_sub hcu, r_pow M (by omega), zbi_s, f_X12_odds_172, lN_mul, lN_add, nI_1]
    · rw [if_neg (nI_ge (by omega) (by omega)), if_neg h, f_X12_odds_172, show (0 : Int64) = lN 0 from rfl, lN_add, nI_1]
  | succ k ih =>
    intro j n hj hn
    obtain ⟨n, rfl⟩ : ∃ m, n = m + 1 := ⟨n - 1, by omega⟩
    have hjG : j < G := by omega
    have eL : oL p u (j + 1) = oL p u j + (if u.testBit j = true then p j else 0) := rfl
    have hi := ih (j + 1) n (by omega) (by omega)
    rw [eL] at hi
    rw [f_X12_odds_82, zg_t (by decide), sb_cl0, hG, if_neg (nI_ge hjG (by omega)), r_hasN M hu (by omega), zbi_s]
    by_cases hb : u.testBit j = true
    · obtain ⟨x, hx, e⟩ := X.2.2.2.2 j hjG
      have e : M.1 28 (2 + j) = nI x := e
      rw [if_pos hb] at hi
      rw [if_pos hb, if_neg (by decide), ix2, zg_in (j := 2 + j) (by omega) (by decide), nI_clamp (n := 2 + j) (by omega), zg_t (show zin (M.1 28 (2 + j)) 6 = true by rw [e]; exact zin_t (by omega) (by decide)), (hp j hjG).2, f_X12_odds_123, nI_add, nI_1]
      exact hi
    · rw [if_neg hb] at hi
      rw [if_neg hb, if_pos rfl, f_X12_odds_123, show (0 : Int32) = nI 0 from rfl, nI_add, nI_1]
      exact hi
theorem sub_bits {u m : Nat} (hu : u < 512) (hm : m < 512) : (nI u &&& (nI m ^^^ (-1 : Int32))) = 0 ↔ ∀ i, i < 9 → u.testBit i = true → m.testBit i = true := by
  have key : ∀ i, i < 32 → (nI u &&& (nI m ^^^ (-1 : Int32))).toBitVec.getLsbD i = (u.testBit i && !m.testBit i) := by
    intro i hi
    show (BitVec.ofNat 32 u &&& (BitVec.ofNat 32 m ^^^ BitVec.allOnes 32)).getLsbD i = _
    rw [BitVec.getLsbD_and, BitVec.getLsbD_xor, BitVec.getLsbD_ofNat, BitVec.getLsbD_ofNat, BitVec.getLsbD_allOnes, decide_eq_true hi, Bool.true_and, Bool.true_and, Bool.xor_true]
  constructor
  · intro h i hi hb
    have := key i (by omega)
    rw [h, hb] at this
    have h0 : (0 : Int32).toBitVec.getLsbD i = false := by
      show (BitVec.ofNat 32 0).getLsbD i = false
      simp
    rw [h0, Bool.true_and] at this
    cases hm' : m.testBit i with
    | true => rfl
    | false => rw [hm'] at this; cases this
  · intro h
    apply Int32.toBitVec_inj.1
    apply BitVec.eq_of_getLsbD_eq
    intro i hi
    rw [key i hi]
    have h0 : (0 : Int32).toBitVec.getLsbD i = false := by
      show (BitVec.ofNat 32 0).getLsbD i = false
      simp
    rw [h0]
    cases hb : u.testBit i with
    | false => rfl
    | true =>
      by_cases h9 : i < 9
      · rw [h i h9 hb]; rfl
      · have : u.testBit i = false := Nat.testBit_lt_two_pow (Nat.lt_of_lt_of_le hu (show 2 ^ 9 ≤ 2 ^ i from Nat.pow_le_pow_right (by decide) (by omega)))
        rw [this] at hb
        cases hb
theorem oE_up {x : Nat} {ins : Nat → Bool} {p : Nat → Nat} {d G : Nat} (hG : ∀ j, ins j = true → j < G) : ∀ k s, oE x ins p d (G + k) s = oE x ins p d G s := by
  intro k
  induction k with
  | zero => intro s; rfl
  | succ k ih =>
    intro s
    rw [show G + (k + 1) = G + k + 1 by omega, oE, if_neg (fun q => by have := hG _ q; omega), ih s]
theorem oL_up {p : Nat → Nat} {u G : Nat} (hG : ∀ j, j < 9 → u.testBit j = true → j < G) : ∀ k, G + k ≤ 9 → oL p u (G + k) = oL p u G := by
  intro k
  induction k with
  | zero => intro _; rfl
  | succ k ih =>
    intro h
    show oL p u (G + k) + (if u.testBit (G + k) = true then p (G + k) else 0) = _
    rw [if_neg (fun q => by have := hG _ (by omega) q; omega), ih (by omega), Nat.add_zero]
theorem r_o59 {M : zM} {G S v d c m : Nat} {p : Nat → Nat} {ins : Nat → Bool} {x2 : Int32} (X : zRx M 28 G S) (hv : v ≤ 10) (hp : ∀ g, g < G → p g ≤ 9 ∧ M.1 27 (M.1 28 (2 + g)).toNatClampNeg = nI (p g)) (hd : d ≤ 100) (hm : m < 512) (hb : ∀ j, m.testBit j = ins j) (hG : ∀ j, ins j = true → j < G) (hc : cN ins 9 = c) : ∀ k u n, u + k = 512 → k < n → f_X12_odds_59 (nI v) x2 n M (nI m) (nI c) (nI d) (lN (sm (fun q => oT v ins p d 9 0 q) u)) (nI u) = zbi (f_X12_power M 10 (nI c)) (fun r3 M4 => f_X12_odds_199 (nI v) x2 zFU M4 (lN (oE v ins p d 9 0)) r3 (lN (oE v ins p d 9 0)) r3) := by
  have h9 : G ≤ 9 := X.2.2.1
  have hc9 : c ≤ 9 := by rw [← hc]; exact cN_le _ _
  intro k
  induction k with
  | zero =>
    intro u n hu hn
    obtain ⟨n, rfl⟩ : ∃ m, n = m + 1 := ⟨n - 1, by omega⟩
    obtain rfl : u = 512 := by omega
    have e : sm (fun q => oT v ins p d 9 0 q) 512 = oE v ins p d 9 0 := oT_sum 9 0
    rw [f_X12_odds_59, if_pos (show (512 : Int32) ≤ nI 512 from Int32.le_refl _), e]
  | succ k ih =>
    intro u n hu hn
    obtain ⟨n, rfl⟩ : ∃ m, n = m + 1 := ⟨n - 1, by omega⟩
    have hu5 : u < 512 := by omega
    have hi := ih (u + 1) n (by omega) (by omega)
    rw [sm_succ] at hi
    rw [f_X12_odds_59, if_neg (show ¬ (512 : Int32) ≤ nI u from nI_ge (b := 512) hu5 (by decide))]
    rcases Classical.em (∃ i, i < 9 ∧ u.testBit i = true ∧ ¬ ins i = true) with ⟨i, i1, i2, i3⟩ | hn2
    · rw [oT_out 9 0 i i1 i2 i3, Nat.add_zero] at hi
      rw [if_neg (fun q => i3 (by rw [← hb i]; exact (sub_bits hu5 hm).mp q i i1 i2)), nI_1]
      exact hi
    · have hs : ∀ i, i < 9 → u.testBit i = true → ins i = true := fun i i1 i2 => Classical.byContradiction fun i3 => hn2 ⟨i, i1, i2, i3⟩
      have hcu : cN (fun i => u.testBit i) 9 ≤ c := by rw [← hc]; exact oC_le 9 hs
      have eu := oL_up (p := p) (u := u) (G := G) (fun j j1 j2 => hG j (hs j j1 j2)) (9 - G) (by omega)
      rw [show G + (9 - G) = 9 by omega] at eu
      rw [oT_in 9 0 hs, Nat.zero_add, eu, hc] at hi
      rw [if_pos ((sub_bits hu5 hm).mpr (fun i i1 i2 => by rw [hb i]; exact hs i i1 i2))]
      exact Eq.trans (r_o82 X hv hp hu5 hd hc9 hcu G 0 zFU (by omega) (zFU_gt (by omega))) hi
theorem r_odds {M : zM} {G S v d w c m u : Nat} {p : Nat → Nat} {ins : Nat → Bool} (X : zRx M 28 G S) (hv : v ≤ 10) (hw : w < 2) (hp : ∀ g, g < G → p g ≤ 9 ∧ M.1 27 (M.1 28 (2 + g)).toNatClampNeg = nI (p g)) (hd2 : d ≤ 100) (hm : m < 512) (hb : ∀ j, m.testBit j = ins j) (hG : ∀ j, ins j = true → j < G) (hc : cN ins 9 = c) (hwho : aWho (fun g => M.1 28 (20 + g)) 1 G = nI m) (hz : zbc (nI m) = nI c) (hd : M.1 25 2 + zbc (nI m) = nI d) (hu : oE v ins p d G 0 = u) (hu9 : u < 2 ^ 30) : f_X12_odds M (nI v) (nI w) = some (if c = 0 then nI w else nI (if w = 0 then u / Nat.gcd u (10 ^ c) else 10 ^ c / Nat.gcd u (10 ^ c)), M) := by
  have h9 : G ≤ 9 := X.2.2.1
  have hc9 : c ≤ 9 := by rw [← hc]; exact cN_le _ _
  have hbw : f_X12_bits M (nI m) = some (nI c, M) := by rw [r_bits M hm, hz]
  have hdr : f_X12_dragOn M 28 = some (nI d, M) := by rw [r0_dragOn X, hwho, hd]
  show f_X12_odds_0 (nI v) (nI w) M = _
  rw [f_X12_odds_0, r_inT (a := 0) (b := 10) rfl rfl (by rw [nI_t (by omega)]; omega), zbi_s, if_neg (by decide), r_isBitT hw, zbi_s, if_neg (by decide), r0_those X, zbi_s, hwho, hbw, zbi_s]
  by_cases h0 : c = 0
  · rw [if_pos (show nI c = 0 by rw [h0]; rfl), if_pos h0]
  · rw [if_neg (nI_ne0 (by omega) (by omega)), if_neg h0, hdr, zbi_s]
    have e9 := oE_up (x := v) (p := p) (d := d) hG (9 - G) 0
    rw [show G + (9 - G) = 9 by omega, hu] at e9
    have hc1 : 10 ^ c ≤ 10 ^ 9 := Nat.pow_le_pow_right (by decide) hc9
    have hc3 : 10 ^ c < 2 ^ 30 := Nat.lt_of_le_of_lt hc1 (by decide)
    have hc2 : 10 ^ c < 2 ^ 63 := Nat.lt_of_le_of_lt hc1 (by decide)
    have hc0 : 0 < 10 ^ c := Nat.pow_pos (by decide)
    have hg0 : 0 < Nat.gcd u (10 ^ c) := Nat.gcd_pos_of_pos_right _ hc0
    have hg1 : Nat.gcd u (10 ^ c) ≤ 10 ^ c := Nat.gcd_le_right _ hc0
    have hr := r_o59 (x2 := nI w) X hv hp hd2 hm hb hG hc 512 0 zFU (by decide) (by decide)
    rw [e9, show (10 : Int64) = lN 10 from rfl, r_pow M hc9, zbi_s, r_gcd 70 zFU u (10 ^ c) (eu_gcd 30 _ _ 70 hc3 (by decide)) (by decide) (by omega) hc2] at hr
    have fin : ∀ a : Nat, a < 2 ^ 63 → f_X12_odds_235 (nI v) (nI w) M (lN (Nat.gcd u (10 ^ c))) (lN a) = some (nI (a / Nat.gcd u (10 ^ c)), M) := by
      intro a ha
      have h2 : ¬ lN (Nat.gcd u (10 ^ c)) = 0 := fun q => by
        have := (pk_lEQ (a := Nat.gcd u (10 ^ c)) (b := 0) (by omega) (by decide)).mp q
        omega
      rw [f_X12_odds_235, zg_t (show znL (lN (Nat.gcd u (10 ^ c))) = true from decide_eq_true h2), pk_lDiv ha hg0 (by omega), lN_i]
    refine Eq.trans hr ?_
    by_cases hw0 : w = 0
    · rw [if_pos hw0, if_pos (show nI w = 0 by rw [hw0]; rfl), fin u (by omega)]
    · rw [if_neg hw0, if_neg (nI_ne0 (by omega) (by omega)), fin _ hc2]
