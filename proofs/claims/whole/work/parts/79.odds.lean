/-! odds: both answer alike -/
theorem bN_none (P : Nat → Bool) : ∀ G, (∀ k, k < G → ¬ P k = true) → bN P G = 0 := by
  intro G
  induction G with
  | zero => intro _; rfl
  | succ n ih =>
    intro h
    rw [bN_succ, if_neg (h n (by omega)), ih (fun k hk => h k (by omega))]
theorem p_odds {n : Nat} {M : zM} (X : wI n M) (x y : Int32) : wOp n M (fun M => f_X11_odds M x y) (fun M => f_X12_odds M x y) := by
  obtain ⟨R, W, H, S, a1, ⟨G, K, a2⟩, a3, a4, a5, a6, a7⟩ := id X
  obtain ⟨A, L⟩ := M
  have hx := a2.cx a1 (by omega)
  have hr := a2.rx a1 (by omega)
  have h9 := hx.2.2.1
  have no : x < 0 ∨ nI 11 ≤ x → wOp n (A, L) (fun M => f_X11_odds M x y) (fun M => f_X12_odds M x y) := by
    intro h
    refine wOp_same X (-1) ?_ ?_
    · show f_X11_odds_0 x y (A, L) = _
      rw [f_X11_odds_0]
      by_cases h1 : x < 0
      · rw [if_pos h1]
      · have h2 := big_t (h.resolve_left h1) (by decide)
        rw [if_neg h1, if_pos ((i_lt (10 : Int32) x).mpr (by show (10 : Int) < x.toInt; omega))]
    · show f_X12_odds_0 x y (A, L) = _
      rw [f_X12_odds_0, r_inF (a := 0) (b := 10) rfl rfl, zbi_s, if_pos rfl]
      intro q
      rcases h with h | h
      · have := neg_t h
        omega
      · have := big_t h (by decide)
        omega
  rcases pk_ix x (n := 11) (by decide) with h | h | ⟨v, hv, rfl⟩
  · exact no (Or.inl h)
  · exact no (Or.inr h)
  have hv : v ≤ 10 := by omega
  have no2 : y < 0 ∨ nI 2 ≤ y → wOp n (A, L) (fun M => f_X11_odds M (nI v) y) (fun M => f_X12_odds M (nI v) y) := by
    intro h
    refine wOp_same X (-1) ?_ ?_
    · show f_X11_odds_0 (nI v) y (A, L) = _
      rw [f_X11_odds_0, if_neg (nI_pos (by omega)), if_neg (show ¬ (10 : Int32) < nI v from nI_nlt (a := 10) hv (by decide))]
      by_cases h1 : y < 0
      · rw [if_pos h1]
      · rw [if_neg h1, if_neg (show ¬ y ≤ (1 : Int32) from big_nle (m := 1) (h.resolve_left h1) (by decide) (by decide))]
    · show f_X12_odds_0 (nI v) y (A, L) = _
      rw [f_X12_odds_0, r_inT (a := 0) (b := 10) rfl rfl (by rw [nI_t (by omega)]; omega), zbi_s, if_neg (by decide), r_isBitF h, zbi_s, if_pos rfl]
  rcases pk_ix y (n := 2) (by decide) with h | h | ⟨w, hw, rfl⟩
  · exact no2 (Or.inl h)
  · exact no2 (Or.inr h)
  have hX : ∀ L, zCx (A, L) 37 G S := fun L' => hx
  have hR : ∀ L, zRx (A, L) 28 G S := fun L' => hr
  have hwr : aWho (A 40) 1 G = aWho (fun g => A 28 (20 + g)) 1 G := aWho_rel (fun g hg => (a2.si g hg).1)
  generalize hP : (fun j => decide (A 40 j = 1)) = P
  have hwm : aWho (A 40) 1 G = nI (bN P G) := by rw [← hP]; exact who_bits (A 40) 1 h9
  have hm : bN P G < 512 := bN_512 P h9
  have hb : ∀ j, (bN P G).testBit j = (decide (j < G) && P j) := fun j => bN_test P j G
  generalize hins : (fun j => decide (j < G) && P j) = ins
  have hb : ∀ j, (bN P G).testBit j = ins j := fun j => by rw [hb j, ← hins]
  have hG : ∀ j, ins j = true → j < G := fun j hj => by
    rw [← hins] at hj
    exact of_decide_eq_true (Bool.and_eq_true_iff.mp hj).1
  have hi : ∀ g, g < G → (A 40 g = 1 ↔ ins g = true) := fun g hg => by
    rw [← hins, ← hP]
    constructor
    · intro h
      show (decide (g < G) && decide (A 40 g = 1)) = true
      rw [decide_eq_true hg, decide_eq_true h]
      rfl
    · intro h
      exact of_decide_eq_true (Bool.and_eq_true_iff.mp h).2
  have hz : zbc (nI (bN P G)) = nI (cN ins 9) := by
    rw [zbc_pc _ hm, show (fun j => (bN P G).testBit j) = ins from funext hb]
  have hc9 : cN ins 9 ≤ 9 := cN_le _ _
  have hH := a1.1.2.2.2.1
  have hd : A 3 2 + zbc (aWho (A 40) 1 G) = nI (H + cN ins 9) := by
    rw [hwm, hz, show A 3 2 = nI H from a1.2.1.2.2.1, nI_add]
  have hd' : A 25 2 + zbc (nI (bN P G)) = nI (H + cN ins 9) := by
    rw [hz, show A 25 2 = nI H from a1.2.2.1.2.2.1, nI_add]
  have hp : ∀ g, g < G → ∃ q, q ≤ 9 ∧ A 5 (A 38 g).toNatClampNeg = nI q := fun g hg => by
    obtain ⟨x, hx, e⟩ := (a2.2.1 g hg).1
    have e : A 38 g = nI x := e
    have h6 := a1.1.2.2.2.2
    rw [e, nI_clamp (by omega)]
    exact (a1.2.2.2 x hx).2.2.2
  generalize hpp : (fun g => (A 5 (A 38 g).toNatClampNeg).toNatClampNeg) = p
  have hp : ∀ g, g < G → p g ≤ 9 ∧ A 5 (A 38 g).toNatClampNeg = nI (p g) := fun g hg => by
    obtain ⟨q, hq, e⟩ := hp g hg
    have e2 : p g = q := by
      rw [← hpp]
      show (A 5 (A 38 g).toNatClampNeg).toNatClampNeg = q
      rw [e, nI_clamp (by omega)]
    rw [e2]
    exact ⟨hq, e⟩
  have hp' : ∀ g, g < G → p g ≤ 9 ∧ A 27 (A 28 (2 + g)).toNatClampNeg = nI (p g) := fun g hg => by
    have e : A 5 (A 38 g).toNatClampNeg = A 27 (A 28 (2 + g)).toNatClampNeg := (a2.ev a1 g hg).2.2
    rw [← e]
    exact hp g hg
  have hle := oE_le (x := v) (ins := ins) (p := p) (d := H + cN ins 9) hv G 0
  have hcG : cN ins G ≤ 9 := Nat.le_trans (cN_le _ _) h9
  have h109 : 10 ^ cN ins G ≤ 10 ^ 9 := Nat.pow_le_pow_right (by decide) hcG
  have hu9 : oE v ins p (H + cN ins 9) G 0 < 2 ^ 30 := Nat.lt_of_le_of_lt (Nat.le_trans hle h109) (by decide)
  generalize hue : oE v ins p (H + cN ins 9) G 0 = u at hu9
  have mid : ∀ (L' : Nat → Nat → Int64) (r : Int32), (∀ q, q ≠ 17 → L' q = L q) → f_X11_odds (A, L) (nI v) (nI w) = some (r, (A, L')) → f_X12_odds (A, L') (nI v) (nI w) = some (r, (A, L')) → wOp n (A, L) (fun M => f_X11_odds M (nI v) (nI w)) (fun M => f_X12_odds M (nI v) (nI w)) := fun L' r hL e1 e2 => ⟨r, (A, L'), (A, L'), e1, e2, wI_mono (Nat.le_succ _) (wI_tr X (fun q _ _ _ => rfl) rfl (fun j _ => rfl) hL)⟩
  have rr : ∀ L', f_X12_odds (A, L') (nI v) (nI w) = some (if cN ins 9 = 0 then nI w else nI (if w = 0 then u / Nat.gcd u (10 ^ cN ins 9) else 10 ^ cN ins 9 / Nat.gcd u (10 ^ cN ins 9)), (A, L')) := fun L' => r_odds (hR L') hv hw hp' (by omega) hm hb hG rfl (by rw [← hwm, hwr]) hz hd' hue hu9
  by_cases h0 : cN ins 9 = 0
  · have hno := (cN_zero ins 9).mp h0
    have hb0 : bN P G = 0 := bN_none P G (fun k hk hq => hno k (by omega) (by rw [← hins]; show (decide (k < G) && P k) = true; rw [decide_eq_true hk, hq]; rfl))
    have hw0 : aWho (A 40) 1 G = 0 := by rw [hwm, hb0]; rfl
    obtain ⟨L', e1, e2⟩ := c_odds (L := L) hX hv hw hp hi hd (by omega) (by rw [hwm]; exact hz) hc9 (if_pos hw0) (by decide)
    refine mid L' (nI w) e2 ?_ ?_
    · rw [e1, h0]
      obtain rfl | rfl : w = 0 ∨ w = 1 := by omega
      · rfl
      · rfl
    · rw [rr L', if_pos h0]
  · have hw0 : ¬ aWho (A 40) 1 G = 0 := fun q => h0 (by
      have e : nI (bN P G) = nI 0 := by rw [← hwm, q]; rfl
      have e2 : bN P G = 0 := (nI_eq (by omega) (by decide)).mp e
      have e3 := hz
      rw [e2] at e3
      have e4 : zbc (nI 0) = nI 0 := by decide
      rw [e4] at e3
      exact ((nI_eq (by decide) (by omega)).mp e3).symm)
    obtain ⟨L', e1, e2⟩ := c_odds (L := L) hX hv hw hp hi hd (by omega) (by rw [hwm]; exact hz) hc9 ((if_neg hw0).trans hue) hu9
    refine mid L' _ e2 e1 ?_
    rw [rr L', if_neg h0, Nat.gcd_comm]
