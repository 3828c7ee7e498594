/-! odds: the class's ways -/
def lU (L : Nat → Nat → Int64) (j : Nat) (v : Int64) : Nat → Nat → Int64 := fun q => if q = 17 then vp_updL (L 17) j v else L q
theorem lU_i (L : Nat → Nat → Int64) (j : Nat) (v : Int64) (i : Nat) : lU L j v 17 i = if i = j then v else L 17 i := by
  unfold lU
  rw [if_pos rfl]
  rfl
theorem lU_q {L : Nat → Nat → Int64} {j : Nat} {v : Int64} {q : Nat} (h : q ≠ 17) : lU L j v q = L q := by
  unfold lU
  rw [if_neg h]
theorem zsL_17 (A : Nat → Nat → Int32) (L : Nat → Nat → Int64) (j : Nat) (v : Int64) : zsL (A, L) 17 j v = (A, lU L j v) := rfl
theorem c_fill82 (A : Nat → Nat → Int32) : ∀ k j n L, j + k = 82 → k < n → (∀ t, t < j → L 17 t = 0) → ∃ L', f_J7_fill_d0a16_6 17 82 0 n (A, L) (nI j) (Int32.ofNat 82) = some (A, L') ∧ (∀ q, q ≠ 17 → L' q = L q) ∧ ∀ t, t < 82 → L' 17 t = 0 := by
  intro k
  induction k with
  | zero =>
    intro j n L hj hn h
    obtain ⟨n, rfl⟩ : ∃ m, n = m + 1 := ⟨n - 1, by omega⟩
    obtain rfl : j = 82 := by omega
    refine ⟨L, ?_, fun _ _ => rfl, h⟩
    rw [f_J7_fill_d0a16_6, if_pos (show Int32.ofNat 82 ≤ nI 82 from Int32.le_refl _)]
  | succ k ih =>
    intro j n L hj hn h
    obtain ⟨n, rfl⟩ : ∃ m, n = m + 1 := ⟨n - 1, by omega⟩
    obtain ⟨L', e1, e2, e3⟩ := ih (j + 1) n (lU L j 0) (by omega) (by omega) (fun t ht => by
      rw [lU_i]
      by_cases hj : t = j
      · rw [if_pos hj]
      · rw [if_neg hj, h t (by omega)])
    refine ⟨L', ?_, fun q hq => by rw [e2 q hq, lU_q hq], e3⟩
    rw [f_J7_fill_d0a16_6, if_neg (show ¬ Int32.ofNat 82 ≤ nI j from nI_ge (b := 82) (by omega) (by decide)), zg_in (by omega) (by decide), nI_clamp (by omega), zsL_17, nI_1]
    exact e1
def aD (v p : Nat) (w : Nat → Nat) (K t : Nat) : Nat := (if K ≤ t then v * w t else w t) + (if K + p ≤ t then (10 - v) * w (t - p) else 0)
theorem aD_st {v p : Nat} {w : Nat → Nat} {K t : Nat} : aD v p w K t = (if t = K + p then (if t = K then w K * v else aD v p w (K + 1) t) + w K * (10 - v) else if t = K then w K * v else aD v p w (K + 1) t) := by
  unfold aD
  by_cases h1 : t = K + p
  · rw [if_pos h1, if_pos (show K ≤ t by omega), if_pos (show K + p ≤ t by omega), show t - p = K by omega]
    by_cases h2 : t = K
    · rw [if_pos h2, h2, Nat.mul_comm v, Nat.mul_comm (10 - v)]
    · rw [if_neg h2, if_pos (show K + 1 ≤ t by omega), if_neg (show ¬ K + 1 + p ≤ t by omega), Nat.add_zero, Nat.mul_comm (10 - v)]
  · rw [if_neg h1]
    by_cases h2 : t = K
    · rw [if_pos h2, if_pos (show K ≤ t by omega), if_neg (show ¬ K + p ≤ t by omega), Nat.add_zero, h2, Nat.mul_comm v]
    · rw [if_neg h2]
      by_cases a : K ≤ t
      · rw [if_pos a, if_pos (show K + 1 ≤ t by omega)]
        by_cases b : K + p ≤ t
        · rw [if_pos b, if_pos (show K + 1 + p ≤ t by omega)]
        · rw [if_neg b, if_neg (show ¬ K + 1 + p ≤ t by omega)]
      · rw [if_neg a, if_neg (show ¬ K + 1 ≤ t by omega), if_neg (show ¬ K + p ≤ t by omega), if_neg (show ¬ K + 1 + p ≤ t by omega)]
theorem c_add21 {A : Nat → Nat → Int32} {v p h : Nat} {w : Nat → Nat} (hv : v ≤ 10) (hh : h + p ≤ 81) (x3 x4 : Int32) : ∀ K n L, K ≤ h + 1 → K < n → (∀ t, t < 82 → L 17 t = lN (aD v p w K t)) → ∃ L', f_X11_addPusher_21 (nI p) (nI v) x3 n (A, L) x4 (nI K + (-1)) = some (x4, (A, L')) ∧ (∀ q, q ≠ 17 → L' q = L q) ∧ ∀ t, t < 82 → L' 17 t = lN (aD v p w 0 t) := by
  intro K
  induction K with
  | zero =>
    intro n L hK hn hL
    obtain ⟨n, rfl⟩ : ∃ m, n = m + 1 := ⟨n - 1, by omega⟩
    refine ⟨L, ?_, fun _ _ => rfl, hL⟩
    rw [f_X11_addPusher_21, if_pos (by decide)]
  | succ K ih =>
    intro n L hK hn hL
    obtain ⟨n, rfl⟩ : ∃ m, n = m + 1 := ⟨n - 1, by omega⟩
    have eK : L 17 K = lN (w K) := by
      rw [hL K (by omega), aD, if_neg (by omega), if_neg (by omega), Nat.add_zero]
    obtain ⟨L', e1, e2, e3⟩ := ih n (lU (lU L K (L 17 K * lN v)) (K + p) (lU L K (L 17 K * lN v) 17 (K + p) + L 17 K * lN (10 - v))) (by omega) (by omega) (fun t ht => by
      rw [lU_i, aD_st]
      by_cases h1 : t = K + p
      · rw [if_pos h1, if_pos h1, ← h1, lU_i, eK]
        by_cases h2 : t = K
        · rw [if_pos h2, if_pos h2, lN_mul, lN_mul, lN_add]
        · rw [if_neg h2, if_neg h2, hL t ht, lN_mul, lN_add]
      · rw [if_neg h1, if_neg h1, lU_i, eK]
        by_cases h2 : t = K
        · rw [if_pos h2, if_pos h2, lN_mul]
        · rw [if_neg h2, if_neg h2, hL t ht])
    refine ⟨L', ?_, fun q hq => by rw [e2 q hq, lU_q hq, lU_q hq], e3⟩
    rw [f_X11_addPusher_21, pk_m1, if_neg (nI_pos (by omega)), zg_in (j := K) (by omega) (by decide), zg_in (j := K) (by omega) (by decide), nI_add K p, zg_in (j := K + p) (by omega) (by decide), zg_in (j := K + p) (by omega) (by decide), nI_clamp (n := K) (by omega), nI_clamp (n := K + p) (by omega), nI_l (n := v) (by omega), show (10 : Int32) - nI v = nI (10 - v) from pk_sub (a := 10) hv, nI_l (n := 10 - v) (by omega), f_X11_addPusher_67]
    exact e1
theorem c_add {A : Nat → Nat → Int32} {L : Nat → Nat → Int64} {v p h : Nat} {w : Nat → Nat} (hv : v ≤ 10) (hh : h + p ≤ 81) (hw : ∀ t, h < t → w t = 0) (hL : ∀ t, t < 82 → L 17 t = lN (w t)) : ∃ L', f_X11_addPusher (A, L) (nI p) (nI v) (nI h) = some (nI (h + p), (A, L')) ∧ (∀ q, q ≠ 17 → L' q = L q) ∧ ∀ t, t < 82 → L' 17 t = lN (v * w t + (if p ≤ t then (10 - v) * w (t - p) else 0)) := by
  obtain ⟨L', e1, e2, e3⟩ := c_add21 (A := A) (p := p) (h := h) (w := w) hv hh (nI h) (nI (h + p)) (h + 1) zFU L (Nat.le_refl _) (zFU_gt (by omega)) (fun t ht => by
    rw [hL t ht, aD]
    by_cases a : h + 1 ≤ t
    · rw [if_pos a, hw t (by omega), Nat.mul_zero, Nat.zero_add]
      by_cases b : h + 1 + p ≤ t
      · rw [if_pos b, hw (t - p) (by omega), Nat.mul_zero]
      · rw [if_neg b]
    · rw [if_neg a, if_neg (by omega), Nat.add_zero])
  refine ⟨L', ?_, e2, fun t ht => ?_⟩
  · show f_X11_addPusher_0 (nI p) (nI v) (nI h) (A, L) = _
    rw [f_X11_addPusher_0, nI_add, if_neg (show ¬ (Int32.ofNat 82 - 1) < nI (h + p) from nI_nlt (a := 81) (by omega) (by decide)), pk_sub (a := h + p) (by omega), show h + p - p = h by omega]
    rw [pk_m1] at e1
    exact e1
  · rw [e3 t ht, aD, if_pos (Nat.zero_le _), Nat.zero_add]
theorem c_w88 {A : Nat → Nat → Int32} {L : Nat → Nat → Int64} {x1 : Int32} {h d U : Nat} {W : Nat → Nat} (hh : h ≤ 81) (hd : d ≤ 100) (hU : U = h + 1 - d) (hL : ∀ t, t < 82 → L 17 t = lN (W t)) : ∀ k m n, m + k = U → k < n → f_X11_waysToGo_88 x1 n (A, L) (nI h) (lN (sm (fun i => W (d + i)) m)) (nI (d + m)) = some (lN (sm (fun i => W (d + i)) U), (A, L)) := by
  intro k
  induction k with
  | zero =>
    intro m n hm hn
    obtain ⟨n, rfl⟩ : ∃ m, n = m + 1 := ⟨n - 1, by omega⟩
    obtain rfl : m = U := by omega
    rw [f_X11_waysToGo_88, if_pos (nI_lt (by omega) (by omega))]
  | succ k ih =>
    intro m n hm hn
    obtain ⟨n, rfl⟩ : ∃ m, n = m + 1 := ⟨n - 1, by omega⟩
    rw [f_X11_waysToGo_88, if_neg (nI_nlt (by omega) (by omega)), zg_in (j := d + m) (by omega) (by decide), nI_clamp (n := d + m) (by omega), nI_1]
    show f_X11_waysToGo_88 x1 n (A, L) (nI h) (lN (sm (fun i => W (d + i)) m) + L 17 (d + m)) (nI (d + m + 1)) = _
    rw [hL (d + m) (by omega), lN_add]
    exact ih (m + 1) n (by omega) (by omega)
theorem oH_le {ins : Nat → Bool} {p : Nat → Nat} : ∀ j, (∀ g, g < j → p g ≤ 9) → oH ins p j ≤ 9 * j := by
  intro j
  induction j with
  | zero => intro _; exact Nat.le_refl _
  | succ j ih =>
    intro h
    have h1 := ih (fun g hg => h g (by omega))
    have h2 := h j (by omega)
    rw [oH]
    split <;> omega
theorem c_w32 {A : Nat → Nat → Int32} {G S v d : Nat} {p : Nat → Nat} {ins : Nat → Bool} (X : ∀ L, zCx (A, L) 37 G S) (hv : v ≤ 10) (hp : ∀ g, g < G → p g ≤ 9 ∧ A 5 (A 38 g).toNatClampNeg = nI (p g)) (hi : ∀ g, g < G → (A 40 g = 1 ↔ ins g = true)) (hd : A 3 2 + zbc (aWho (A 40) 1 G) = nI d) (hd2 : d ≤ 100) : ∀ k j n L, j + k = G → k < n → (∀ t, t < 82 → L 17 t = lN (oW v ins p j t)) → ∃ L', f_X11_waysToGo_32 (nI v) n (A, L) (nI (oH ins p j)) (nI j) = some (lN (oE v ins p d G 0), (A, L')) ∧ ∀ q, q ≠ 17 → L' q = L q := by
  have h9 : G ≤ 9 := (X (fun _ _ => 0)).2.2.1
  intro k
  induction k with
  | zero =>
    intro j n L hj hn hL
    obtain ⟨n, rfl⟩ : ∃ m, n = m + 1 := ⟨n - 1, by omega⟩
    obtain rfl : j = G := by omega
    refine ⟨L, ?_, fun _ _ => rfl⟩
    have hH := oH_le (ins := ins) (p := p) j (fun g hg => (hp g hg).1)
    have e := c_w88 (A := A) (x1 := nI v) (h := oH ins p j) (d := d) (W := oW v ins p j) (by omega) hd2 rfl hL (oH ins p j + 1 - d) 0 zFU (by omega) (zFU_gt (by omega))
    rw [oW_up] at e
    rw [f_X11_waysToGo_32, show (A, L).1 37 2 = nI j from (X L).2.1, if_pos (Int32.le_refl _), c_drag (X L).2.1 h9, zbi_s]
    show f_X11_waysToGo_88 (nI v) zFU (A, L) (nI (oH ins p j)) 0 (A 3 2 + zbc (aWho (A 40) 1 j)) = _
    rw [hd]
    exact e
  | succ k ih =>
    intro j n L hj hn hL
    obtain ⟨n, rfl⟩ : ∃ m, n = m + 1 := ⟨n - 1, by omega⟩
    have hjG : j < G := by omega
    have hH := oH_le (ins := ins) (p := p) j (fun g hg => (hp g (by omega)).1)
    rw [f_X11_waysToGo_32, show (A, L).1 37 2 = nI G from (X L).2.1, if_neg (nI_ge hjG (by omega)), zg_in (by omega) (by decide), nI_clamp (by omega), nI_1]
    by_cases hij : A 40 j = 1
    · have hin := (hi j hjG).mp hij
      have hp9 := (hp j hjG).1
      obtain ⟨L1, b1, b2, b3⟩ := c_add (A := A) (L := L) (v := v) (p := p j) (h := oH ins p j) (w := oW v ins p j) hv (by omega) (fun t ht => oW_z j t ht) hL
      have eH : oH ins p (j + 1) = oH ins p j + p j := by rw [oH, if_pos hin]
      obtain ⟨L2, c1, c2⟩ := ih (j + 1) n L1 (by omega) (by omega) (fun t ht => by rw [b3 t ht, oW, if_pos hin])
      refine ⟨L2, ?_, fun q hq => by rw [c2 q hq, b2 q hq]⟩
      rw [if_pos (show (A, L).1 (37 + 3) j = 1 from hij), c_wp (X L) hjG, zbi_s, show (A, L).1 5 ((A, L).1 38 j).toNatClampNeg = nI (p j) from (hp j hjG).2, b1, zbi_s, ← eH]
      exact c1
    · have hin : ¬ ins j = true := fun q => hij ((hi j hjG).mpr q)
      have eH : oH ins p (j + 1) = oH ins p j := by rw [oH, if_neg hin]
      obtain ⟨L2, c1, c2⟩ := ih (j + 1) n L (by omega) (by omega) (fun t ht => by rw [hL t ht, oW, if_neg hin])
      refine ⟨L2, ?_, c2⟩
      rw [if_neg (show ¬ (A, L).1 (37 + 3) j = 1 from hij), ← eH]
      exact c1
theorem c_ways {A : Nat → Nat → Int32} {L : Nat → Nat → Int64} {G S v d : Nat} {p : Nat → Nat} {ins : Nat → Bool} (X : ∀ L, zCx (A, L) 37 G S) (hv : v ≤ 10) (hp : ∀ g, g < G → p g ≤ 9 ∧ A 5 (A 38 g).toNatClampNeg = nI (p g)) (hi : ∀ g, g < G → (A 40 g = 1 ↔ ins g = true)) (hd : A 3 2 + zbc (aWho (A 40) 1 G) = nI d) (hd2 : d ≤ 100) : ∃ L', f_X11_waysToGo (A, L) (nI v) = some (lN (if aWho (A 40) 1 G = 0 then 0 else oE v ins p d G 0), (A, L')) ∧ ∀ q, q ≠ 17 → L' q = L q := by
  have h9 : G ≤ 9 := (X L).2.2.1
  by_cases h0 : aWho (A 40) 1 G = 0
  · refine ⟨L, ?_, fun _ _ => rfl⟩
    show f_X11_waysToGo_0 (nI v) (A, L) = _
    rw [f_X11_waysToGo_0, c_whoIs (X L).2.1 h9, zbi_s, if_pos (show aWho ((A, L).1 (37 + 3)) 1 G = 0 from h0), if_pos h0]
    rfl
  · obtain ⟨L1, e1, e2, e3⟩ := c_fill82 A 82 0 zFU L rfl (zFU_gt (by decide)) (fun t ht => absurd ht (Nat.not_lt_zero t))
    obtain ⟨L2, g1, g2⟩ := c_w32 X hv hp hi hd hd2 G 0 zFU (lU L1 0 1) (by omega) (zFU_gt (by omega)) (fun t ht => by
      rw [lU_i, oW]
      by_cases h : t = 0
      · rw [if_pos h, if_pos h]; rfl
      · rw [if_neg h, if_neg h, e3 t ht]; rfl)
    refine ⟨L2, ?_, fun q hq => by rw [g2 q hq, lU_q hq, e2 q hq]⟩
    show f_X11_waysToGo_0 (nI v) (A, L) = _
    have e1 : f_J7_fill_d0a16 (A, L) 17 82 0 = some (A, L1) := e1
    rw [f_X11_waysToGo_0, c_whoIs (X L).2.1 h9, zbi_s, if_neg (show ¬ aWho ((A, L).1 (37 + 3)) 1 G = 0 from h0), if_neg h0, e1, zbv_s, zg_t (by decide), sb_cl0]
    exact g1
theorem c_gcd {M : zM} {x0 x2 : Int64} {g : Nat} : ∀ f i n a b, eu f a b = some g → i + f ≤ 101 → f ≤ n → a < 2 ^ 63 → b < 2 ^ 63 → f_X11_greatestDivisor_9 x0 x2 n M (lN a) (lN b) (nI i) = some (lN g, M) := by
  intro f
  induction f with
  | zero =>
    intro i n a b h
    rw [eu] at h
    cases h
  | succ f ih =>
    intro i n a b h hi hn ha hb
    obtain ⟨n, rfl⟩ : ∃ m, n = m + 1 := ⟨n - 1, by omega⟩
    rw [eu] at h
    rw [f_X11_greatestDivisor_9]
    by_cases h0 : b = 0
    · rw [if_pos h0] at h
      have e : a = g := Option.some.inj h
      rw [e]
      by_cases h1 : (100 : Int32) ≤ nI i
      · rw [if_pos h1]
      · rw [if_neg h1, if_pos ((lg_cmp_eq _ _).mpr (by rw [h0]; rfl))]
    · rw [if_neg h0] at h
      have hf : 0 < f := by
        rcases Nat.eq_zero_or_pos f with z | z
        · subst z
          rw [eu] at h
          cases h
        · exact z
      have hb0 : ¬ lN b = 0 := fun q => h0 ((pk_lEQ (b := 0) hb (by decide)).mp q)
      rw [if_neg (show ¬ (100 : Int32) ≤ nI i from nI_ge (b := 100) (by omega) (by decide)), if_neg (fun q => hb0 ((lg_cmp_eq _ _).mp q)), zg_t (show znL (lN b) = true from decide_eq_true hb0), pk_lRem ha (by omega) hb, nI_1]
      exact ih (i + 1) n b (a % b) h (by omega) (by omega) hb (Nat.lt_of_le_of_lt (Nat.mod_le _ _) ha)
theorem c_odds33 {x1 x2 : Int32} {M : zM} : ∀ k j n, k ≤ 9 → k < n → f_X11_odds_33 x1 x2 n M (lN (10 ^ j)) (nI k) = f_X11_odds_33 x1 x2 (n - k) M (lN (10 ^ (j + k))) 0 := by
  intro k
  induction k with
  | zero => intro j n _ _; rfl
  | succ k ih =>
    intro j n h9 hn
    obtain ⟨n, rfl⟩ : ∃ m, n = m + 1 := ⟨n - 1, by omega⟩
    rw [f_X11_odds_33, if_neg (nI_nle (by omega) (by omega)), pk_m1, show (10 : Int64) = lN 10 from rfl, lN_mul, ← Nat.pow_succ, ih (j + 1) n (by omega) (by omega), Nat.add_sub_add_right, show j + 1 + k = j + (k + 1) by omega]
theorem c_odds1 {x1 x2 : Int32} {M : zM} {c n : Nat} (h9 : c ≤ 9) (hn : c < n) : f_X11_odds_33 x1 x2 n M 1 (nI c) = f_X11_odds_33 x1 x2 (n - c) M (lN (10 ^ c)) 0 := by
  have e := c_odds33 (x1 := x1) (x2 := x2) (M := M) c 0 n h9 hn
  rw [Nat.pow_zero, Nat.zero_add] at e
  exact e
theorem c_fin {M : zM} {x1 x2 : Int32} {g a : Nat} (h0 : 0 < g) (hg : g < 2 ^ 63) (ha : a < 2 ^ 63) : f_X11_odds_75 x1 x2 M (lN g) (lN a) = some (nI (a / g), M) := by
  have h1 : ¬ lN g < (1 : Int64) := fun q => by
    have := (pk_lLT (a := g) (b := 1) hg (by decide)).mp q
    omega
  have h2 : ¬ lN g = 0 := fun q => by
    have := (pk_lEQ (a := g) (b := 0) hg (by decide)).mp q
    omega
  rw [f_X11_odds_75, if_neg h1, zg_t (show znL (lN g) = true from decide_eq_true h2), pk_lDiv ha h0 hg, lN_i]
theorem c_oddsE {M M' : zM} {x1 : Int32} {w e u g n : Nat} (hw : w < 2) (h0 : 0 < g) (hg : g < 2 ^ 63) (hu : u < 2 ^ 63) (he : e < 2 ^ 63) (g1 : f_X11_waysToGo M x1 = some (lN u, M')) (g2 : f_X11_greatestDivisor M' (lN e) (lN u) = some (lN g, M')) : f_X11_odds_33 x1 (nI w) (n + 1) M (lN e) 0 = some (nI (if w = 0 then u / g else e / g), M') := by
  rw [f_X11_odds_33, if_pos (Int32.le_refl _), g1, zbi_s, g2, zbi_s]
  by_cases hw0 : w = 0
  · rw [if_pos hw0, if_pos (show nI w = 0 by rw [hw0]; rfl), c_fin h0 hg hu]
  · rw [if_neg hw0, if_neg (nI_ne0 (by omega) (by omega)), c_fin h0 hg he]
theorem c_odds {A : Nat → Nat → Int32} {L : Nat → Nat → Int64} {G S v d w c u : Nat} {p : Nat → Nat} {ins : Nat → Bool} (X : ∀ L, zCx (A, L) 37 G S) (hv : v ≤ 10) (hw : w < 2) (hp : ∀ g, g < G → p g ≤ 9 ∧ A 5 (A 38 g).toNatClampNeg = nI (p g)) (hi : ∀ g, g < G → (A 40 g = 1 ↔ ins g = true)) (hd : A 3 2 + zbc (aWho (A 40) 1 G) = nI d) (hd2 : d ≤ 100) (hc : zbc (aWho (A 40) 1 G) = nI c) (hc9 : c ≤ 9) (hu : (if aWho (A 40) 1 G = 0 then 0 else oE v ins p d G 0) = u) (hu9 : u < 2 ^ 30) : ∃ L', f_X11_odds (A, L) (nI v) (nI w) = some (nI (if w = 0 then u / Nat.gcd (10 ^ c) u else 10 ^ c / Nat.gcd (10 ^ c) u), (A, L')) ∧ ∀ q, q ≠ 17 → L' q = L q := by
  have h9 : G ≤ 9 := (X L).2.2.1
  obtain ⟨L', g1, g2⟩ := c_ways (L := L) X hv hp hi hd hd2
  rw [hu] at g1
  have hc1 : 10 ^ c ≤ 10 ^ 9 := Nat.pow_le_pow_right (by decide) hc9
  have hc2 : 10 ^ c < 2 ^ 63 := Nat.lt_of_le_of_lt hc1 (by decide)
  have hc0 : 0 < 10 ^ c := Nat.pow_pos (by decide)
  have hg0 : 0 < Nat.gcd (10 ^ c) u := Nat.gcd_pos_of_pos_left _ hc0
  have hg1 : Nat.gcd (10 ^ c) u ≤ 10 ^ c := Nat.gcd_le_left _ hc0
  have hg : f_X11_greatestDivisor (A, L') (lN (10 ^ c)) (lN u) = some (lN (Nat.gcd (10 ^ c) u), (A, L')) := c_gcd 70 0 zFU _ _ (eu_gcd 30 _ _ 70 hu9 (by decide)) (by decide) (by decide) hc2 (by omega)
  obtain ⟨m, hm⟩ : ∃ m, zFU - c = m + 1 := ⟨zFU - c - 1, by have := zFU_gt (G := 9) (by decide); omega⟩
  refine ⟨L', ?_, g2⟩
  show f_X11_odds_0 (nI v) (nI w) (A, L) = _
  rw [f_X11_odds_0, if_neg (nI_pos (by omega)), if_neg (show ¬ (10 : Int32) < nI v from nI_nlt (a := 10) hv (by decide)), if_neg (nI_pos (by omega)), if_pos (show nI w ≤ (1 : Int32) from nI_le (b := 1) (by omega) (by decide)), c_are (X L).2.1 h9, zbi_s, show zbc (aWho ((A, L).1 (37 + 3)) 1 G) = nI c from hc, c_odds1 hc9 (zFU_gt (by omega)), hm]
  exact c_oddsE hw hg0 (Nat.lt_of_le_of_lt hg1 hc2) (Nat.lt_trans hu9 (by decide)) hc2 g1 hg
