/-! what holds between the calls -/
def wP (M : zM) (R W H S : Nat) : Prop := (3 ≤ R ∧ R ≤ 6 ∧ W ≤ 5 ∧ H ≤ 20 ∧ S ≤ 6) ∧ (M.1 3 0 = nI R ∧ M.1 3 1 = nI W ∧ M.1 3 2 = nI H ∧ M.1 3 3 = nI S) ∧ (M.1 25 0 = nI R ∧ M.1 25 1 = nI W ∧ M.1 25 2 = nI H ∧ M.1 25 3 = nI S) ∧ ∀ x, x < S → M.1 4 x = M.1 26 x ∧ M.1 5 x = M.1 27 x ∧ (∃ b, b ≤ 9 ∧ M.1 4 x = nI b) ∧ (∃ b, b ≤ 9 ∧ M.1 5 x = nI b)
def wGo (n R S : Nat) (A : Nat → Nat → Int32) (r : Nat → Int32) (g : Nat) : Prop := (∃ x, x < S ∧ A 1 g = nI x) ∧ A 1 g = r (2 + g) ∧ (A 2 g = 0 ∨ A 2 g = 1) ∧ A 2 g = r (11 + g) ∧ A 3 g = r (20 + g) ∧ A 4 g = r (29 + g) ∧ (A 3 g = 1 → ∃ q, q < R ∧ A 4 g = nI q) ∧ (-(n : Int) ≤ (A 5 g).toInt ∧ (A 5 g).toInt ≤ g) ∧ (-(n : Int) ≤ (r (38 + g)).toInt ∧ (r (38 + g)).toInt ≤ n)
def wOd (G : Nat) (A : Nat → Nat → Int32) (r : Nat → Int32) : Prop := ∀ g h, g < G → h < G → A 3 g = 0 → A 3 h = 0 → A 2 g = A 2 h → (A 5 g < A 5 h ↔ r (38 + g) < r (38 + h)) ∧ (g ≠ h → ¬ A 5 g = A 5 h)
def wMo (n R S G K : Nat) (A : Nat → Nat → Int32) (r : Nat → Int32) : Prop := (G ≤ 9 ∧ K ≤ 999 ∧ A 0 2 = nI G ∧ r 0 = nI G ∧ A 0 1 = nI K ∧ r 1 = nI K) ∧ (∀ g, g < G → wGo n R S A r g) ∧ wOd G A r
def wMoE (n R S : Nat) (A : Nat → Nat → Int32) (r : Nat → Int32) : Prop := ∃ G K, wMo n R S G K A r
theorem wMo_tr {n R S G K : Nat} {A A' : Nat → Nat → Int32} {r r' : Nat → Int32} (X : wMo n R S G K A r) (h1 : A' 0 1 = A 0 1) (h2 : A' 0 2 = A 0 2) (h3 : ∀ i j, 1 ≤ i → i ≤ 5 → j < 9 → A' i j = A i j) (h4 : ∀ j, j < 47 → r' j = r j) : wMo n R S G K A' r' := by
  obtain ⟨⟨a1, a2, a3, a4, a5, a6⟩, b, d⟩ := X
  refine ⟨⟨a1, a2, by rw [h2]; exact a3, by rw [h4 0 (by omega)]; exact a4, by rw [h1]; exact a5, by rw [h4 1 (by omega)]; exact a6⟩, fun g hg => ?_, fun g h hg hh => ?_⟩
  · have := b g hg
    unfold wGo at this ⊢
    rw [h3 1 g (by omega) (by omega) (by omega), h3 2 g (by omega) (by omega) (by omega), h3 3 g (by omega) (by omega) (by omega), h3 4 g (by omega) (by omega) (by omega), h3 5 g (by omega) (by omega) (by omega), h4 (2 + g) (by omega), h4 (11 + g) (by omega), h4 (20 + g) (by omega), h4 (29 + g) (by omega), h4 (38 + g) (by omega)]
    exact this
  · have := d g h hg hh
    rw [h3 2 g (by omega) (by omega) (by omega), h3 3 g (by omega) (by omega) (by omega), h3 5 g (by omega) (by omega) (by omega), h4 (38 + g) (by omega), h3 2 h (by omega) (by omega) (by omega), h3 3 h (by omega) (by omega) (by omega), h3 5 h (by omega) (by omega) (by omega), h4 (38 + h) (by omega)]
    exact this
theorem wMo_mono {n m R S G K : Nat} {A : Nat → Nat → Int32} {r : Nat → Int32} (X : wMo n R S G K A r) (h : n ≤ m) : wMo m R S G K A r := by
  obtain ⟨a, b, d⟩ := X
  refine ⟨a, fun g hg => ?_, d⟩
  obtain ⟨q1, q2, q3, q4, q5, q6, q7, q8, q9⟩ := b g hg
  exact ⟨q1, q2, q3, q4, q5, q6, q7, ⟨by omega, q8.2⟩, ⟨by omega, by omega⟩⟩
theorem wMoE_tr {n R S : Nat} {A A' : Nat → Nat → Int32} {r r' : Nat → Int32} (X : wMoE n R S A r) (h1 : A' 0 1 = A 0 1) (h2 : A' 0 2 = A 0 2) (h3 : ∀ i j, 1 ≤ i → i ≤ 5 → j < 9 → A' i j = A i j) (h4 : ∀ j, j < 47 → r' j = r j) : wMoE n R S A' r' := by
  obtain ⟨G, K, X⟩ := X
  exact ⟨G, K, wMo_tr X h1 h2 h3 h4⟩
theorem wMoE_mono {n m R S : Nat} {A : Nat → Nat → Int32} {r : Nat → Int32} (X : wMoE n R S A r) (h : n ≤ m) : wMoE m R S A r := by
  obtain ⟨G, K, X⟩ := X
  exact ⟨G, K, wMo_mono X h⟩
/-- where all are has changed on both sides alike -/
theorem wMo_put {n R S G K K' : Nat} {A A' : Nat → Nat → Int32} {r r' : Nat → Int32} {s s' : aS} (X : wMo n R S G K A r) (hs : aSi G s s') (hz : ∀ g, g < G → s.1 g = 0 → A 3 g = 0) (hb : aBd G R s) (hK : K' ≤ 999) (h1 : A' 0 1 = nI K') (h2 : A' 0 2 = A 0 2) (h3 : ∀ g, g < 9 → A' 1 g = A 1 g ∧ A' 2 g = A 2 g ∧ A' 5 g = A 5 g ∧ A' 3 g = s.1 g ∧ A' 4 g = s.2 g) (h4 : r' 0 = r 0) (h5 : r' 1 = nI K') (h6 : ∀ g, g < 9 → r' (2 + g) = r (2 + g) ∧ r' (11 + g) = r (11 + g) ∧ r' (38 + g) = r (38 + g) ∧ r' (20 + g) = s'.1 g ∧ r' (29 + g) = s'.2 g) : wMo n R S G K' A' r' := by
  obtain ⟨⟨a1, a2, a3, a4, a5, a6⟩, b, d⟩ := X
  refine ⟨⟨a1, hK, by rw [h2]; exact a3, by rw [h4]; exact a4, h1, h5⟩, fun g hg => ?_, fun g h hg hh => ?_⟩
  · obtain ⟨q1, q2, q3, q4, q5, q6, q7, q8, q9⟩ := b g hg
    obtain ⟨c1, c2, c3, c4, c5⟩ := h3 g (by omega)
    obtain ⟨e1, e2, e3, e4, e5⟩ := h6 g (by omega)
    obtain ⟨s1, s2⟩ := hs g hg
    unfold wGo
    rw [c1, c2, c3, c4, c5, e1, e2, e3, e4, e5]
    exact ⟨q1, q2, q3, q4, s1, s2, hb g hg, q8, q9⟩
  · obtain ⟨c1, c2, c3, c4, c5⟩ := h3 g (by omega)
    obtain ⟨e1, e2, e3, e4, e5⟩ := h6 g (by omega)
    obtain ⟨x1, x2, x3, x4, x5⟩ := h3 h (by omega)
    obtain ⟨y1, y2, y3, y4, y5⟩ := h6 h (by omega)
    rw [c2, c3, c4, e3, x2, x3, x4, y3]
    exact fun i1 i2 i3 => d g h hg hh (hz g hg i1) (hz h hh i2) i3
/-- what the loops want -/
theorem wMo.cx {M : zM} {n R W H S G K c : Nat} {r : Nat → Int32} (X : wMo n R S G K (fun i => M.1 (c + i)) r) (P : wP M R W H S) (hc : 37 ≤ c) : zCx M c G S := by
  obtain ⟨⟨a1, a2, a3, a4, a5, a6⟩, b, d⟩ := X
  obtain ⟨⟨p1, p2, p3, p4, p5⟩, ⟨p6, p7, p8, p9⟩, _, p10⟩ := P
  refine ⟨hc, a3, a1, p9, p5, fun g hg => (b g hg).1, fun x hx => ?_, ?_⟩
  · obtain ⟨_, _, ⟨y, hy, e⟩, _⟩ := p10 x hx
    rw [e, nI_t (by omega)]
    omega
  · rw [p7, nI_t (by omega)]
    omega
theorem wMo.rx {M : zM} {n R W H S G K t : Nat} {A : Nat → Nat → Int32} (X : wMo n R S G K A (M.1 t)) (P : wP M R W H S) (ht : 28 ≤ t) : zRx M t G S := by
  obtain ⟨⟨a1, a2, a3, a4, a5, a6⟩, b, d⟩ := X
  obtain ⟨⟨p1, p2, p3, p4, p5⟩, _⟩ := P
  refine ⟨ht, a4, a1, p5, fun g hg => ?_⟩
  obtain ⟨x, hx, e⟩ := (b g hg).1
  exact ⟨x, hx, by show M.1 t (2 + g) = _; rw [← (b g hg).2.1]; exact e⟩
theorem wMo.ev {M : zM} {n R W H S G K : Nat} {A : Nat → Nat → Int32} {r : Nat → Int32} (X : wMo n R S G K A r) (P : wP M R W H S) : aEv G (A 1) (A 2) (fun g => r (2 + g)) (fun g => r (11 + g)) (M.1 4) (M.1 5) (M.1 26) (M.1 27) := by
  intro g hg
  obtain ⟨⟨x, hx, e⟩, q2, q3, q4, _⟩ := X.2.1 g hg
  obtain ⟨e4, e5, _⟩ := P.2.2.2 x hx
  have hx6 : x < 2 ^ 31 := by have := P.1.2.2.2.2; omega
  show A 2 g = r (11 + g) ∧ M.1 4 (A 1 g).toNatClampNeg = M.1 26 (r (2 + g)).toNatClampNeg ∧ M.1 5 (A 1 g).toNatClampNeg = M.1 27 (r (2 + g)).toNatClampNeg
  rw [← q2, e, nI_clamp hx6]
  exact ⟨q4, e4, e5⟩
theorem wMo.si {n R S G K : Nat} {A : Nat → Nat → Int32} {r : Nat → Int32} (X : wMo n R S G K A r) : aSi G (A 3, A 4) (fun g => r (20 + g), fun g => r (29 + g)) := fun g hg => ⟨(X.2.1 g hg).2.2.2.2.1, (X.2.1 g hg).2.2.2.2.2.1⟩
theorem wMo.or {n R S G K : Nat} {A : Nat → Nat → Int32} {r : Nat → Int32} (X : wMo n R S G K A r) : aOr G (A 2) (A 3) (A 5) (fun g => r (38 + g)) := fun g h hg hh h1 h2 h3 => (X.2.2 g h hg hh h1 h2 h3).1
theorem wMo.bd {n R S G K : Nat} {A : Nat → Nat → Int32} {r : Nat → Int32} (X : wMo n R S G K A r) : aBd G R (A 3, A 4) := fun g hg h => (X.2.1 g hg).2.2.2.2.2.2.1 h
theorem aBd_si {G R : Nat} {s s' : aS} (h : aSi G s s') (hb : aBd G R s) : aBd G R s' := fun g hg h1 => by
  obtain ⟨e1, e2⟩ := h g hg
  rw [← e1] at h1
  rw [← e2]
  exact hb g hg h1
theorem wMo.bdr {n R S G K : Nat} {A : Nat → Nat → Int32} {r : Nat → Int32} (X : wMo n R S G K A r) : aBd G R (fun g => r (20 + g), fun g => r (29 + g)) := aBd_si X.si X.bd
/-- the past -/
def wPa (n R S : Nat) (M : zM) : Prop := ∃ o z, o < 10 ∧ z ≤ 10 ∧ M.1 9 1 = nI o ∧ M.1 9 2 = nI z ∧ M.1 25 9 = nI z ∧ ∀ k, k < z → wMoE n R S (fun i => M.1 (49 + 6 * ((o + k) % 10) + i)) (fun j => M.1 30 (47 * k + j))
def wIm (n R S : Nat) (M : zM) : Prop := ∀ i, i < 2 → M.1 12 i = M.1 32 i ∧ (¬ M.1 12 i = 0 → wMoE n R S (fun k => M.1 (109 + 6 * i + k)) (fun j => M.1 31 (47 * i + j)))
def wSe (M : zM) : Prop := ∃ z, z ≤ 6 ∧ M.1 13 4 = nI z ∧ M.1 25 13 = nI z ∧ ∀ k, k < z → M.1 14 k = M.1 33 (3 * k) ∧ M.1 15 k = M.1 33 (3 * k + 1) ∧ M.1 16 k = M.1 33 (3 * k + 2)
def wTx (M : zM) : Prop := ∃ L, L ≤ 100 ∧ M.1 1 1 = nI L ∧ M.1 25 16 = nI L ∧ ∀ j, j < L → M.1 2 j = M.1 34 j ∧ ∃ b, b ≤ 255 ∧ M.1 2 j = nI b
def wTc (M : zM) : Prop := M.2 25 14 = M.2 19 0 + M.2 20 0 + M.2 21 0 + M.2 22 0 + M.2 23 0 + M.2 24 0
def wI (n : Nat) (M : zM) : Prop := ∃ R W H S, wP M R W H S ∧ wMoE n R S (fun i => M.1 (37 + i)) (M.1 28) ∧ wPa n R S M ∧ wIm n R S M ∧ wSe M ∧ wTx M ∧ wTc M
theorem wPa_mono {n m R S : Nat} {M : zM} (h : n ≤ m) (X : wPa n R S M) : wPa m R S M := by
  obtain ⟨o, z, a1, a2, a3, a4, a5, a6⟩ := X
  exact ⟨o, z, a1, a2, a3, a4, a5, fun k hk => wMoE_mono (a6 k hk) h⟩
theorem wIm_mono {n m R S : Nat} {M : zM} (h : n ≤ m) (X : wIm n R S M) : wIm m R S M := fun i hi => ⟨(X i hi).1, fun q => wMoE_mono ((X i hi).2 q) h⟩
theorem wI_mono {n m : Nat} {M : zM} (h : n ≤ m) (X : wI n M) : wI m M := by
  obtain ⟨R, W, H, S, a1, a2, a3, a4, a5⟩ := X
  exact ⟨R, W, H, S, a1, wMoE_mono a2 h, wPa_mono h a3, wIm_mono h a4, a5⟩
theorem wP_tr {M M' : zM} {R W H S : Nat} (X : wP M R W H S) (h3 : M'.1 3 = M.1 3) (h4 : M'.1 4 = M.1 4) (h5 : M'.1 5 = M.1 5) (h6 : M'.1 26 = M.1 26) (h7 : M'.1 27 = M.1 27) (h25 : ∀ j, j < 4 → M'.1 25 j = M.1 25 j) : wP M' R W H S := by
  unfold wP at *
  rw [h3, h4, h5, h6, h7, h25 0 (by omega), h25 1 (by omega), h25 2 (by omega), h25 3 (by omega)]
  exact X
theorem wPa_tr {n R S : Nat} {M M' : zM} (X : wPa n R S M) (h9 : M'.1 9 = M.1 9) (hc : ∀ q, 49 ≤ q → q < 109 → M'.1 q = M.1 q) (h25 : M'.1 25 9 = M.1 25 9) (h30 : M'.1 30 = M.1 30) : wPa n R S M' := by
  obtain ⟨o, z, a1, a2, a3, a4, a5, a6⟩ := X
  refine ⟨o, z, a1, a2, by rw [h9]; exact a3, by rw [h9]; exact a4, by rw [h25]; exact a5, fun k hk => ?_⟩
  have hm : (o + k) % 10 < 10 := Nat.mod_lt _ (by omega)
  refine wMoE_tr (a6 k hk) ?_ ?_ (fun i j h1 h5 hj => ?_) (fun j hj => ?_)
  · show M'.1 _ 1 = M.1 _ 1; rw [hc _ (by omega) (by omega)]
  · show M'.1 _ 2 = M.1 _ 2; rw [hc _ (by omega) (by omega)]
  · show M'.1 _ j = M.1 _ j; rw [hc _ (by omega) (by omega)]
  · show M'.1 30 _ = M.1 30 _; rw [h30]
theorem wIm_tr {n R S : Nat} {M M' : zM} (X : wIm n R S M) (h12 : M'.1 12 = M.1 12) (hc : ∀ q, 109 ≤ q → q < 121 → M'.1 q = M.1 q) (h32 : M'.1 32 = M.1 32) (h31 : M'.1 31 = M.1 31) : wIm n R S M' := by
  intro i hi
  obtain ⟨a1, a2⟩ := X i hi
  refine ⟨by rw [h12, h32]; exact a1, fun q => ?_⟩
  rw [h12] at q
  refine wMoE_tr (a2 q) ?_ ?_ (fun i j h1 h5 hj => ?_) (fun j hj => ?_)
  · show M'.1 _ 1 = M.1 _ 1; rw [hc _ (by omega) (by omega)]
  · show M'.1 _ 2 = M.1 _ 2; rw [hc _ (by omega) (by omega)]
  · show M'.1 _ j = M.1 _ j; rw [hc _ (by omega) (by omega)]
  · show M'.1 31 _ = M.1 31 _; rw [h31]
theorem wSe_tr {M M' : zM} (X : wSe M) (h13 : M'.1 13 = M.1 13) (h14 : M'.1 14 = M.1 14) (h15 : M'.1 15 = M.1 15) (h16 : M'.1 16 = M.1 16) (h33 : M'.1 33 = M.1 33) (h25 : M'.1 25 13 = M.1 25 13) : wSe M' := by
  unfold wSe at *
  rw [h13, h14, h15, h16, h33, h25]
  exact X
theorem wTx_tr {M M' : zM} (X : wTx M) (h1 : M'.1 1 1 = M.1 1 1) (h2 : M'.1 2 = M.1 2) (h34 : M'.1 34 = M.1 34) (h25 : M'.1 25 16 = M.1 25 16) : wTx M' := by
  unfold wTx at *
  rw [h1, h2, h34, h25]
  exact X
theorem wTc_tr {M M' : zM} (X : wTc M) (h : ∀ q, q ≠ 17 → M'.2 q = M.2 q) : wTc M' := by
  unfold wTc at *
  rw [h 25 (by decide), h 19 (by decide), h 20 (by decide), h 21 (by decide), h 22 (by decide), h 23 (by decide), h 24 (by decide)]
  exact X
/-- places that nobody's answer hangs on between the calls -/
def wLo (q : Nat) : Prop := q = 6 ∨ q = 7 ∨ q = 8 ∨ q = 29 ∨ q = 35 ∨ q = 36 ∨ (43 ≤ q ∧ q < 49)
theorem wI_tr {n : Nat} {M M' : zM} (X : wI n M) (h : ∀ q, ¬ wLo q → q ≠ 1 → q ≠ 25 → M'.1 q = M.1 q) (h1 : M'.1 1 1 = M.1 1 1) (h25 : ∀ j, j < 17 → M'.1 25 j = M.1 25 j) (hL : ∀ q, q ≠ 17 → M'.2 q = M.2 q) : wI n M' := by
  have h : ∀ q, q ≠ 6 → q ≠ 7 → q ≠ 8 → q ≠ 29 → q ≠ 35 → q ≠ 36 → ¬ (43 ≤ q ∧ q < 49) → q ≠ 1 → q ≠ 25 → M'.1 q = M.1 q := fun q a1 a2 a3 a4 a5 a6 a7 a8 a9 => h q (fun z => by unfold wLo at z; omega) a8 a9
  have g : ∀ q, (q ≠ 6 ∧ q ≠ 7 ∧ q ≠ 8 ∧ q ≠ 29 ∧ q ≠ 35 ∧ q ≠ 36 ∧ ¬ (43 ≤ q ∧ q < 49) ∧ q ≠ 1 ∧ q ≠ 25) → M'.1 q = M.1 q := fun q a => h q a.1 a.2.1 a.2.2.1 a.2.2.2.1 a.2.2.2.2.1 a.2.2.2.2.2.1 a.2.2.2.2.2.2.1 a.2.2.2.2.2.2.2.1 a.2.2.2.2.2.2.2.2
  obtain ⟨R, W, H, S, a1, a2, a3, a4, a5, a6, a7⟩ := X
  refine ⟨R, W, H, S, wP_tr a1 (g _ (by omega)) (g _ (by omega)) (g _ (by omega)) (g _ (by omega)) (g _ (by omega)) (fun j hj => h25 j (by omega)), ?_, wPa_tr a3 (g _ (by omega)) (fun q _ _ => g _ (by omega)) (h25 _ (by omega)) (g _ (by omega)), wIm_tr a4 (g _ (by omega)) (fun q _ _ => g _ (by omega)) (g _ (by omega)) (g _ (by omega)), wSe_tr a5 (g _ (by omega)) (g _ (by omega)) (g _ (by omega)) (g _ (by omega)) (g _ (by omega)) (h25 _ (by omega)), wTx_tr a6 h1 (g _ (by omega)) (g _ (by omega)) (h25 _ (by omega)), wTc_tr a7 hL⟩
  refine wMoE_tr a2 ?_ ?_ (fun i j h1 h5 hj => ?_) (fun j hj => ?_)
  · show M'.1 37 1 = M.1 37 1; rw [g _ (by omega)]
  · show M'.1 37 2 = M.1 37 2; rw [g _ (by omega)]
  · show M'.1 (37 + i) j = M.1 (37 + i) j; rw [g _ (by omega)]
  · rw [g _ (by omega)]
/-- one call: the same answer, and all holds on -/
def wOp (n : Nat) (M : zM) (f : zM → Option (Int32 × zM)) (f' : zM → Option (Int32 × zM)) : Prop := ∃ r M1 M2, f M = some (r, M1) ∧ f' M1 = some (r, M2) ∧ wI (n + 1) M2
theorem wOp_same {n : Nat} {M : zM} {f f' : zM → Option (Int32 × zM)} (X : wI n M) (r : Int32) (h1 : f M = some (r, M)) (h2 : f' M = some (r, M)) : wOp n M f f' := ⟨r, M, M, h1, h2, wI_mono (Nat.le_succ _) X⟩
