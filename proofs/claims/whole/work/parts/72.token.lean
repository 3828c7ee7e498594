/-! the text, token by token, on both sides -/
def wL (L : Nat) (b : Nat → Nat) (Mc Mr : zM) : Prop := L ≤ 100 ∧ Mc.1 1 1 = nI L ∧ Mr.1 25 16 = nI L ∧ ∀ j, j < L → b j ≤ 255 ∧ Mc.1 2 j = nI (b j) ∧ Mr.1 34 j = nI (b j)
def frC (M M' : zM) : Prop := (∀ q, q ≠ 1 → M'.1 q = M.1 q) ∧ (∀ j, j < 2 ∨ 6 ≤ j → M'.1 1 j = M.1 1 j) ∧ M'.2 = M.2
def frR (M M' : zM) : Prop := (∀ q, q ≠ 25 → M'.1 q = M.1 q) ∧ (∀ j, j < 17 ∨ 21 ≤ j → M'.1 25 j = M.1 25 j) ∧ M'.2 = M.2
theorem frC_r (M : zM) : frC M M := ⟨fun _ _ => rfl, fun _ _ => rfl, rfl⟩
theorem frR_r (M : zM) : frR M M := ⟨fun _ _ => rfl, fun _ _ => rfl, rfl⟩
theorem frC_t {M M' M'' : zM} (h : frC M M') (h2 : frC M' M'') : frC M M'' := ⟨fun q hq => by rw [h2.1 q hq, h.1 q hq], fun j hj => by rw [h2.2.1 j hj, h.2.1 j hj], by rw [h2.2.2, h.2.2]⟩
theorem frR_t {M M' M'' : zM} (h : frR M M') (h2 : frR M' M'') : frR M M'' := ⟨fun q hq => by rw [h2.1 q hq, h.1 q hq], fun j hj => by rw [h2.2.1 j hj, h.2.1 j hj], by rw [h2.2.2, h.2.2]⟩
theorem frC_s {M : zM} {j : Nat} {v : Int32} (h : 2 ≤ j ∧ j < 6) : frC M (zs M 1 j v) := ⟨fun q hq => zs_ne hq, fun i hi => by rw [zs_row, upd_n (by omega)], rfl⟩
theorem frR_s {M : zM} {j : Nat} {v : Int32} (h : 17 ≤ j ∧ j < 21) : frR M (zs M 25 j v) := ⟨fun q hq => zs_ne hq, fun i hi => by rw [zs_row, upd_n (by omega)], rfl⟩
theorem wL_fr {L : Nat} {b : Nat → Nat} {Mc Mr Mc' Mr' : zM} (h : wL L b Mc Mr) (hc : frC Mc Mc') (hr : frR Mr Mr') : wL L b Mc' Mr' := by
  obtain ⟨h1, h2, h3, h4⟩ := h
  refine ⟨h1, by rw [hc.2.1 1 (by omega)]; exact h2, by rw [hr.2.1 16 (by omega)]; exact h3, fun j hj => ?_⟩
  rw [hc.1 2 (by decide), hr.1 34 (by decide)]
  exact h4 j hj
/-- one token read alike -/
def wTk (Mc Mr : zM) : Prop := (Mc.1 1 3 = -1 ∧ Mr.1 25 19 = 0) ∨ (Mc.1 1 3 = -2 ∧ Mr.1 25 19 = 2 ∧ ∃ v, v ≤ 99 ∧ Mc.1 1 5 = nI v ∧ Mr.1 25 20 = nI v) ∨ (∃ v, (v = 114 ∨ v = 104 ∨ v = 115) ∧ Mc.1 1 3 = nI v ∧ Mr.1 25 19 = 1 ∧ Mr.1 25 20 = nI v) ∨ (Mc.1 1 3 = 59 ∧ Mr.1 25 19 = 3) ∨ (Mc.1 1 3 = -3 ∧ Mr.1 25 19 = 4)
theorem r_here {M : zM} {L i x : Nat} (h1 : M.1 25 16 = nI L) (hL : L ≤ 100) (h2 : M.1 25 17 = nI i) (hi : i < L) (h3 : M.1 34 i = nI x) : f_X12_here M = some (nI x, M) := by
  show f_X12_here_0 M = _
  rw [f_X12_here_0, h1, h2, if_neg (nI_ge hi (by omega)), zg_in (by omega) (by decide), nI_clamp (by omega), h3]
theorem r_hereE {M : zM} {L : Nat} (h1 : M.1 25 16 = nI L) (h2 : M.1 25 17 = nI L) : f_X12_here M = some (-1, M) := by
  show f_X12_here_0 M = _
  rw [f_X12_here_0, h1, h2, if_pos (Int32.le_refl _)]
theorem r_isFig {M : zM} {L i x : Nat} (h1 : M.1 25 16 = nI L) (hL : L ≤ 100) (h2 : M.1 25 17 = nI i) (hi : i < L) (h3 : M.1 34 i = nI x) (hx : x ≤ 255) : f_X12_isFigure M = some (if 48 ≤ x ∧ x ≤ 57 then 1 else 0, M) := by
  show f_X12_isFigure_0 M = _
  rw [f_X12_isFigure_0, r_here h1 hL h2 hi h3, zbi_s]
  by_cases h : 48 ≤ x ∧ x ≤ 57
  · rw [r_inT (a := 48) (b := 57) rfl rfl (by rw [nI_t (by omega)]; omega), zbi_s, zg_t (by decide), if_pos h]
  · rw [r_inF (a := 48) (b := 57) rfl rfl (by rw [nI_t (by omega)]; omega), zbi_s, zg_t (by decide), if_neg h]
theorem r_isFigE {M : zM} {L : Nat} (h1 : M.1 25 16 = nI L) (h2 : M.1 25 17 = nI L) : f_X12_isFigure M = some (0, M) := by
  show f_X12_isFigure_0 M = _
  rw [f_X12_isFigure_0, r_hereE h1 h2, zbi_s, r_inF (a := 48) (b := 57) rfl rfl (by decide), zbi_s, zg_t (by decide)]
def dI (bp d N V : Nat) : Prop := (d = 0 → N = 0 ∧ V = 0) ∧ (d = 1 → N = V ∧ N ≤ 9 ∧ (bp = 48 ↔ N = 0)) ∧ (d = 2 → N = V ∧ N ≤ 99 ∧ (bp = 48 ↔ N < 10)) ∧ (3 ≤ d → bp = 48 ∨ 99 < V) ∧ N ≤ 99 ∧ V ≤ 999
theorem dI_s {bp d N V x : Nat} (h : dI bp d N V) (hx : 48 ≤ x ∧ x ≤ 57) (h0 : d = 0 → x = bp) : dI bp (d + 1) (if 2 ≤ d then N else 10 * N + (x - 48)) (if V ≤ 99 then 10 * V + (x - 48) else V) := by
  unfold dI at *
  obtain ⟨a1, a2, a3, a4, a5, a6⟩ := h
  by_cases c1 : d = 0
  · obtain ⟨e1, e2⟩ := a1 c1
    have e3 := h0 c1
    subst c1 e1 e2 e3
    rw [if_neg (by omega), if_pos (by omega)]
    refine ⟨by omega, by omega, by omega, by omega, by omega, by omega⟩
  · by_cases c2 : d = 1
    · obtain ⟨e1, e2, e3⟩ := a2 c2
      subst c2 e1
      rw [if_neg (by omega), if_pos (by omega)]
      refine ⟨by omega, by omega, by omega, by omega, by omega, by omega⟩
    · by_cases c3 : d = 2
      · obtain ⟨e1, e2, e3⟩ := a3 c3
        subst c3 e1
        rw [if_pos (by omega), if_pos (by omega)]
        refine ⟨by omega, by omega, by omega, by omega, by omega, by omega⟩
      · rw [if_pos (by omega)]
        have := a4 (by omega)
        by_cases c4 : V ≤ 99
        · rw [if_pos c4]
          refine ⟨by omega, by omega, by omega, by omega, by omega, by omega⟩
        · rw [if_neg c4]
          refine ⟨by omega, by omega, by omega, by omega, by omega, by omega⟩
theorem n10 {N x : Nat} (h : 48 ≤ x) : nI N * (10 : Int32) + nI x - (48 : Int32) = nI (10 * N + (x - 48)) := by
  have e1 : nI N * (10 : Int32) = nI (N * 10) := pk_mul N 10
  have e2 : nI (N * 10 + x) - (48 : Int32) = nI (N * 10 + x - 48) := pk_sub (b := 48) (by omega)
  rw [e1, nI_add, e2]
  congr 1
  omega
theorem n10' {N x : Nat} (h : 48 ≤ x) : (10 : Int32) * nI N + nI x - (48 : Int32) = nI (10 * N + (x - 48)) := by
  have e1 : (10 : Int32) * nI N = nI (10 * N) := pk_mul 10 N
  have e2 : nI (10 * N + x) - (48 : Int32) = nI (10 * N + x - 48) := pk_sub (b := 48) (by omega)
  rw [e1, nI_add, e2]
  congr 1
  omega
/-- the digits are over -/
theorem c_dEnd {M : zM} {p d N : Nat} (h2 : M.1 1 2 = nI (p + d)) (h4 : M.1 1 4 = nI p) (h5 : M.1 1 5 = nI N) (hp : p + d ≤ 100) (hN : N ≤ 99) : f_X10_readDigits_101 M = some (zs M 1 3 (if 2 < d ∨ (1 < d ∧ N < 10) then -3 else -2)) := by
  have e : nI (p + d) - nI p = nI d := by rw [pk_sub (by omega), Nat.add_sub_cancel_left]
  rw [f_X10_readDigits_101, h2, h4, e, h5]
  by_cases c1 : d ≤ 1
  · rw [if_pos (show nI d ≤ (1 : Int32) from nI_le (b := 1) c1 (by decide)), f_X10_readDigits_130, if_neg (show ¬ (2 : Int32) < nI d from nI_nlt (a := 2) (by omega) (by decide)), if_pos rfl, if_neg (by omega)]
    rfl
  · rw [if_neg (show ¬ nI d ≤ (1 : Int32) from nI_ge (a := 1) (by omega) (by omega))]
    by_cases c2 : 10 ≤ N
    · rw [if_pos (show (10 : Int32) ≤ nI N from nI_le (a := 10) c2 (by omega)), f_X10_readDigits_130]
      by_cases c3 : 2 < d
      · rw [if_pos (show (2 : Int32) < nI d from nI_lt (a := 2) c3 (by omega)), if_pos (Or.inl c3)]
        rfl
      · rw [if_neg (show ¬ (2 : Int32) < nI d from nI_nlt (a := 2) (by omega) (by decide)), if_pos rfl, if_neg (by omega)]
        rfl
    · rw [if_neg (show ¬ (10 : Int32) ≤ nI N from nI_ge (b := 10) (by omega) (by decide)), f_X10_readDigits_130, if_pos (Or.inr ⟨by omega, by omega⟩)]
      by_cases c3 : 2 < d
      · rw [if_pos (show (2 : Int32) < nI d from nI_lt (a := 2) c3 (by omega))]
        rfl
      · rw [if_neg (show ¬ (2 : Int32) < nI d from nI_nlt (a := 2) (by omega) (by decide)), if_neg (by decide)]
        rfl
theorem dj {L p : Nat} {b : Nat → Nat} : ∀ k d n m Mc Mr N V, p + d + k = L → k < n → k < m → wL L b Mc Mr → Mc.1 1 2 = nI (p + d) → Mr.1 25 17 = nI (p + d) → Mc.1 1 4 = nI p → Mr.1 25 18 = nI p → Mc.1 1 5 = nI N → Mr.1 25 20 = nI V → dI (b p) d N V → (d = 0 → p < L ∧ 48 ≤ b p ∧ b p ≤ 57) → ∃ Mc' Mr' e, f_X10_readDigits_5 n Mc = some Mc' ∧ f_X12_readsFigures_15 m Mr (if b p = 48 then 1 else 0) = some Mr' ∧ frC Mc Mc' ∧ frR Mr Mr' ∧ Mc'.1 1 2 = nI e ∧ Mr'.1 25 17 = nI e ∧ p < e ∧ e ≤ L ∧ Mc'.1 1 4 = nI p ∧ Mr'.1 25 18 = nI p ∧ wTk Mc' Mr' := by
  intro k
  induction k with
  | zero =>
    intro d n m Mc Mr N V hk hn hm hL c2 r2 c4 r4 c5 r5 hd h0
    obtain ⟨n, rfl⟩ : ∃ q, n = q + 1 := ⟨n - 1, by omega⟩
    obtain ⟨m, rfl⟩ : ∃ q, m = q + 1 := ⟨m - 1, by omega⟩
    have hd0 : d ≠ 0 := fun e => by have := (h0 e).1; omega
    obtain ⟨l1, l2, l3, l4⟩ := hL
    have hpd : p + d = L := by omega
    rw [hpd] at c2 r2
    have ce : f_X10_readDigits_5 (n + 1) Mc = f_X10_readDigits_101 Mc := by rw [f_X10_readDigits_5, l2, c2, if_pos (Int32.le_refl _)]
    have fin : ∀ s0, f_X12_readsFigures_15 (m + 1) Mr (if b p = 48 then 1 else 0) = some (zs Mr 25 19 s0) → (wTk (zs Mc 1 3 (if 2 < d ∨ (1 < d ∧ N < 10) then -3 else -2)) (zs Mr 25 19 s0)) → ∃ Mc' Mr' e, f_X10_readDigits_5 (n + 1) Mc = some Mc' ∧ f_X12_readsFigures_15 (m + 1) Mr (if b p = 48 then 1 else 0) = some Mr' ∧ frC Mc Mc' ∧ frR Mr Mr' ∧ Mc'.1 1 2 = nI e ∧ Mr'.1 25 17 = nI e ∧ p < e ∧ e ≤ L ∧ Mc'.1 1 4 = nI p ∧ Mr'.1 25 18 = nI p ∧ wTk Mc' Mr' := by
      intro s0 hr hw
      exact ⟨_, _, L, ce.trans (c_dEnd (by rw [hpd]; exact c2) c4 c5 (by omega) hd.2.2.2.2.1), hr, frC_s (by omega), frR_s (by omega), by rw [zs_row, upd_n (by decide)]; exact c2, by rw [zs_row, upd_n (by decide)]; exact r2, by omega, by omega, by rw [zs_row, upd_n (by decide)]; exact c4, by rw [zs_row, upd_n (by decide)]; exact r4, hw⟩
    have re : f_X12_readsFigures_15 (m + 1) Mr (if b p = 48 then 1 else 0) = some (zs Mr 25 19 (if 99 < V ∨ (b p = 48 ∧ 1 < d) then 4 else 2)) := by
      have e : nI L - nI p = nI d := by rw [pk_sub (by omega)]; congr 1; omega
      rw [f_X12_readsFigures_15, r_isFigE l3 r2, zbi_s, if_pos rfl, r5, r2, r4, e]
      by_cases c1 : 99 < V
      · rw [if_pos (show (99 : Int32) < nI V from nI_lt (a := 99) c1 (by have := hd.2.2.2.2.2; omega)), if_pos (Or.inl c1)]
        rfl
      · rw [if_neg (show ¬ (99 : Int32) < nI V from nI_nlt (a := 99) (by omega) (by decide))]
        by_cases c3 : b p = 48
        · rw [if_pos c3, if_neg (by decide)]
          by_cases c6 : d ≤ 1
          · rw [if_pos (show nI d ≤ (1 : Int32) from nI_le (b := 1) c6 (by decide)), if_neg (by omega)]
            rfl
          · rw [if_neg (show ¬ nI d ≤ (1 : Int32) from nI_ge (a := 1) (by omega) (by omega)), if_pos (Or.inr ⟨c3, by omega⟩)]
            rfl
        · rw [if_neg c3, if_pos rfl, if_neg (by omega)]
          rfl
    refine fin _ re ?_
    unfold dI at hd
    by_cases c1 : 2 < d ∨ (1 < d ∧ N < 10)
    · rw [if_pos c1, if_pos (by omega)]
      refine Or.inr (Or.inr (Or.inr (Or.inr ⟨?_, ?_⟩)))
      · rw [zs_row, upd_s]
      · rw [zs_row, upd_s]
    · rw [if_neg c1, if_neg (by omega)]
      refine Or.inr (Or.inl ⟨?_, ?_, N, by omega, ?_, ?_⟩)
      · rw [zs_row, upd_s]
      · rw [zs_row, upd_s]
      · rw [zs_row, upd_n (by decide)]; exact c5
      · rw [zs_row, upd_n (by decide), r5]
        congr 1
        omega
  | succ k ih =>
    intro d n m Mc Mr N V hk hn hm hL c2 r2 c4 r4 c5 r5 hd h0
    obtain ⟨n, rfl⟩ : ∃ q, n = q + 1 := ⟨n - 1, by omega⟩
    obtain ⟨m, rfl⟩ : ∃ q, m = q + 1 := ⟨m - 1, by omega⟩
    obtain ⟨l1, l2, l3, l4⟩ := id hL
    obtain ⟨x1, x2, x3⟩ := l4 (p + d) (by omega)
    have hN := hd.2.2.2.2.1
    have hV := hd.2.2.2.2.2
    by_cases hdig : 48 ≤ b (p + d) ∧ b (p + d) ≤ 57
    · have e : nI (p + d) - nI p = nI d := by rw [pk_sub (by omega), Nat.add_sub_cancel_left]
      have cs : f_X10_readDigits_5 (n + 1) Mc = f_X10_readDigits_5 n (zs (zs Mc 1 5 (nI (if 2 ≤ d then N else 10 * N + (b (p + d) - 48)))) 1 2 (nI (p + (d + 1)))) := by
        rw [f_X10_readDigits_5, l2, c2, if_neg (nI_ge (by omega) (by omega)), zg_in (by omega) (by decide), nI_clamp (by omega), x2, if_neg (show ¬ nI (b (p + d)) < (48 : Int32) from nI_nlt (b := 48) (by omega) (by omega)), zg_in (by omega) (by decide), if_neg (show ¬ (57 : Int32) < nI (b (p + d)) from nI_nlt (a := 57) (by omega) (by decide)), c4, e, c5]
        by_cases c1 : 2 ≤ d
        · rw [if_pos (show (2 : Int32) ≤ nI d from nI_le (a := 2) c1 (by omega)), if_pos c1, f_X10_readDigits_85, zs_row, upd_n (by decide), c2, nI_1]
          rfl
        · rw [if_neg (show ¬ (2 : Int32) ≤ nI d from nI_ge (b := 2) (by omega) (by decide)), if_neg c1, zg_in (by omega) (by decide), n10 hdig.1, f_X10_readDigits_85, zs_row, upd_n (by decide), c2, nI_1]
          rfl
      have rs : f_X12_readsFigures_15 (m + 1) Mr (if b p = 48 then 1 else 0) = f_X12_readsFigures_15 m (zs (zs Mr 25 20 (nI (if V ≤ 99 then 10 * V + (b (p + d) - 48) else V))) 25 17 (nI (p + (d + 1)))) (if b p = 48 then 1 else 0) := by
        rw [f_X12_readsFigures_15, r_isFig l3 l1 r2 (by omega) x3 x1, zbi_s, if_pos hdig, if_neg (by decide), r5]
        by_cases c1 : V ≤ 99
        · rw [if_pos (show nI V ≤ (99 : Int32) from nI_le (b := 99) c1 (by decide)), r_here l3 l1 r2 (by omega) x3, zbi_s, n10' hdig.1, if_pos c1, f_X12_readsFigures_54, zs_row, upd_n (by decide), r2, nI_1]
          rfl
        · rw [if_neg (show ¬ nI V ≤ (99 : Int32) from nI_ge (a := 99) (by omega) (by omega)), if_neg c1, f_X12_readsFigures_54, zs_row, upd_n (by decide), r2, nI_1]
          rfl
      rw [cs, rs]
      have fc : frC Mc (zs (zs Mc 1 5 (nI (if 2 ≤ d then N else 10 * N + (b (p + d) - 48)))) 1 2 (nI (p + (d + 1)))) := frC_t (frC_s (by omega)) (frC_s (by omega))
      have fr : frR Mr (zs (zs Mr 25 20 (nI (if V ≤ 99 then 10 * V + (b (p + d) - 48) else V))) 25 17 (nI (p + (d + 1)))) := frR_t (frR_s (by omega)) (frR_s (by omega))
      obtain ⟨Mc', Mr', e, i1, i2, i3, i4, i5⟩ := ih (d + 1) n m _ _ _ _ (by omega) (by omega) (by omega) (wL_fr hL fc fr) (by rw [zs_row, upd_s]) (by rw [zs_row, upd_s]) (by rw [zs_row, upd_n (by decide), zs_row, upd_n (by decide)]; exact c4) (by rw [zs_row, upd_n (by decide), zs_row, upd_n (by decide)]; exact r4) (by rw [zs_row, upd_n (by decide), zs_row, upd_s]) (by rw [zs_row, upd_n (by decide), zs_row, upd_s]) (dI_s hd hdig (fun q => by rw [q, Nat.add_zero])) (fun q => by omega)
      exact ⟨Mc', Mr', e, i1, i2, frC_t fc i3, frR_t fr i4, i5⟩
    · have hd0 : d ≠ 0 := fun e => by
        have := (h0 e).2
        rw [e, Nat.add_zero] at hdig
        exact hdig this
      have ce : f_X10_readDigits_5 (n + 1) Mc = f_X10_readDigits_101 Mc := by
        rw [f_X10_readDigits_5, l2, c2, if_neg (nI_ge (by omega) (by omega)), zg_in (by omega) (by decide), nI_clamp (by omega), x2]
        by_cases c1 : b (p + d) < 48
        · rw [if_pos (show nI (b (p + d)) < (48 : Int32) from nI_lt (b := 48) c1 (by decide))]
        · rw [if_neg (show ¬ nI (b (p + d)) < (48 : Int32) from nI_nlt (b := 48) (by omega) (by omega)), zg_in (by omega) (by decide), if_pos (show (57 : Int32) < nI (b (p + d)) from nI_lt (a := 57) (by omega) (by omega))]
      have re : f_X12_readsFigures_15 (m + 1) Mr (if b p = 48 then 1 else 0) = some (zs Mr 25 19 (if 99 < V ∨ (b p = 48 ∧ 1 < d) then 4 else 2)) := by
        have e : nI (p + d) - nI p = nI d := by rw [pk_sub (by omega), Nat.add_sub_cancel_left]
        rw [f_X12_readsFigures_15, r_isFig l3 l1 r2 (by omega) x3 x1, zbi_s, if_neg hdig, if_pos rfl, r5, r2, r4, e]
        by_cases c1 : 99 < V
        · rw [if_pos (show (99 : Int32) < nI V from nI_lt (a := 99) c1 (by omega)), if_pos (Or.inl c1)]
          rfl
        · rw [if_neg (show ¬ (99 : Int32) < nI V from nI_nlt (a := 99) (by omega) (by decide))]
          by_cases c3 : b p = 48
          · rw [if_pos c3, if_neg (by decide)]
            by_cases c6 : d ≤ 1
            · rw [if_pos (show nI d ≤ (1 : Int32) from nI_le (b := 1) c6 (by decide)), if_neg (by omega)]
              rfl
            · rw [if_neg (show ¬ nI d ≤ (1 : Int32) from nI_ge (a := 1) (by omega) (by omega)), if_pos (Or.inr ⟨c3, by omega⟩)]
              rfl
          · rw [if_neg c3, if_pos rfl, if_neg (by omega)]
            rfl
      refine ⟨_, _, p + d, ce.trans (c_dEnd c2 c4 c5 (by omega) hN), re, frC_s (by omega), frR_s (by omega), by rw [zs_row, upd_n (by decide)]; exact c2, by rw [zs_row, upd_n (by decide)]; exact r2, by omega, by omega, by rw [zs_row, upd_n (by decide)]; exact c4, by rw [zs_row, upd_n (by decide)]; exact r4, ?_⟩
      unfold dI at hd
      by_cases c1 : 2 < d ∨ (1 < d ∧ N < 10)
      · rw [if_pos c1, if_pos (by omega)]
        refine Or.inr (Or.inr (Or.inr (Or.inr ⟨?_, ?_⟩)))
        · rw [zs_row, upd_s]
        · rw [zs_row, upd_s]
      · rw [if_neg c1, if_neg (by omega)]
        refine Or.inr (Or.inl ⟨?_, ?_, N, by omega, ?_, ?_⟩)
        · rw [zs_row, upd_s]
        · rw [zs_row, upd_s]
        · rw [zs_row, upd_n (by decide)]; exact c5
        · rw [zs_row, upd_n (by decide), r5]
          congr 1
          omega
