/-! a token, a number, an item, all items, on both sides -/
def tkOut (L i : Nat) (Mc Mr : zM) (oc or' : Option zM) : Prop := ∃ Mc' Mr' i' p, oc = some Mc' ∧ or' = some Mr' ∧ frC Mc Mc' ∧ frR Mr Mr' ∧ Mc'.1 1 2 = nI i' ∧ Mr'.1 25 17 = nI i' ∧ i ≤ i' ∧ i' ≤ L ∧ Mc'.1 1 4 = nI p ∧ Mr'.1 25 18 = nI p ∧ p ≤ L ∧ wTk Mc' Mr' ∧ (Mc'.1 1 3 = -1 ∨ i < i')
/-- a token that is no digit's -/
theorem tk_let {L i : Nat} {b : Nat → Nat} {Mc Mr : zM} (hL : wL L b Mc Mr) (c2 : Mc.1 1 2 = nI i) (r2 : Mr.1 25 17 = nI i) (hi : i < L) (hd : ¬ (48 ≤ b i ∧ b i ≤ 57)) (m : Nat) (h32 : ¬ b i = 32) : tkOut L i Mc Mr (f_X10_readToken_38 Mc) (f_X12_nextToken_0 (m + 1) Mr) := by
  obtain ⟨l1, l2, l3, l4⟩ := id hL
  obtain ⟨x1, x2, x3⟩ := l4 i hi
  have hc : f_X10_readToken_38 Mc = f_X10_readToken_92 (zs Mc 1 4 (nI i)) (nI (b i)) := by
    rw [f_X10_readToken_38, c2, zs_row, upd_n (by decide), upd_n (by decide), c2, l2, if_pos (nI_lt hi (by omega)), zg_in (by omega) (by decide), nI_clamp (by omega), zs_ne (by decide), x2]
    by_cases c1 : b i < 48
    · rw [if_pos (show nI (b i) < (48 : Int32) from nI_lt (b := 48) c1 (by decide))]
    · rw [if_neg (show ¬ nI (b i) < (48 : Int32) from nI_nlt (b := 48) (by omega) (by omega)), if_pos (show (57 : Int32) < nI (b i) from nI_lt (a := 57) (by omega) (by omega))]
  have q16 : (zs (zs Mr 25 18 (nI i)) 25 20 0).1 25 16 = nI L := by rw [zs_row, upd_n (by decide), zs_row, upd_n (by decide)]; exact l3
  have q17 : (zs (zs Mr 25 18 (nI i)) 25 20 0).1 25 17 = nI i := by rw [zs_row, upd_n (by decide), zs_row, upd_n (by decide)]; exact r2
  have q34 : (zs (zs Mr 25 18 (nI i)) 25 20 0).1 34 i = nI (b i) := by rw [zs_ne (by decide), zs_ne (by decide)]; exact x3
  have hr : f_X12_nextToken_0 (m + 1) Mr = (if nI (b i) = (114 : Int32) then (f_X12_nextToken_122 (zs (zs (zs Mr 25 18 (nI i)) 25 20 0) 25 20 (nI (b i))) (1 : Int32)) else (if nI (b i) = (104 : Int32) then (f_X12_nextToken_122 (zs (zs (zs Mr 25 18 (nI i)) 25 20 0) 25 20 (nI (b i))) (1 : Int32)) else (if nI (b i) = (115 : Int32) then (f_X12_nextToken_122 (zs (zs (zs Mr 25 18 (nI i)) 25 20 0) 25 20 (nI (b i))) (1 : Int32)) else (if nI (b i) = (59 : Int32) then (f_X12_nextToken_122 (zs (zs (zs Mr 25 18 (nI i)) 25 20 0) 25 20 (nI (b i))) (3 : Int32)) else (f_X12_nextToken_122 (zs (zs (zs Mr 25 18 (nI i)) 25 20 0) 25 20 (nI (b i))) (4 : Int32)))))) := by
    rw [f_X12_nextToken_0, r_here l3 l1 r2 hi x3, zbi_s, if_neg (show ¬ nI (b i) = (32 : Int32) from fun q => h32 ((nI_eq (b := 32) (by omega) (by decide)).mp q)), r2, q17, q16, if_neg (fun q => by have := (nI_eq (by omega) (by omega)).mp q; omega), r_isFig q16 l1 q17 hi q34 x1, zbi_s, if_neg hd, if_pos rfl, r_here q16 l1 q17 hi q34, zbi_s, zs_row, upd_s]
  have fin : ∀ tc tr : Int32, f_X10_readToken_38 Mc = f_X10_readToken_123 (zs Mc 1 4 (nI i)) tc → f_X12_nextToken_0 (m + 1) Mr = f_X12_nextToken_122 (zs (zs (zs Mr 25 18 (nI i)) 25 20 0) 25 20 (nI (b i))) tr → (∀ Mc' Mr' : zM, Mc'.1 1 3 = tc → Mr'.1 25 19 = tr → Mr'.1 25 20 = nI (b i) → wTk Mc' Mr') → tkOut L i Mc Mr (f_X10_readToken_38 Mc) (f_X12_nextToken_0 (m + 1) Mr) := by
    intro tc tr hc hr hw
    refine ⟨zs (zs (zs Mc 1 4 (nI i)) 1 3 tc) 1 2 (nI (i + 1)), zs (zs (zs (zs (zs Mr 25 18 (nI i)) 25 20 0) 25 20 (nI (b i))) 25 19 tr) 25 17 (nI (i + 1)), i + 1, i, ?_, ?_, ?_, ?_, ?_, ?_, by omega, by omega, ?_, ?_, by omega, hw _ _ ?_ ?_ ?_, Or.inr (by omega)⟩
    · rw [hc, f_X10_readToken_123, zs_row, upd_n (by decide), zs_row, upd_n (by decide), c2, nI_1]
    · rw [hr, f_X12_nextToken_122, zs_row, upd_n (by decide), zs_row, upd_n (by decide), q17, nI_1]
    · exact frC_t (frC_t (frC_s (by omega)) (frC_s (by omega))) (frC_s (by omega))
    · exact frR_t (frR_t (frR_t (frR_t (frR_s (by omega)) (frR_s (by omega))) (frR_s (by omega))) (frR_s (by omega))) (frR_s (by omega))
    · rw [zs_row, upd_s]
    · rw [zs_row, upd_s]
    · rw [zs_row, upd_n (by decide), zs_row, upd_n (by decide), zs_row, upd_s]
    · rw [zs_row, upd_n (by decide), zs_row, upd_n (by decide), zs_row, upd_n (by decide), zs_row, upd_n (by decide), zs_row, upd_s]
    · rw [zs_row, upd_n (by decide), zs_row, upd_s]
    · rw [zs_row, upd_n (by decide), zs_row, upd_s]
    · rw [zs_row, upd_n (by decide), zs_row, upd_n (by decide), zs_row, upd_s]
  have ne : ∀ k, k ≤ 255 → ¬ b i = k → ¬ nI (b i) = nI k := fun k hk h q => h ((nI_eq (by omega) (by omega)).mp q)
  by_cases h1 : b i = 114
  · refine fin (nI (b i)) 1 ?_ ?_ (fun Mc' Mr' e1 e2 e3 => Or.inr (Or.inr (Or.inl ⟨b i, Or.inl h1, e1, e2, e3⟩)))
    · rw [hc, f_X10_readToken_92, if_pos (by rw [h1]; rfl)]
    · rw [hr, if_pos (by rw [h1]; rfl)]
  by_cases h2 : b i = 104
  · refine fin (nI (b i)) 1 ?_ ?_ (fun Mc' Mr' e1 e2 e3 => Or.inr (Or.inr (Or.inl ⟨b i, Or.inr (Or.inl h2), e1, e2, e3⟩)))
    · rw [hc, f_X10_readToken_92, if_neg (show ¬ nI (b i) = (114 : Int32) from ne 114 (by decide) h1), if_pos (by rw [h2]; rfl)]
    · rw [hr, if_neg (show ¬ nI (b i) = (114 : Int32) from ne 114 (by decide) h1), if_pos (by rw [h2]; rfl)]
  by_cases h3 : b i = 115
  · refine fin (nI (b i)) 1 ?_ ?_ (fun Mc' Mr' e1 e2 e3 => Or.inr (Or.inr (Or.inl ⟨b i, Or.inr (Or.inr h3), e1, e2, e3⟩)))
    · rw [hc, f_X10_readToken_92, if_neg (show ¬ nI (b i) = (114 : Int32) from ne 114 (by decide) h1), if_neg (show ¬ nI (b i) = (104 : Int32) from ne 104 (by decide) h2), if_pos (by rw [h3]; rfl)]
    · rw [hr, if_neg (show ¬ nI (b i) = (114 : Int32) from ne 114 (by decide) h1), if_neg (show ¬ nI (b i) = (104 : Int32) from ne 104 (by decide) h2), if_pos (by rw [h3]; rfl)]
  by_cases h4 : b i = 59
  · refine fin (nI (b i)) 3 ?_ ?_ (fun Mc' Mr' e1 e2 e3 => Or.inr (Or.inr (Or.inr (Or.inl ⟨by rw [e1, h4]; rfl, e2⟩))))
    · rw [hc, f_X10_readToken_92, if_neg (show ¬ nI (b i) = (114 : Int32) from ne 114 (by decide) h1), if_neg (show ¬ nI (b i) = (104 : Int32) from ne 104 (by decide) h2), if_neg (show ¬ nI (b i) = (115 : Int32) from ne 115 (by decide) h3), if_pos (by rw [h4]; rfl)]
    · rw [hr, if_neg (show ¬ nI (b i) = (114 : Int32) from ne 114 (by decide) h1), if_neg (show ¬ nI (b i) = (104 : Int32) from ne 104 (by decide) h2), if_neg (show ¬ nI (b i) = (115 : Int32) from ne 115 (by decide) h3), if_pos (by rw [h4]; rfl)]
  · refine fin (-3) 4 ?_ ?_ (fun Mc' Mr' e1 e2 e3 => Or.inr (Or.inr (Or.inr (Or.inr ⟨e1, e2⟩))))
    · rw [hc, f_X10_readToken_92, if_neg (show ¬ nI (b i) = (114 : Int32) from ne 114 (by decide) h1), if_neg (show ¬ nI (b i) = (104 : Int32) from ne 104 (by decide) h2), if_neg (show ¬ nI (b i) = (115 : Int32) from ne 115 (by decide) h3), if_neg (show ¬ nI (b i) = (59 : Int32) from ne 59 (by decide) h4)]
    · rw [hr, if_neg (show ¬ nI (b i) = (114 : Int32) from ne 114 (by decide) h1), if_neg (show ¬ nI (b i) = (104 : Int32) from ne 104 (by decide) h2), if_neg (show ¬ nI (b i) = (115 : Int32) from ne 115 (by decide) h3), if_neg (show ¬ nI (b i) = (59 : Int32) from ne 59 (by decide) h4)]
theorem tk_dig {L i : Nat} {b : Nat → Nat} {Mc Mr : zM} (hL : wL L b Mc Mr) (c2 : Mc.1 1 2 = nI i) (r2 : Mr.1 25 17 = nI i) (hi : i < L) (hd : 48 ≤ b i ∧ b i ≤ 57) (m : Nat) : tkOut L i Mc Mr (f_X10_readToken_38 Mc) (f_X12_nextToken_0 (m + 1) Mr) := by
  obtain ⟨l1, l2, l3, l4⟩ := id hL
  obtain ⟨x1, x2, x3⟩ := l4 i hi
  have hc : f_X10_readToken_38 Mc = f_X10_readDigits_5 zFU (zs (zs Mc 1 4 (nI i)) 1 5 0) := by
    rw [f_X10_readToken_38, c2, zs_row, upd_n (by decide), upd_n (by decide), c2, l2, if_pos (nI_lt hi (by omega)), zg_in (by omega) (by decide), nI_clamp (by omega), zs_ne (by decide), x2, if_neg (show ¬ nI (b i) < (48 : Int32) from nI_nlt (b := 48) (by omega) (by omega)), if_neg (show ¬ (57 : Int32) < nI (b i) from nI_nlt (a := 57) (by omega) (by decide))]
    show zbv (f_X10_readDigits_5 zFU (zs (zs Mc 1 4 (nI i)) 1 5 0)) (fun M7 => some M7) = _
    cases f_X10_readDigits_5 zFU (zs (zs Mc 1 4 (nI i)) 1 5 0) <;> rfl
  have q16 : (zs (zs Mr 25 18 (nI i)) 25 20 0).1 25 16 = nI L := by rw [zs_row, upd_n (by decide), zs_row, upd_n (by decide)]; exact l3
  have q17 : (zs (zs Mr 25 18 (nI i)) 25 20 0).1 25 17 = nI i := by rw [zs_row, upd_n (by decide), zs_row, upd_n (by decide)]; exact r2
  have q34 : (zs (zs Mr 25 18 (nI i)) 25 20 0).1 34 i = nI (b i) := by rw [zs_ne (by decide), zs_ne (by decide)]; exact x3
  have hr : f_X12_nextToken_0 (m + 1) Mr = f_X12_readsFigures_15 zFU (zs (zs Mr 25 18 (nI i)) 25 20 0) (if b i = 48 then 1 else 0) := by
    rw [f_X12_nextToken_0, r_here l3 l1 r2 hi x3, zbi_s, if_neg (show ¬ nI (b i) = (32 : Int32) from fun q => by have := (nI_eq (b := 32) (by omega) (by decide)).mp q; omega), r2, q17, q16, if_neg (fun q => by have := (nI_eq (by omega) (by omega)).mp q; omega), r_isFig q16 l1 q17 hi q34 x1, zbi_s, if_pos hd, if_neg (by decide)]
    show zbv (f_X12_readsFigures_0 _) _ = _
    rw [f_X12_readsFigures_0, r_here q16 l1 q17 hi q34, zbi_s]
    by_cases h48 : b i = 48
    · rw [if_pos (show nI (b i) = (48 : Int32) from by rw [h48]; rfl), if_pos h48, f_X12_readsFigures_14]
      cases f_X12_readsFigures_15 zFU (zs (zs Mr 25 18 (nI i)) 25 20 0) 1 <;> rfl
    · rw [if_neg (show ¬ nI (b i) = (48 : Int32) from fun q => h48 ((nI_eq (b := 48) (by omega) (by decide)).mp q)), if_neg h48, f_X12_readsFigures_14]
      cases f_X12_readsFigures_15 zFU (zs (zs Mr 25 18 (nI i)) 25 20 0) 0 <;> rfl
  have fc : frC Mc (zs (zs Mc 1 4 (nI i)) 1 5 0) := frC_t (frC_s (by omega)) (frC_s (by omega))
  have fr : frR Mr (zs (zs Mr 25 18 (nI i)) 25 20 0) := frR_t (frR_s (by omega)) (frR_s (by omega))
  obtain ⟨Mc', Mr', e, i1, i2, i3, i4, i5, i6, i7, i8, i9, i10, i11⟩ := dj (L := L) (p := i) (b := b) (L - i) 0 zFU zFU (zs (zs Mc 1 4 (nI i)) 1 5 0) (zs (zs Mr 25 18 (nI i)) 25 20 0) 0 0 (by omega) (zFU_gt (by omega)) (zFU_gt (by omega)) (wL_fr hL fc fr) (by rw [zs_row, upd_n (by decide), zs_row, upd_n (by decide)]; exact c2) q17 (by rw [zs_row, upd_n (by decide), zs_row, upd_s]) (by rw [zs_row, upd_n (by decide), zs_row, upd_s]) (by rw [zs_row, upd_s, nI_0]) (by rw [zs_row, upd_s, nI_0]) ⟨fun _ => ⟨rfl, rfl⟩, fun q => by omega, fun q => by omega, fun q => by omega, by omega, by omega⟩ (fun _ => ⟨hi, hd.1, hd.2⟩)
  exact ⟨Mc', Mr', e, i, hc.trans i1, hr.trans i2, frC_t fc i3, frR_t fr i4, i5, i6, by omega, i8, i9, i10, by omega, i11, Or.inr i7⟩
theorem tk0 {L : Nat} {b : Nat → Nat} : ∀ k i n m Mc Mr, i + k = L → k < n → k < m → wL L b Mc Mr → Mc.1 1 2 = nI i → Mr.1 25 17 = nI i → tkOut L i Mc Mr (f_X10_readToken_0 n Mc) (f_X12_nextToken_0 m Mr) := by
  intro k
  induction k with
  | zero =>
    intro i n m Mc Mr hk hn hm hL c2 r2
    obtain ⟨n, rfl⟩ : ∃ q, n = q + 1 := ⟨n - 1, by omega⟩
    obtain ⟨m, rfl⟩ : ∃ q, m = q + 1 := ⟨m - 1, by omega⟩
    obtain rfl : i = L := by omega
    obtain ⟨l1, l2, l3, l4⟩ := id hL
    refine ⟨zs (zs Mc 1 4 (nI i)) 1 3 (-1), zs (zs (zs Mr 25 18 (nI i)) 25 20 0) 25 19 0, i, i, ?_, ?_, frC_t (frC_s (by omega)) (frC_s (by omega)), frR_t (frR_t (frR_s (by omega)) (frR_s (by omega))) (frR_s (by omega)), ?_, ?_, by omega, by omega, ?_, ?_, by omega, Or.inl ⟨?_, ?_⟩, Or.inl ?_⟩
    · rw [f_X10_readToken_0, l2, c2, if_pos (Int32.le_refl _), f_X10_readToken_38, c2, zs_row, upd_n (by decide), upd_n (by decide), c2, l2, if_neg (Int32.lt_irrefl)]
    · have q16 : (zs (zs Mr 25 18 (nI i)) 25 20 0).1 25 16 = nI i := by rw [zs_row, upd_n (by decide), zs_row, upd_n (by decide)]; exact l3
      have q17 : (zs (zs Mr 25 18 (nI i)) 25 20 0).1 25 17 = nI i := by rw [zs_row, upd_n (by decide), zs_row, upd_n (by decide)]; exact r2
      rw [f_X12_nextToken_0, r_hereE l3 r2, zbi_s, if_neg (by decide), r2, q17, q16, if_pos rfl]
    · rw [zs_row, upd_n (by decide), zs_row, upd_n (by decide)]; exact c2
    · rw [zs_row, upd_n (by decide), zs_row, upd_n (by decide), zs_row, upd_n (by decide)]; exact r2
    · rw [zs_row, upd_n (by decide), zs_row, upd_s]
    · rw [zs_row, upd_n (by decide), zs_row, upd_n (by decide), zs_row, upd_s]
    · rw [zs_row, upd_s]
    · rw [zs_row, upd_s]
    · rw [zs_row, upd_s]
  | succ k ih =>
    intro i n m Mc Mr hk hn hm hL c2 r2
    obtain ⟨n, rfl⟩ : ∃ q, n = q + 1 := ⟨n - 1, by omega⟩
    obtain ⟨m, rfl⟩ : ∃ q, m = q + 1 := ⟨m - 1, by omega⟩
    obtain ⟨l1, l2, l3, l4⟩ := id hL
    obtain ⟨x1, x2, x3⟩ := l4 i (by omega)
    by_cases h32 : b i = 32
    · have hc : f_X10_readToken_0 (n + 1) Mc = f_X10_readToken_0 n (zs Mc 1 2 (nI (i + 1))) := by
        rw [f_X10_readToken_0, l2, c2, if_neg (nI_ge (by omega) (by omega)), zg_in (by omega) (by decide), nI_clamp (by omega), x2, if_pos (show nI (b i) = (32 : Int32) from by rw [h32]; rfl), nI_1]
      have hr : f_X12_nextToken_0 (m + 1) Mr = f_X12_nextToken_0 m (zs Mr 25 17 (nI (i + 1))) := by
        rw [f_X12_nextToken_0, r_here l3 l1 r2 (by omega) x3, zbi_s, if_pos (show nI (b i) = (32 : Int32) from by rw [h32]; rfl), r2, nI_1]
      have fc : frC Mc (zs Mc 1 2 (nI (i + 1))) := frC_s (by omega)
      have fr : frR Mr (zs Mr 25 17 (nI (i + 1))) := frR_s (by omega)
      rw [hc, hr]
      obtain ⟨Mc', Mr', i', p, g1, g2, g3, g4, g5, g6, g7, g8, g9, g10, g11, g12, g13⟩ := ih (i + 1) n m _ _ (by omega) (by omega) (by omega) (wL_fr hL fc fr) (by rw [zs_row, upd_s]) (by rw [zs_row, upd_s])
      exact ⟨Mc', Mr', i', p, g1, g2, frC_t fc g3, frR_t fr g4, g5, g6, by omega, g8, g9, g10, g11, g12, g13.imp id (fun z => by omega)⟩
    · have hc : f_X10_readToken_0 (n + 1) Mc = f_X10_readToken_38 Mc := by
        rw [f_X10_readToken_0, l2, c2, if_neg (nI_ge (by omega) (by omega)), zg_in (by omega) (by decide), nI_clamp (by omega), x2, if_neg (show ¬ nI (b i) = (32 : Int32) from fun q => h32 ((nI_eq (b := 32) (by omega) (by decide)).mp q))]
      rw [hc]
      by_cases hd : 48 ≤ b i ∧ b i ≤ 57
      · exact tk_dig hL c2 r2 (by omega) hd m
      · exact tk_let hL c2 r2 (by omega) hd m h32
theorem tk {L i : Nat} {b : Nat → Nat} {Mc Mr : zM} (hL : wL L b Mc Mr) (hi : i ≤ L) (c2 : Mc.1 1 2 = nI i) (r2 : Mr.1 25 17 = nI i) : tkOut L i Mc Mr (f_X10_readToken Mc) (f_X12_nextToken Mr) := by
  have h := hL.1
  exact tk0 (L - i) i zFU zFU Mc Mr (by omega) (zFU_gt (by omega)) (zFU_gt (by omega)) hL c2 r2
/-- a number between two bounds -/
def nuOut (L i lo hi : Nat) (Mc Mr : zM) (oc or' : Option (Int32 × zM)) : Prop := ∃ Mc' Mr' i' p, frC Mc Mc' ∧ frR Mr Mr' ∧ Mc'.1 1 2 = nI i' ∧ Mr'.1 25 17 = nI i' ∧ i ≤ i' ∧ i' ≤ L ∧ Mc'.1 1 4 = nI p ∧ Mr'.1 25 18 = nI p ∧ p ≤ L ∧ ((oc = some (0, Mc') ∧ or' = some (0, Mr')) ∨ (oc = some (1, Mc') ∧ or' = some (1, Mr') ∧ i < i' ∧ ∃ v, lo ≤ v ∧ v ≤ hi ∧ Mc'.1 1 5 = nI v ∧ Mr'.1 25 20 = nI v))
theorem nu {L i lo hi : Nat} {b : Nat → Nat} {Mc Mr : zM} (hL : wL L b Mc Mr) (hi' : i ≤ L) (c2 : Mc.1 1 2 = nI i) (r2 : Mr.1 25 17 = nI i) (hlo : lo ≤ 100) (hhi : hi ≤ 100) {xl xh : Int32} (el : xl = nI lo) (eh : xh = nI hi) : nuOut L i lo hi Mc Mr (f_X10_readNumber Mc xl xh) (f_X12_number Mr xl xh) := by
  subst el eh
  obtain ⟨Mc', Mr', i', p, g1, g2, g3, g4, g5, g6, g7, g8, g9, g10, g11, g12, g13⟩ := tk hL hi' c2 r2
  have hc : f_X10_readNumber Mc (nI lo) (nI hi) = (if (Mc'.1 1 3) = (-2 : Int32) then (if (Mc'.1 1 5) < nI lo then (some ((0 : Int32), Mc')) else (if nI hi < (Mc'.1 1 5) then (some ((0 : Int32), Mc')) else (some ((1 : Int32), Mc')))) else (some ((0 : Int32), Mc'))) := by
    show f_X10_readNumber_0 _ _ Mc = _
    rw [f_X10_readNumber_0, g1, zbv_s]
  have hr : f_X12_number Mr (nI lo) (nI hi) = (if (Mr'.1 25 19) = (2 : Int32) then (zbi (f_X12_in Mr' ((Mr'.1 25 20).toInt64) ((nI lo).toInt64) ((nI hi).toInt64)) (fun r6 M7 => if r6 = 0 then (some ((0 : Int32), M7)) else (some ((1 : Int32), M7)))) else (some ((0 : Int32), Mr'))) := by
    show f_X12_number_0 _ _ Mr = _
    rw [f_X12_number_0, g2, zbv_s]
  refine ⟨Mc', Mr', i', p, g3, g4, g5, g6, g7, g8, g9, g10, g11, ?_⟩
  have no : ¬ Mc'.1 1 3 = -2 → ¬ Mr'.1 25 19 = 2 → (f_X10_readNumber Mc (nI lo) (nI hi) = some (0, Mc') ∧ f_X12_number Mr (nI lo) (nI hi) = some (0, Mr')) := fun h1 h2 => ⟨by rw [hc, if_neg h1], by rw [hr, if_neg h2]⟩
  rcases g12 with ⟨e1, e2⟩ | ⟨e1, e2, v, hv, e3, e4⟩ | ⟨v, hv, e1, e2, e3⟩ | ⟨e1, e2⟩ | ⟨e1, e2⟩
  · exact Or.inl (no (by rw [e1]; decide) (by rw [e2]; decide))
  · rw [e1, if_pos rfl, e3] at hc
    rw [e2, if_pos rfl, e4] at hr
    have tl : ((nI lo).toInt64).toInt = (lo : Int) := by rw [Int32.toInt_toInt64, nI_t (by omega)]
    have th : ((nI hi).toInt64).toInt = (hi : Int) := by rw [Int32.toInt_toInt64, nI_t (by omega)]
    by_cases hin : lo ≤ v ∧ v ≤ hi
    · rw [if_neg (nI_nlt (by omega) (by omega)), if_neg (nI_nlt (by omega) (by omega))] at hc
      rw [r_inT tl th (by rw [nI_t (by omega)]; omega), zbi_s, if_neg (by decide)] at hr
      refine Or.inr ⟨hc, hr, ?_, v, hin.1, hin.2, e3, e4⟩
      rcases g13 with z | z
      · rw [e1] at z; exact absurd z (by decide)
      · exact z
    · rw [r_inF tl th (by rw [nI_t (by omega)]; omega), zbi_s, if_pos rfl] at hr
      refine Or.inl ⟨?_, hr⟩
      rw [hc]
      by_cases h1 : v < lo
      · rw [if_pos (nI_lt h1 (by omega))]
      · rw [if_neg (nI_nlt (by omega) (by omega)), if_pos (nI_lt (by omega) (by omega))]
  · refine Or.inl (no ?_ (by rw [e2]; decide))
    rw [e1]
    rcases hv with rfl | rfl | rfl <;> decide
  · exact Or.inl (no (by rw [e1]; decide) (by rw [e2]; decide))
  · exact Or.inl (no (by rw [e1]; decide) (by rw [e2]; decide))
