/-! items, and the whole text -/
def wDr (Mc Mr : zM) (R W S : Nat) : Prop := (3 ≤ R ∧ R ≤ 6 ∧ W ≤ 5 ∧ S ≤ 6) ∧ Mc.1 6 0 = nI R ∧ Mr.1 25 21 = nI R ∧ Mc.1 6 1 = nI W ∧ Mr.1 25 22 = nI W ∧ Mc.1 6 3 = nI S ∧ Mr.1 25 24 = nI S ∧ ((Mc.1 1 6 = 0 ∧ Mr.1 25 23 = -9 ∧ Mc.1 6 2 = 3) ∨ (Mc.1 1 6 = 1 ∧ ∃ H, H ≤ 20 ∧ Mc.1 6 2 = nI H ∧ Mr.1 25 23 = nI H)) ∧ ∀ x, x < S → ∃ bb pp, bb ≤ 9 ∧ pp ≤ 9 ∧ Mc.1 7 x = nI bb ∧ Mr.1 35 x = nI bb ∧ Mc.1 8 x = nI pp ∧ Mr.1 36 x = nI pp
def FC (M M' : zM) : Prop := (∀ q, q ≠ 1 → q ≠ 6 → q ≠ 7 → q ≠ 8 → M'.1 q = M.1 q) ∧ M'.1 1 1 = M.1 1 1 ∧ M'.2 = M.2
def FR (M M' : zM) : Prop := (∀ q, q ≠ 25 → q ≠ 35 → q ≠ 36 → M'.1 q = M.1 q) ∧ (∀ j, j < 17 → M'.1 25 j = M.1 25 j) ∧ M'.2 = M.2
theorem FC_f {M M' : zM} (h : frC M M') : FC M M' := ⟨fun q h1 _ _ _ => h.1 q h1, h.2.1 1 (by omega), h.2.2⟩
theorem FR_f {M M' : zM} (h : frR M M') : FR M M' := ⟨fun q h1 _ _ => h.1 q h1, fun j hj => h.2.1 j (by omega), h.2.2⟩
theorem FC_t {M M' M'' : zM} (h : FC M M') (h2 : FC M' M'') : FC M M'' := ⟨fun q a1 a2 a3 a4 => by rw [h2.1 q a1 a2 a3 a4, h.1 q a1 a2 a3 a4], by rw [h2.2.1, h.2.1], by rw [h2.2.2, h.2.2]⟩
theorem FR_t {M M' M'' : zM} (h : FR M M') (h2 : FR M' M'') : FR M M'' := ⟨fun q a1 a2 a3 => by rw [h2.1 q a1 a2 a3, h.1 q a1 a2 a3], fun j hj => by rw [h2.2.1 j hj, h.2.1 j hj], by rw [h2.2.2, h.2.2]⟩
theorem FC_s {M : zM} {k j : Nat} {v : Int32} (h : (k = 1 ∧ j ≠ 1) ∨ k = 6 ∨ k = 7 ∨ k = 8) : FC M (zs M k j v) := by
  refine ⟨fun q a1 a2 a3 a4 => zs_ne (by omega), ?_, rfl⟩
  by_cases hk : k = 1
  · subst hk
    rw [zs_row, upd_n (by omega)]
  · rw [zs_ne (by omega)]
theorem FR_s {M : zM} {k j : Nat} {v : Int32} (h : (k = 25 ∧ 17 ≤ j) ∨ k = 35 ∨ k = 36) : FR M (zs M k j v) := by
  refine ⟨fun q a1 a2 a3 => zs_ne (by omega), fun i hi => ?_, rfl⟩
  by_cases hk : k = 25
  · subst hk
    rw [zs_row, upd_n (by omega)]
  · rw [zs_ne (by omega)]
theorem wL_F {L : Nat} {b : Nat → Nat} {Mc Mr Mc' Mr' : zM} (h : wL L b Mc Mr) (hc : FC Mc Mc') (hr : FR Mr Mr') : wL L b Mc' Mr' := by
  obtain ⟨h1, h2, h3, h4⟩ := h
  refine ⟨h1, by rw [hc.2.1]; exact h2, by rw [hr.2.1 16 (by omega)]; exact h3, fun j hj => ?_⟩
  rw [hc.1 2 (by decide) (by decide) (by decide) (by decide), hr.1 34 (by decide) (by decide) (by decide)]
  exact h4 j hj
theorem wDr_f {Mc Mr Mc' Mr' : zM} {R W S : Nat} (h : wDr Mc Mr R W S) (hc : frC Mc Mc') (hr : frR Mr Mr') : wDr Mc' Mr' R W S := by
  unfold wDr at *
  rw [hc.1 6 (by decide), hc.1 7 (by decide), hc.1 8 (by decide), hc.2.1 6 (by omega), hr.1 35 (by decide), hr.1 36 (by decide), hr.2.1 21 (by omega), hr.2.1 22 (by omega), hr.2.1 23 (by omega), hr.2.1 24 (by omega)]
  exact h
def itOut (L i : Nat) (Mc Mr : zM) (K : zM → Option (Int32 × zM)) (oc or' : Option (Int32 × zM)) : Prop := ∃ Mc' Mr', FC Mc Mc' ∧ FR Mr Mr' ∧ ((∃ p, p ≤ L ∧ oc = some (0, Mc') ∧ Mc'.1 1 4 = nI p ∧ or' = some (-10 - nI p, Mr')) ∨ (∃ i' R W S, oc = some (1, Mc') ∧ or' = K Mr' ∧ i < i' ∧ i' ≤ L ∧ Mc'.1 1 2 = nI i' ∧ Mr'.1 25 17 = nI i' ∧ wDr Mc' Mr' R W S))
def rSem (K : zM → Option (Int32 × zM)) (M : zM) : Option (Int32 × zM) := zbv (f_X12_nextToken M) (fun M8 => if (M8.1 25 19) = (3 : Int32) then K M8 else (some ((-10 : Int32) - (M8.1 25 18), M8)))
theorem sc {L i j R W S : Nat} {b : Nat → Nat} {Mc Mr Mc1 Mr1 : zM} (K : zM → Option (Int32 × zM)) (hc : FC Mc Mc1) (hr : FR Mr Mr1) (hL : wL L b Mc1 Mr1) (hj : j ≤ L) (hij : i ≤ j) (c2 : Mc1.1 1 2 = nI j) (r2 : Mr1.1 25 17 = nI j) (hd : wDr Mc1 Mr1 R W S) : itOut L i Mc Mr K (zbi (f_X10_readSemicolon Mc1) (fun r M => zg (zbo r) (some (r, M)))) (rSem K Mr1) := by
  obtain ⟨Mc', Mr', i', p, g1, g2, g3, g4, g5, g6, g7, g8, g9, g10, g11, g12, g13⟩ := tk hL hj c2 r2
  have hcs : f_X10_readSemicolon Mc1 = (if (Mc'.1 1 3) = (59 : Int32) then (some ((1 : Int32), Mc')) else (some ((0 : Int32), Mc'))) := by
    show f_X10_readSemicolon_0 Mc1 = _
    rw [f_X10_readSemicolon_0, g1, zbv_s]
  have hrs : rSem K Mr1 = (if (Mr'.1 25 19) = (3 : Int32) then K Mr' else (some ((-10 : Int32) - (Mr'.1 25 18), Mr'))) := by
    unfold rSem
    rw [g2, zbv_s]
  refine ⟨Mc', Mr', FC_t hc (FC_f g3), FR_t hr (FR_f g4), ?_⟩
  have no : ¬ Mc'.1 1 3 = 59 → ¬ Mr'.1 25 19 = 3 → ∃ p, p ≤ L ∧ zbi (f_X10_readSemicolon Mc1) (fun r M => zg (zbo r) (some (r, M))) = some (0, Mc') ∧ Mc'.1 1 4 = nI p ∧ rSem K Mr1 = some (-10 - nI p, Mr') := fun h1 h2 => ⟨p, g11, by rw [hcs, if_neg h1, zbi_s, zg_t (by decide)], g9, by rw [hrs, if_neg h2, g10]⟩
  rcases g12 with ⟨e1, e2⟩ | ⟨e1, e2, v, hv, e3, e4⟩ | ⟨v, hv, e1, e2, e3⟩ | ⟨e1, e2⟩ | ⟨e1, e2⟩
  · exact Or.inl (no (by rw [e1]; decide) (by rw [e2]; decide))
  · exact Or.inl (no (by rw [e1]; decide) (by rw [e2]; decide))
  · refine Or.inl (no ?_ (by rw [e2]; decide))
    rw [e1]
    rcases hv with rfl | rfl | rfl <;> decide
  · refine Or.inr ⟨i', R, W, S, ?_, ?_, ?_, g8, g5, g6, wDr_f hd g3 g4⟩
    · rw [hcs, if_pos e1, zbi_s, zg_t (by decide)]
    · rw [hrs, if_pos e2]
    · rcases g13 with z | z
      · rw [e1] at z; exact absurd z (by decide)
      · omega
  · exact Or.inl (no (by rw [e1]; decide) (by rw [e2]; decide))
theorem wrap2 {o : Option (Int32 × zM)} {M' : zM} {r : Int32} (h : o = some (r, M')) (hr : r = 0 ∨ r = 1) : zbi o (fun r4 M5 => if r4 = 0 then (some ((0 : Int32), M5)) else (some ((1 : Int32), M5))) = some (r, M') := by
  rw [h, zbi_s]
  rcases hr with rfl | rfl
  · rw [if_pos rfl]
  · rw [if_neg (by decide)]
theorem itOut_w {L i : Nat} {Mc Mr : zM} {K : zM → Option (Int32 × zM)} {oc oc' or' : Option (Int32 × zM)} (h : itOut L i Mc Mr K oc or') (hw : ∀ r M', oc = some (r, M') → (r = 0 ∨ r = 1) → oc' = some (r, M')) : itOut L i Mc Mr K oc' or' := by
  obtain ⟨Mc', Mr', f1, f2, h⟩ := h
  refine ⟨Mc', Mr', f1, f2, ?_⟩
  rcases h with ⟨p, h1, h2, h3⟩ | ⟨i', R, W, S, h1, h2⟩
  · exact Or.inl ⟨p, h1, hw 0 Mc' h2 (Or.inl rfl), h3⟩
  · exact Or.inr ⟨i', R, W, S, hw 1 Mc' h1 (Or.inr rfl), h2⟩
theorem it_fail {L i p : Nat} {Mc Mr Mc' Mr' : zM} {K : zM → Option (Int32 × zM)} {oc or' : Option (Int32 × zM)} (f1 : FC Mc Mc') (f2 : FR Mr Mr') (hp : p ≤ L) (h1 : oc = some (0, Mc')) (h2 : Mc'.1 1 4 = nI p) (h3 : or' = some (-10 - nI p, Mr')) : itOut L i Mc Mr K oc or' := ⟨Mc', Mr', f1, f2, Or.inl ⟨p, hp, h1, h2, h3⟩⟩
def rIt (K : zM → Option (Int32 × zM)) (M : zM) (x1 : Int32) : Option (Int32 × zM) := zbi (f_X12_isItem M x1) (fun r3 M4 => if r3 = 0 then (some ((-10 : Int32) - (M4.1 25 18), M4)) else rSem K M4)
theorem it_hard {L i R W S p : Nat} {b : Nat → Nat} {Mc Mr : zM} (K : zM → Option (Int32 × zM)) (x : Int32) (hL : wL L b Mc Mr) (hi : i ≤ L) (c2 : Mc.1 1 2 = nI i) (r2 : Mr.1 25 17 = nI i) (c4 : Mc.1 1 4 = nI p) (r4 : Mr.1 25 18 = nI p) (hp : p ≤ L) (hd : wDr Mc Mr R W S) (e1 : Mc.1 1 3 = nI 104) (e2 : Mr.1 25 19 = 1) (e3 : Mr.1 25 20 = nI 104) : itOut L i Mc Mr K (f_X10_readItem Mc 6 x) (rIt K Mr x) := by
  have hcI : f_X10_readItem Mc 6 x = (if (Mc.1 1 6) = 0 then (zbi (f_X10_readHard Mc 6) (fun r4 M5 => if r4 = 0 then (some ((0 : Int32), M5)) else (some ((1 : Int32), M5)))) else (some ((0 : Int32), Mc))) := by
    show f_X10_readItem_0 6 x Mc = _
    rw [f_X10_readItem_0, e1, if_pos (by rfl)]
  have hrI : rIt K Mr x = zbi (zbi (f_X12_isHard Mr) (fun r4 M5 => zg (zbo r4) (some (r4, M5)))) (fun r3 M4 => if r3 = 0 then (some ((-10 : Int32) - (M4.1 25 18), M4)) else rSem K M4) := by
    unfold rIt
    show zbi (f_X12_isItem_0 x Mr) _ = _
    rw [f_X12_isItem_0, e2, if_pos rfl, e3, if_pos (by rfl)]
  obtain ⟨d1, d2, d3, d4, d5, d6, d7, d8, d9⟩ := id hd
  rcases d8 with ⟨t1, t2, t3⟩ | ⟨t1, H, hH, t2, t3⟩
  · rw [t1, if_pos rfl] at hcI
    have hrh : f_X12_isHard Mr = zbi (f_X12_number Mr (0 : Int32) (20 : Int32)) (fun r3 M4 => if r3 = 0 then (some ((0 : Int32), M4)) else (some ((1 : Int32), zs M4 25 23 (M4.1 25 20)))) := by
      show f_X12_isHard_0 Mr = _
      rw [f_X12_isHard_0, t2, if_pos rfl]
    obtain ⟨Mc', Mr', i', q, g1, g2, g3, g4, g5, g6, g7, g8, g9, g10⟩ := nu (lo := 0) (hi := 20) (xl := 0) (xh := 20) hL hi c2 r2 (by omega) (by omega) rfl rfl
    rcases g10 with ⟨y1, y2⟩ | ⟨y1, y2, y3, v, v1, v2, v3, v4⟩
    · refine it_fail (FC_f g1) (FR_f g2) g9 ?_ g7 ?_
      · rw [hcI]
        refine wrap2 ?_ (Or.inl rfl)
        show f_X10_readHard_0 6 Mc = _
        rw [f_X10_readHard_0, y1, zbi_s, if_pos rfl]
      · rw [hrI, hrh, y2, zbi_s, if_pos rfl, zbi_s, zg_t (by decide), zbi_s, if_pos rfl, g8]
    · have hch : f_X10_readHard Mc 6 = zbi (f_X10_readSemicolon (zs (zs Mc' 6 2 (nI v)) 1 6 1)) (fun r6 M7 => zg (zbo r6) (some (r6, M7))) := by
        show f_X10_readHard_0 6 Mc = _
        rw [f_X10_readHard_0, y1, zbi_s, if_neg (by decide), v3]
      have hrr : rIt K Mr x = rSem K (zs Mr' 25 23 (nI v)) := by
        rw [hrI, hrh, y2, zbi_s, if_neg (by decide), v4, zbi_s, zg_t (by decide), zbi_s, if_neg (by decide)]
      have fc : FC Mc (zs (zs Mc' 6 2 (nI v)) 1 6 1) := FC_t (FC_f g1) (FC_t (FC_s (by omega)) (FC_s (by omega)))
      have fr : FR Mr (zs Mr' 25 23 (nI v)) := FR_t (FR_f g2) (FR_s (by omega))
      rw [hrr]
      have hd' := wDr_f hd g1 g2
      obtain ⟨k1, k2, k3, k4, k5, k6, k7, k8, k9⟩ := hd'
      refine itOut_w (sc (R := R) (W := W) (S := S) K fc fr (wL_F hL fc fr) g6 g5 (by rw [zs_row, upd_n (by decide), zs_ne (by decide)]; exact g3) (by rw [zs_row, upd_n (by decide)]; exact g4) ⟨k1, ?_, ?_, ?_, ?_, ?_, ?_, Or.inr ⟨?_, v, v2, ?_, ?_⟩, fun x hx => ?_⟩) (fun r M' h hr => ?_)
      · rw [zs_ne (by decide), zs_row, upd_n (by decide)]; exact k2
      · rw [zs_row, upd_n (by decide)]; exact k3
      · rw [zs_ne (by decide), zs_row, upd_n (by decide)]; exact k4
      · rw [zs_row, upd_n (by decide)]; exact k5
      · rw [zs_ne (by decide), zs_row, upd_n (by decide)]; exact k6
      · rw [zs_row, upd_n (by decide)]; exact k7
      · rw [zs_row, upd_s]
      · rw [zs_ne (by decide), zs_row, upd_s]
      · rw [zs_row, upd_s]
      · rw [zs_ne (q := 7) (by decide), zs_ne (q := 7) (by decide), zs_ne (q := 8) (by decide), zs_ne (q := 8) (by decide), zs_ne (q := 35) (by decide), zs_ne (q := 36) (by decide)]
        exact k9 x hx
      · rw [hcI]
        exact wrap2 (hch.trans h) hr
  · rw [t1, if_neg (by decide)] at hcI
    have hrh : f_X12_isHard Mr = some (0, Mr) := by
      show f_X12_isHard_0 Mr = _
      rw [f_X12_isHard_0, t3, if_neg (nI_m9 (by omega))]
    refine it_fail (FC_f (frC_r Mc)) (FR_f (frR_r Mr)) hp hcI c4 ?_
    rw [hrI, hrh, zbi_s, zg_t (by decide), zbi_s, if_pos rfl, r4]
theorem it_rooms {L i R W S p m : Nat} {b : Nat → Nat} {Mc Mr : zM} (K : zM → Option (Int32 × zM)) (hm : m ≤ 100) (hL : wL L b Mc Mr) (hi : i ≤ L) (c2 : Mc.1 1 2 = nI i) (r2 : Mr.1 25 17 = nI i) (c4 : Mc.1 1 4 = nI p) (r4 : Mr.1 25 18 = nI p) (hp : p ≤ L) (hd : wDr Mc Mr R W S) (e1 : Mc.1 1 3 = nI 114) (e2 : Mr.1 25 19 = 1) (e3 : Mr.1 25 20 = nI 114) : itOut L i Mc Mr K (f_X10_readItem Mc 6 (nI m)) (rIt K Mr (nI m)) := by
  have hcI : f_X10_readItem Mc 6 (nI m) = (if nI m = 0 then (zbi (f_X10_readRooms Mc 6) (fun r4 M5 => if r4 = 0 then (some ((0 : Int32), M5)) else (some ((1 : Int32), M5)))) else (some ((0 : Int32), Mc))) := by
    show f_X10_readItem_0 6 (nI m) Mc = _
    rw [f_X10_readItem_0, e1, if_neg (by decide), if_pos (by rfl)]
  have hrI : rIt K Mr (nI m) = zbi (if nI m = 0 then (zbi (f_X12_isRooms Mr) (fun r10 M11 => if r10 = 0 then (some ((0 : Int32), M11)) else (some ((1 : Int32), M11)))) else (some ((0 : Int32), Mr))) (fun r3 M4 => if r3 = 0 then (some ((-10 : Int32) - (M4.1 25 18), M4)) else rSem K M4) := by
    unfold rIt
    show zbi (f_X12_isItem_0 (nI m) Mr) _ = _
    rw [f_X12_isItem_0, e2, if_pos rfl, e3, if_neg (by decide), if_pos (by rfl)]
  by_cases h0 : nI m = 0
  · rw [if_pos h0] at hcI hrI
    obtain ⟨Mc', Mr', i', q, g1, g2, g3, g4, g5, g6, g7, g8, g9, g10⟩ := nu (lo := 3) (hi := 6) (xl := 3) (xh := 6) hL hi c2 r2 (by omega) (by omega) rfl rfl
    rcases g10 with ⟨y1, y2⟩ | ⟨y1, y2, y3, v, v1, v2, v3, v4⟩
    · refine it_fail (FC_f g1) (FR_f g2) g9 ?_ g7 ?_
      · rw [hcI]
        refine wrap2 ?_ (Or.inl rfl)
        show f_X10_readRooms_0 6 Mc = _
        rw [f_X10_readRooms_0, y1, zbi_s, if_pos rfl]
      · rw [hrI]
        show zbi (zbi (f_X12_isRooms_0 Mr) _) _ = _
        rw [f_X12_isRooms_0, y2, zbi_s, if_pos rfl, zbi_s, if_pos rfl, zbi_s, if_pos rfl, g8]
    · have fc : FC Mc (zs Mc' 6 0 (nI v)) := FC_t (FC_f g1) (FC_s (by omega))
      have fr : FR Mr (zs Mr' 25 21 (nI v)) := FR_t (FR_f g2) (FR_s (by omega))
      obtain ⟨Nc, Nr, j', q', w1, w2, w3, w4, w5, w6, w7, w8, w9, w10⟩ := nu (L := L) (i := i') (b := b) (Mc := zs Mc' 6 0 (nI v)) (Mr := zs Mr' 25 21 (nI v)) (lo := 1) (hi := 5) (xl := 1) (xh := 5) (wL_F hL fc fr) g6 (by rw [zs_ne (by decide)]; exact g3) (by rw [zs_row, upd_n (by decide)]; exact g4) (by omega) (by omega) rfl rfl
      rcases w10 with ⟨y1', y2'⟩ | ⟨y1', y2', y3', u, u1, u2, u3, u4⟩
      · refine it_fail (FC_t fc (FC_f w1)) (FR_t fr (FR_f w2)) w9 ?_ w7 ?_
        · rw [hcI]
          refine wrap2 ?_ (Or.inl rfl)
          show f_X10_readRooms_0 6 Mc = _
          rw [f_X10_readRooms_0, y1, zbi_s, if_neg (by decide), v3, y1', zbi_s, if_pos rfl]
        · rw [hrI]
          show zbi (zbi (f_X12_isRooms_0 Mr) _) _ = _
          rw [f_X12_isRooms_0, y2, zbi_s, if_neg (by decide), v4, y2', zbi_s, if_pos rfl, zbi_s, if_pos rfl, zbi_s, if_pos rfl, w8]
      · have hch : f_X10_readRooms Mc 6 = zbi (f_X10_readSemicolon (zs Nc 6 1 (nI u))) (fun r6 M7 => zg (zbo r6) (some (r6, M7))) := by
          show f_X10_readRooms_0 6 Mc = _
          rw [f_X10_readRooms_0, y1, zbi_s, if_neg (by decide), v3, y1', zbi_s, if_neg (by decide), u3]
        have hrr : rIt K Mr (nI m) = rSem K (zs Nr 25 22 (nI u)) := by
          rw [hrI]
          show zbi (zbi (f_X12_isRooms_0 Mr) _) _ = _
          rw [f_X12_isRooms_0, y2, zbi_s, if_neg (by decide), v4, y2', zbi_s, if_neg (by decide), u4, zbi_s, if_neg (by decide), zbi_s, if_neg (by decide)]
        have fc2 : FC Mc (zs Nc 6 1 (nI u)) := FC_t fc (FC_t (FC_f w1) (FC_s (by omega)))
        have fr2 : FR Mr (zs Nr 25 22 (nI u)) := FR_t fr (FR_t (FR_f w2) (FR_s (by omega)))
        rw [hrr]
        obtain ⟨k1, k2, k3, k4, k5, k6, k7, k8, k9⟩ := wDr_f hd g1 g2
        refine itOut_w (sc (R := v) (W := u) (S := S) K fc2 fr2 (wL_F hL fc2 fr2) w6 (by omega) (by rw [zs_ne (by decide)]; exact w3) (by rw [zs_row, upd_n (by decide)]; exact w4) ⟨⟨v1, v2, u2, k1.2.2.2⟩, ?_, ?_, ?_, ?_, ?_, ?_, ?_, fun x hx => ?_⟩) (fun r M' h hr => ?_)
        · rw [zs_row, upd_n (by decide), w1.1 6 (by decide), zs_row, upd_s]
        · rw [zs_row, upd_n (by decide), w2.2.1 21 (by omega), zs_row, upd_s]
        · rw [zs_row, upd_s]
        · rw [zs_row, upd_s]
        · rw [zs_row, upd_n (by decide), w1.1 6 (by decide), zs_row, upd_n (by decide)]; exact k6
        · rw [zs_row, upd_n (by decide), w2.2.1 24 (by omega), zs_row, upd_n (by decide)]; exact k7
        · have o1 : (zs Nc 6 1 (nI u)).1 1 6 = Mc'.1 1 6 := by rw [zs_ne (by decide), w1.2.1 6 (by omega), zs_ne (by decide)]
          have o2 : (zs Nc 6 1 (nI u)).1 6 2 = Mc'.1 6 2 := by rw [zs_row, upd_n (by decide), w1.1 6 (by decide), zs_row, upd_n (by decide)]
          have o3 : (zs Nr 25 22 (nI u)).1 25 23 = Mr'.1 25 23 := by rw [zs_row, upd_n (by decide), w2.2.1 23 (by omega), zs_row, upd_n (by decide)]
          rw [o1, o2, o3]
          exact k8
        · rw [zs_ne (q := 7) (by decide), w1.1 7 (by decide), zs_ne (q := 7) (by decide), zs_ne (q := 8) (by decide), w1.1 8 (by decide), zs_ne (q := 8) (by decide), zs_ne (q := 35) (by decide), w2.1 35 (by decide), zs_ne (q := 35) (by decide), zs_ne (q := 36) (by decide), w2.1 36 (by decide), zs_ne (q := 36) (by decide)]
          exact k9 x hx
        · rw [hcI]
          exact wrap2 (hch.trans h) hr
  · rw [if_neg h0] at hcI hrI
    refine it_fail (FC_f (frC_r Mc)) (FR_f (frR_r Mr)) hp hcI c4 ?_
    rw [hrI, zbi_s, if_pos rfl, r4]
theorem it_sort {L i R W S p : Nat} {b : Nat → Nat} {Mc Mr : zM} (K : zM → Option (Int32 × zM)) (x : Int32) (hL : wL L b Mc Mr) (hi : i ≤ L) (c2 : Mc.1 1 2 = nI i) (r2 : Mr.1 25 17 = nI i) (c4 : Mc.1 1 4 = nI p) (r4 : Mr.1 25 18 = nI p) (hp : p ≤ L) (hd : wDr Mc Mr R W S) (e1 : Mc.1 1 3 = nI 115) (e2 : Mr.1 25 19 = 1) (e3 : Mr.1 25 20 = nI 115) : itOut L i Mc Mr K (f_X10_readItem Mc 6 x) (rIt K Mr x) := by
  obtain ⟨d1, d2, d3, d4, d5, d6, d7, d8, d9⟩ := id hd
  have hcI : f_X10_readItem Mc 6 x = (if (6 : Int32) ≤ nI S then (some ((0 : Int32), Mc)) else (zbi (f_X10_readSort Mc 6) (fun r4 M5 => if r4 = 0 then (some ((0 : Int32), M5)) else (some ((1 : Int32), M5))))) := by
    show f_X10_readItem_0 6 x Mc = _
    rw [f_X10_readItem_0, e1, if_neg (by decide), if_neg (by decide), if_pos (by rfl), d6]
  have hrI : rIt K Mr x = zbi (zbi (f_X12_isSort Mr) (fun r14 M15 => zg (zbo r14) (some (r14, M15)))) (fun r3 M4 => if r3 = 0 then (some ((-10 : Int32) - (M4.1 25 18), M4)) else rSem K M4) := by
    unfold rIt
    show zbi (f_X12_isItem_0 x Mr) _ = _
    rw [f_X12_isItem_0, e2, if_pos rfl, e3, if_neg (by decide), if_neg (by decide)]
  by_cases h6 : S = 6
  · subst h6
    rw [if_pos (show (6 : Int32) ≤ nI 6 from Int32.le_refl _)] at hcI
    refine it_fail (FC_f (frC_r Mc)) (FR_f (frR_r Mr)) hp hcI c4 ?_
    rw [hrI]
    show zbi (zbi (f_X12_isSort_0 Mr) _) _ = _
    rw [f_X12_isSort_0, d7, if_pos (by rfl), zbi_s, zg_t (by decide), zbi_s, if_pos rfl, r4]
  · have hS : S < 6 := by omega
    rw [if_neg (show ¬ (6 : Int32) ≤ nI S from nI_ge (b := 6) hS (by decide))] at hcI
    obtain ⟨Mc', Mr', i', q, g1, g2, g3, g4, g5, g6, g7, g8, g9, g10⟩ := nu (lo := 1) (hi := W) (xl := 1) (xh := nI W) hL hi c2 r2 (by omega) (by omega) rfl rfl
    have hrs : f_X12_isSort Mr = (zbi (f_X12_number Mr (1 : Int32) (nI W)) (fun r3 M4 => if r3 = 0 then (some ((0 : Int32), M4)) else (zg (zin (M4.1 25 24) 6) (zbi (f_X12_number (zs M4 35 (M4.1 25 24).toNatClampNeg (M4.1 25 20)) (0 : Int32) (9 : Int32)) (fun r8 M9 => if r8 = 0 then (some ((0 : Int32), M9)) else (zg (zin (M9.1 25 24) 6) (f_X12_isSort_71 (zs (zs M9 36 (M9.1 25 24).toNatClampNeg (M9.1 25 20)) 25 24 (((zs M9 36 (M9.1 25 24).toNatClampNeg (M9.1 25 20)).1 25 24) + (1 : Int32)))))))))) := by
      show f_X12_isSort_0 Mr = _
      rw [f_X12_isSort_0, d7, if_neg (show ¬ nI S = (6 : Int32) from fun z => h6 ((nI_eq (b := 6) (by omega) (by decide)).mp z)), d5]
    have hcs : f_X10_readSort Mc 6 = zbi (f_X10_readNumber Mc (1 : Int32) (nI W)) (fun r2 M3 => if r2 = 0 then (some ((0 : Int32), M3)) else (zbi (f_X10_readNumber M3 (0 : Int32) (9 : Int32)) (fun r6 M7 => if r6 = 0 then (some ((0 : Int32), M7)) else (zbv (f_X7_addSort M7 6 (M3.1 1 5) (M7.1 1 5)) (fun M11 => zbi (f_X10_readSemicolon M11) (fun r13 M14 => zg (zbo r13) (some (r13, M14)))))))) := by
      show f_X10_readSort_0 6 Mc = _
      rw [f_X10_readSort_0, d4]
    rcases g10 with ⟨y1, y2⟩ | ⟨y1, y2, y3, v, v1, v2, v3, v4⟩
    · refine it_fail (FC_f g1) (FR_f g2) g9 ?_ g7 ?_
      · rw [hcI]
        refine wrap2 ?_ (Or.inl rfl)
        rw [hcs, y1, zbi_s, if_pos rfl]
      · rw [hrI, hrs, y2, zbi_s, if_pos rfl, zbi_s, zg_t (by decide), zbi_s, if_pos rfl, g8]
    · obtain ⟨k1, k2, k3, k4, k5, k6, k7, k8, k9⟩ := wDr_f hd g1 g2
      rw [y1, zbi_s, if_neg (by decide), v3] at hcs
      rw [y2, zbi_s, if_neg (by decide), k7, zg_in hS (by decide), nI_clamp (by omega), v4] at hrs
      have fc : FC Mc Mc' := FC_f g1
      have fr : FR Mr (zs Mr' 35 S (nI v)) := FR_t (FR_f g2) (FR_s (by omega))
      obtain ⟨Nc, Nr, j', q', w1, w2, w3, w4, w5, w6, w7, w8, w9, w10⟩ := nu (L := L) (i := i') (b := b) (Mc := Mc') (Mr := zs Mr' 35 S (nI v)) (lo := 0) (hi := 9) (xl := 0) (xh := 9) (wL_F hL fc fr) g6 g3 (by rw [zs_ne (by decide)]; exact g4) (by omega) (by omega) rfl rfl
      rcases w10 with ⟨y1', y2'⟩ | ⟨y1', y2', y3', u, u1, u2, u3, u4⟩
      · refine it_fail (FC_t fc (FC_f w1)) (FR_t fr (FR_f w2)) w9 ?_ w7 ?_
        · rw [hcI]
          refine wrap2 ?_ (Or.inl rfl)
          rw [hcs, y1', zbi_s, if_pos rfl]
        · rw [hrI, hrs, y2', zbi_s, if_pos rfl, zbi_s, zg_t (by decide), zbi_s, if_pos rfl, w8]
      · have n63 : Nc.1 6 3 = nI S := by rw [w1.1 6 (by decide)]; exact k6
        have n24 : Nr.1 25 24 = nI S := by rw [w2.2.1 24 (by omega), zs_ne (by decide)]; exact k7
        have has : f_X7_addSort Nc 6 (nI v) (nI u) = some (zs (zs (zs Nc 7 S (nI v)) 8 S (nI u)) 6 3 (nI (S + 1))) := by
          show f_X7_addSort_0 6 _ _ Nc = _
          have z1 : (zs Nc (6 + 1) S (nI v)).1 6 3 = nI S := by rw [zs_ne (by decide)]; exact n63
          have z2 : (zs (zs Nc (6 + 1) S (nI v)) (6 + 2) S (nI u)).1 6 3 = nI S := by rw [zs_ne (by decide)]; exact z1
          rw [f_X7_addSort_0, n63, if_neg (show ¬ (6 : Int32) ≤ nI S from nI_ge (b := 6) hS (by decide)), zg_in hS (by decide), nI_clamp (by omega), z1, zg_in hS (by decide), nI_clamp (by omega), f_X7_addSort_29, z2, nI_1]
        rw [y1', zbi_s, if_neg (by decide), u3, has, zbv_s] at hcs
        have hr71 : f_X12_isSort Mr = some (1, zs (zs Nr 36 S (nI u)) 25 24 (nI (S + 1))) := by
          have z1 : (zs Nr 36 S (nI u)).1 25 24 = nI S := by rw [zs_ne (by decide)]; exact n24
          rw [hrs, y2', zbi_s, if_neg (by decide), n24, zg_in hS (by decide), nI_clamp (by omega), u4, z1, nI_1]
          rfl
        have hrr : rIt K Mr x = rSem K (zs (zs Nr 36 S (nI u)) 25 24 (nI (S + 1))) := by
          rw [hrI, hr71, zbi_s, zg_t (by decide), zbi_s, if_neg (by decide)]
        have fc2 : FC Mc (zs (zs (zs Nc 7 S (nI v)) 8 S (nI u)) 6 3 (nI (S + 1))) := FC_t fc (FC_t (FC_f w1) (FC_t (FC_s (by omega)) (FC_t (FC_s (by omega)) (FC_s (by omega)))))
        have fr2 : FR Mr (zs (zs Nr 36 S (nI u)) 25 24 (nI (S + 1))) := FR_t fr (FR_t (FR_f w2) (FR_t (FR_s (by omega)) (FR_s (by omega))))
        rw [hrr]
        refine itOut_w (sc (R := R) (W := W) (S := S + 1) K fc2 fr2 (wL_F hL fc2 fr2) w6 (by omega) (by rw [zs_ne (by decide), zs_ne (by decide), zs_ne (by decide)]; exact w3) (by rw [zs_row, upd_n (by decide), zs_ne (by decide)]; exact w4) ⟨⟨k1.1, k1.2.1, k1.2.2.1, by omega⟩, ?_, ?_, ?_, ?_, ?_, ?_, ?_, fun x hx => ?_⟩) (fun r M' h hr => ?_)
        · rw [zs_row, upd_n (by decide), zs_ne (by decide), zs_ne (by decide), w1.1 6 (by decide)]; exact k2
        · rw [zs_row, upd_n (by decide), zs_ne (by decide), w2.2.1 21 (by omega), zs_ne (by decide)]; exact k3
        · rw [zs_row, upd_n (by decide), zs_ne (by decide), zs_ne (by decide), w1.1 6 (by decide)]; exact k4
        · rw [zs_row, upd_n (by decide), zs_ne (by decide), w2.2.1 22 (by omega), zs_ne (by decide)]; exact k5
        · rw [zs_row, upd_s]
        · rw [zs_row, upd_s]
        · have o1 : (zs (zs (zs Nc 7 S (nI v)) 8 S (nI u)) 6 3 (nI (S + 1))).1 1 6 = Mc'.1 1 6 := by rw [zs_ne (by decide), zs_ne (by decide), zs_ne (by decide), w1.2.1 6 (by omega)]
          have o2 : (zs (zs (zs Nc 7 S (nI v)) 8 S (nI u)) 6 3 (nI (S + 1))).1 6 2 = Mc'.1 6 2 := by rw [zs_row, upd_n (by decide), zs_ne (by decide), zs_ne (by decide), w1.1 6 (by decide)]
          have o3 : (zs (zs Nr 36 S (nI u)) 25 24 (nI (S + 1))).1 25 23 = Mr'.1 25 23 := by rw [zs_row, upd_n (by decide), zs_ne (by decide), w2.2.1 23 (by omega), zs_ne (by decide)]
          rw [o1, o2, o3]
          exact k8
        · have o1 : (zs (zs (zs Nc 7 S (nI v)) 8 S (nI u)) 6 3 (nI (S + 1))).1 7 = upd (Mc'.1 7) S (nI v) := by rw [zs_ne (by decide), zs_ne (by decide), zs_row, w1.1 7 (by decide)]
          have o2 : (zs (zs (zs Nc 7 S (nI v)) 8 S (nI u)) 6 3 (nI (S + 1))).1 8 = upd (Mc'.1 8) S (nI u) := by rw [zs_ne (by decide), zs_row, zs_ne (by decide), w1.1 8 (by decide)]
          have o3 : (zs (zs Nr 36 S (nI u)) 25 24 (nI (S + 1))).1 35 = upd (Mr'.1 35) S (nI v) := by rw [zs_ne (by decide), zs_ne (by decide), w2.1 35 (by decide), zs_row]
          have o4 : (zs (zs Nr 36 S (nI u)) 25 24 (nI (S + 1))).1 36 = upd (Mr'.1 36) S (nI u) := by rw [zs_ne (by decide), zs_row, w2.1 36 (by decide), zs_ne (by decide)]
          rw [o1, o2, o3, o4]
          by_cases hxS : x = S
          · subst hxS
            rw [upd_s, upd_s, upd_s, upd_s]
            exact ⟨v, u, by omega, by omega, rfl, rfl, rfl, rfl⟩
          · rw [upd_n hxS, upd_n hxS, upd_n hxS, upd_n hxS]
            exact k9 x (by omega)
        · rw [hcI]
          exact wrap2 (hcs.trans h) hr
/-- the whole text -/
theorem lp {L : Nat} {b : Nat → Nat} : ∀ k i m n n' Mc Mr R W S, L - i ≤ k → i ≤ L → k < n → k < n' → m ≤ i → wL L b Mc Mr → Mc.1 1 2 = nI i → Mr.1 25 17 = nI i → wDr Mc Mr R W S → ∃ r Mc' Mr', f_X10_tellTo_16 6 n Mc (nI m) = some (r, Mc') ∧ zbv (f_X12_nextToken Mr) (fun M12 => f_X12_reads_32 n' M12 (nI m)) = some (r, Mr') ∧ FC Mc Mc' ∧ FR Mr Mr' ∧ (r < 0 ∨ (∃ m' R' W' S', m' ≤ 100 ∧ r = nI m' ∧ wDr Mc' Mr' R' W' S')) := by
  intro k
  induction k with
  | zero =>
    intro i m n n' Mc Mr R W S hk hi hn hn' hm hL c2 r2 hd
    obtain ⟨n, rfl⟩ : ∃ q, n = q + 1 := ⟨n - 1, by omega⟩
    obtain ⟨n', rfl⟩ : ∃ q, n' = q + 1 := ⟨n' - 1, by omega⟩
    have hL1 := hL.1
    obtain ⟨Mc', Mr', i', p, g1, g2, g3, g4, g5, g6, g7, g8, g9, g10, g11, g12, g13⟩ := tk hL hi c2 r2
    have eE : Mc'.1 1 3 = -1 := g13.resolve_right (by omega)
    have eR : Mr'.1 25 19 = 0 := by
      rcases g12 with ⟨e1, e2⟩ | ⟨e1, e2, v, hv, e3, e4⟩ | ⟨v, hv, e1, e2, e3⟩ | ⟨e1, e2⟩ | ⟨e1, e2⟩
      · exact e2
      · rw [e1] at eE; exact absurd eE (by decide)
      · rw [e1] at eE; exact absurd eE (nI_m1 (by omega))
      · rw [e1] at eE; exact absurd eE (by decide)
      · rw [e1] at eE; exact absurd eE (by decide)
    refine ⟨nI m, Mc', Mr', ?_, ?_, FC_f g3, FR_f g4, Or.inr ⟨m, R, W, S, by omega, rfl, wDr_f hd g3 g4⟩⟩
    · rw [f_X10_tellTo_16, if_neg (show ¬ (100 : Int32) < nI m from nI_nlt (a := 100) (by omega) (by decide)), g1, zbv_s, if_pos eE]
    · rw [g2, zbv_s, f_X12_reads_32, if_pos eR]
  | succ k ih =>
    intro i m n n' Mc Mr R W S hk hi hn hn' hm hL c2 r2 hd
    obtain ⟨n, rfl⟩ : ∃ q, n = q + 1 := ⟨n - 1, by omega⟩
    obtain ⟨n', rfl⟩ : ∃ q, n' = q + 1 := ⟨n' - 1, by omega⟩
    have hL1 := hL.1
    obtain ⟨Mc', Mr', i', p, g1, g2, g3, g4, g5, g6, g7, g8, g9, g10, g11, g12, g13⟩ := tk hL hi c2 r2
    have hcl : f_X10_tellTo_16 6 (n + 1) Mc (nI m) = (if (Mc'.1 1 3) = (-1 : Int32) then (some (nI m, Mc')) else (zbi (f_X10_readItem Mc' 6 (nI m)) (fun r7 M8 => if r7 = 0 then (f_X10_tellTo_54 6 M8) else (f_X10_tellTo_16 6 n M8 (nI (m + 1)))))) := by
      rw [f_X10_tellTo_16, if_neg (show ¬ (100 : Int32) < nI m from nI_nlt (a := 100) (by omega) (by decide)), g1, zbv_s, nI_1]
    have hrl : zbv (f_X12_nextToken Mr) (fun M12 => f_X12_reads_32 (n' + 1) M12 (nI m)) = (if (Mr'.1 25 19) = 0 then (some (nI m, Mr')) else rIt (fun M8 => zbv (f_X12_nextToken M8) (fun M12 => f_X12_reads_32 n' M12 (nI (m + 1)))) Mr' (nI m)) := by
      rw [g2, zbv_s, f_X12_reads_32, nI_1]
      rfl
    have hd' := wDr_f hd g3 g4
    have hL' := wL_fr hL g3 g4
    have go : ¬ Mc'.1 1 3 = -1 → ¬ Mr'.1 25 19 = 0 → itOut L i' Mc' Mr' (fun M8 => zbv (f_X12_nextToken M8) (fun M12 => f_X12_reads_32 n' M12 (nI (m + 1)))) (f_X10_readItem Mc' 6 (nI m)) (rIt (fun M8 => zbv (f_X12_nextToken M8) (fun M12 => f_X12_reads_32 n' M12 (nI (m + 1)))) Mr' (nI m)) → ∃ r Mc' Mr', f_X10_tellTo_16 6 (n + 1) Mc (nI m) = some (r, Mc') ∧ zbv (f_X12_nextToken Mr) (fun M12 => f_X12_reads_32 (n' + 1) M12 (nI m)) = some (r, Mr') ∧ FC Mc Mc' ∧ FR Mr Mr' ∧ (r < 0 ∨ (∃ m' R' W' S', m' ≤ 100 ∧ r = nI m' ∧ wDr Mc' Mr' R' W' S')) := by
      intro e1 e2 hit
      rw [if_neg e1] at hcl
      rw [if_neg e2] at hrl
      have hii : i < i' := by
        rcases g13 with z | z
        · exact absurd z e1
        · exact z
      obtain ⟨Nc, Nr, f1, f2, hh⟩ := hit
      rcases hh with ⟨q, q1, q2, q3, q4⟩ | ⟨j', R', W', S', q1, q2, q3, q4, q5, q6, q7⟩
      · refine ⟨-10 - nI q, Nc, Nr, ?_, hrl.trans q4, FC_t (FC_f g3) f1, FR_t (FR_f g4) f2, Or.inl ?_⟩
        · rw [hcl, q2, zbi_s, if_pos rfl, f_X10_tellTo_54, q3]
        · rw [i_lt, fb_subI (by rw [nI_t (by omega)]; show -2147483648 ≤ (-10 : Int) - q; omega) (by rw [nI_t (by omega)]; show (-10 : Int) - q < 2147483648; omega), nI_t (by omega)]
          show (-10 : Int) - q < 0
          omega
      · obtain ⟨r, Oc, Or', o1, o2, o3, o4, o5⟩ := ih j' (m + 1) n n' Nc Nr R' W' S' (by omega) q4 (by omega) (by omega) (by omega) (wL_F hL' f1 f2) q5 q6 q7
        refine ⟨r, Oc, Or', ?_, ?_, FC_t (FC_f g3) (FC_t f1 o3), FR_t (FR_f g4) (FR_t f2 o4), o5⟩
        · rw [hcl, q1, zbi_s, if_neg (by decide), o1]
        · rw [hrl, q2]
          exact o2
    have bad : (∀ x, f_X10_readItem Mc' 6 x = some (0, Mc')) → ¬ Mr'.1 25 19 = 1 → itOut L i' Mc' Mr' (fun M8 => zbv (f_X12_nextToken M8) (fun M12 => f_X12_reads_32 n' M12 (nI (m + 1)))) (f_X10_readItem Mc' 6 (nI m)) (rIt (fun M8 => zbv (f_X12_nextToken M8) (fun M12 => f_X12_reads_32 n' M12 (nI (m + 1)))) Mr' (nI m)) := by
      intro b1 b2
      refine it_fail (FC_f (frC_r Mc')) (FR_f (frR_r Mr')) g11 (b1 _) g9 ?_
      unfold rIt
      show zbi (f_X12_isItem_0 (nI m) Mr') _ = _
      rw [f_X12_isItem_0, if_neg b2, zbi_s, if_pos rfl, g10]
    have badc : ¬ Mc'.1 1 3 = 104 → ¬ Mc'.1 1 3 = 114 → ¬ Mc'.1 1 3 = 115 → ∀ x, f_X10_readItem Mc' 6 x = some (0, Mc') := by
      intro b1 b2 b3 x
      show f_X10_readItem_0 6 x Mc' = _
      rw [f_X10_readItem_0, if_neg b1, if_neg b2, if_neg b3]
    rcases g12 with ⟨e1, e2⟩ | ⟨e1, e2, v, hv, e3, e4⟩ | ⟨v, hv, e1, e2, e3⟩ | ⟨e1, e2⟩ | ⟨e1, e2⟩
    · exact ⟨nI m, Mc', Mr', by rw [hcl, if_pos e1], by rw [hrl, if_pos e2], FC_f g3, FR_f g4, Or.inr ⟨m, R, W, S, by omega, rfl, hd'⟩⟩
    · exact go (by rw [e1]; decide) (by rw [e2]; decide) (bad (badc (by rw [e1]; decide) (by rw [e1]; decide) (by rw [e1]; decide)) (by rw [e2]; decide))
    · refine go (by rw [e1]; exact nI_m1 (by omega)) (by rw [e2]; decide) ?_
      rcases hv with rfl | rfl | rfl
      · exact it_rooms _ (by omega) hL' g8 g5 g6 g9 g10 g11 hd' e1 e2 e3
      · exact it_hard _ _ hL' g8 g5 g6 g9 g10 g11 hd' e1 e2 e3
      · exact it_sort _ _ hL' g8 g5 g6 g9 g10 g11 hd' e1 e2 e3
    · exact go (by rw [e1]; decide) (by rw [e2]; decide) (bad (badc (by rw [e1]; decide) (by rw [e1]; decide) (by rw [e1]; decide)) (by rw [e2]; decide))
    · exact go (by rw [e1]; decide) (by rw [e2]; decide) (bad (badc (by rw [e1]; decide) (by rw [e1]; decide) (by rw [e1]; decide)) (by rw [e2]; decide))
