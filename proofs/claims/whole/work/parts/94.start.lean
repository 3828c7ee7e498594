set_option maxHeartbeats 4000000 in
set_option maxRecDepth 100000 in
/-- THE LAW, from its entry -/
theorem whole_start {p : Program} {e : Env} {s : State} {m : MethodId} {below : List Frame} {meth : Method} {c : Code} (l : Launch) (hflags : l.flags = flags0) {b L : Nat} {xs : Nat → Int32} (hL : L ≤ 2048) (C0 : lw_At p s m meth c b L xs) : W p l e room_1 s m #[Value.ref b] below meth c s.heap [] 0 0 (lw_Z below #[Value.ref b] s) (entryFrame m ([Value.ref b] : List Value).toArray 4) := by
  obtain ⟨hx, hb, hr, hml, hown, hts, hX, hbl, hlocks, hgv⟩ := id C0
  have htg : ∀ w ∈ zG, w.before #[Value.ref b] s = true := fun w hw => hts w (zG_in hw)
  have hN : zN s := zN.of hts
  obtain ⟨D, aC, hK⟩ := z_K s.heap.size hts
  generalize hE : zE0 D aC s.heap.size = E at hK
  obtain ⟨M', hlaw⟩ := pure_law xs L hL
  have hl := lv_entry ([.ref b]) (n := 4) (Nat.le_of_ble_eq_true rfl)
  rw [lg_entry_eq]
  have hI : zI E := by rw [← hE]; exact zE0_I D aC s.heap.size
  have hA : ∀ q, zA E q → s.heap.size ≤ q := fun q hq => by rw [← hE] at hq; exact zE0_A hq
  have hst : ∀ H : Heap, va_P E.1 vwCl (ycw s.heap.size (zcs E s.heap.size)) H → va_P E.1 vwCl (zl E zM0) H := by
    rw [← hE]
    exact fun H h => z_start h
  have C : zC (p, l, e, room_1, s, m, #[Value.ref b], below, meth, c, 600000, 7302250) E cL_law 4 RL ret 9 := ⟨hx, hb, hml, hown, htg, hK, hN, hI, ⟨Nat.le_of_ble_eq_true rfl, Nat.le_of_ble_eq_true rfl⟩, ⟨Nat.le_of_ble_eq_true rfl, Nat.le_of_ble_eq_true rfl⟩, hlocks, hr⟩
  have hz := p_L_law_18 (b := b) C ⟨hX, hbl, fun h => absurd (hA b h) (Nat.not_le.mpr hbl)⟩ ⟨rfl, rfl, rfl, rfl, hA⟩ zFU zM0 0 hlaw
  refine law_made (b := s.heap.size) (b0 := b) (Q := lw_Z below #[Value.ref b] s) C rfl ⟨Nat.le_of_ble_eq_true rfl, Nat.le_of_ble_eq_true rfl⟩ ?_ s.heap [] _ (fun k q h => by cases h) va_S.rf (by show lv_has _ c.maxLocals _; rw [hml]; exact hl)
  intro H locs ls hP hS h
  refine W.widen (k := 600000) (n := 7302250) (Nat.le_of_ble_eq_true rfl) (Nat.le_of_ble_eq_true rfl) ?_
  refine va_forget (fun q hq => hS.2.2 q hq) ?_
  have e1 : E.2.1 0 = s.heap.size + 0 := by rw [← hE]; rfl
  have e2 : E.2.1 25 = s.heap.size + 109 := by rw [← hE]; rfl
  rw [← e1, ← e2] at h
  exact hz H [] ls (hst H hP) ⟨hS.1, fun q h1 h2 => hS.2.1 q h1 (Nat.not_le.mpr h1), fun _ hq => by cases hq⟩ (lv_sub h [3, 2, 1, 0] rfl)
