/-! spare, ahead -/
theorem E_same {M : zM} {n R W H S G K k : Nat} (P : wP M R W H S) (Y : wMo n R S G K (fun i => M.1 (37 + i)) (M.1 28)) (hk : k < G) (h0 : M.1 (37 + 3) k = 0) (hf : aFirst (M.1 (37 + 2)) (M.1 (37 + 3)) (M.1 (37 + 5)) (M.1 (37 + 2) k) G = some k) (M' : zM) (h : zFrC M M') : zbv (f_X5_copy M' 43 37) (fun M7 => f_X5_letAhead M7 43 (nI k)) = f_X5_copy M' 43 37 := by
  have h9 := Y.1.1
  obtain ⟨M7, c1, f7, c4⟩ := E_base Y M' h
  have P7 := wP_C P f7
  obtain ⟨Mx, _, fx, X7⟩ := c4 M ⟨fun _ _ _ => rfl, rfl⟩
  have x7 := X7.cx P7 (by omega)
  obtain ⟨Mb, cb1, cb2, cb3, cb4, cb5, cb6⟩ := c_copy (M := M') (c := 43) (p := 37) (Or.inr (by omega))
  obtain rfl : Mb = M7 := Option.some.inj (cb1.symm.trans c1)
  have row : ∀ i, 1 ≤ i → i ≤ 5 → ∀ j, j < G → Mb.1 (43 + i) j = M.1 (37 + i) j := fun i h1 h5 j hj => by rw [cb6 i j h1 h5 (by omega), h.1 _ (by omega)]
  have h07 : Mb.1 (43 + 3) k = 0 := by rw [row 3 (by omega) (by omega) k hk]; exact h0
  have hf7 : aFirst (Mb.1 (43 + 2)) (Mb.1 (43 + 3)) (Mb.1 (43 + 5)) (Mb.1 (43 + 2) k) G = some k := by
    rw [row 2 (by omega) (by omega) k hk, ← hf]
    refine (aFirst_rel (fun g hg => (row 2 (by omega) (by omega) g hg).symm) (fun g hg => (row 3 (by omega) (by omega) g hg).symm) (fun g q hg hq _ _ _ => ?_)).symm
    rw [row 5 (by omega) (by omega) g hg, row 5 (by omega) (by omega) q hq]
  rw [c1, zbv_s, c_letA x7 hk h07 hf7, if_pos rfl]
theorem zFrC_R {M M' : zM} (h : zFrC M M') : zFrR M M' := ⟨fun q _ hq => h.1 q hq, h.2⟩
theorem p_bestF {n R W H S G K g x0 : Nat} {M : zM} (X : wI n M) (P : wP M R W H S) (Y : wMo n R S G K (fun i => M.1 (37 + i)) (M.1 28)) (hg : g < G) {xc xr : Int32} {v : Nat → Nat} {use : Nat → Bool} (hx0 : x0 ≤ 61) (b1 : ∀ M', zFrC M M' → ∃ M2, zbv (f_X5_copy M' 43 37) (fun M => f_X5_runUntilThrough M 43 (nI g)) = some (nI x0, M2) ∧ zFrC M M2) (b2 : ∀ M'', zFrR M M'' → ∃ M2, zbv (f_X12_layAside M'') (fun M => f_X12_whenAside M (nI g)) = some (nI x0, M2) ∧ zFrR M M2) (lc : ∀ (k j n : Nat) (M' : zM) (b : Nat) (w : Option Nat), j + k = G → k < n → zFrC M M' → b ≤ x0 → ∃ M2, f_X11_bestHelper_27 (nI g) xc n M' (nI b) (e9 w) (nI j) = some (e9 (bRes use v k j b w), M2) ∧ zFrC M M2) (lr : ∀ (k j n : Nat) (M' : zM) (b : Nat) (w : Option Nat), j + k = G → k < n → zFrR M M' → b ≤ x0 → ∃ M2, f_X12_best_17 (nI g) xr n M' (nI b) (e9 w) (nI j) = some (e9 (bRes use v k j b w), M2) ∧ zFrR M M2) : ∃ r M1 M2, f_X11_bestHelper M (nI g) xc = some (r, M1) ∧ zFrC M M1 ∧ f_X12_best M1 (nI g) xr = some (r, M2) ∧ zFrR M M2 := by
  have h9 := Y.1.1
  obtain ⟨Ma, ea, fa⟩ := b1 M ⟨fun _ _ => rfl, rfl⟩
  obtain ⟨M1, e1, f1⟩ := lc G 0 zFU Ma x0 none (by omega) (zFU_gt (by omega)) fa (Nat.le_refl _)
  obtain ⟨Mb, eb, fb⟩ := b2 M1 (zFrC_R f1)
  obtain ⟨M2, e2, f2⟩ := lr G 0 zFU Mb x0 none (by omega) (zFU_gt (by omega)) fb (Nat.le_refl _)
  rw [nI_0, show e9 none = (-9 : Int32) from rfl] at e1 e2
  refine ⟨e9 (bRes use v G 0 x0 none), M1, M2, ?_, f1, ?_, f2⟩
  · show f_X11_bestHelper_0 (nI g) xc M = _
    rw [f_X11_bestHelper_0, ← zbi_zbv, ea, zbi_s, e1]
  · show f_X12_best_0 (nI g) xr M1 = _
    rw [f_X12_best_0, ← zbi_zbv, eb, zbi_s, e2]
theorem p_spare {n : Nat} {M : zM} (X : wI n M) (x : Int32) : wOp n M (fun M => f_X11_spare M x) (fun M => f_X12_spare M x) := by
  obtain ⟨R, W, H, S, a1, ⟨G, K, b⟩, a3, a4, a5, a6, a7⟩ := id X
  have hx := b.cx a1 (by omega)
  have hr := b.rx a1 (by omega)
  have h9 := hx.2.2.1
  have no : x < 0 ∨ nI G ≤ x → wOp n M (fun M => f_X11_spare M x) (fun M => f_X12_spare M x) := by
    intro h
    refine wOp_same X (-1) ?_ ?_
    · show f_X11_spare_0 x M = _
      rw [f_X11_spare_0, c_noGoer hx.2.1 h, zbi_s, if_pos rfl]
    · show f_X12_spare_0 x M = _
      rw [f_X12_spare_0, r_isGoerF hr.2.1 h9 h, zbi_s, if_pos rfl]
  rcases pk_ix x (n := G) (by omega) with h | h | ⟨g, hg, rfl⟩
  · exact no (Or.inl h)
  · exact no (Or.inr h)
  obtain ⟨x0, hx0, b1, b2⟩ := eng a1 hg _ _ (E_base b)
  have hv : ∀ k : Nat, ∃ v : Nat, k < G → M.1 (37 + 3) k = 0 → v ≤ 61 ∧ (∀ M', zFrC M M' → ∃ M2, zbv (zbv (f_X5_copy M' 43 37) (fun M7 => f_X5_giveUp M7 43 (nI k))) (fun M => f_X5_runUntilThrough M 43 (nI g)) = some (nI v, M2) ∧ zFrC M M2) ∧ (∀ M'', zFrR M M'' → ∃ M2, zbv (zbv (f_X12_layAside M'') (fun M3 => zbv (f_X12_leavesOn M3 29 (nI k)) (fun M => f_X12_fills M 29))) (fun M => f_X12_whenAside M (nI g)) = some (nI v, M2) ∧ zFrR M M2) := by
    intro k
    by_cases hk : k < G ∧ M.1 (37 + 3) k = 0
    · obtain ⟨v, hv⟩ := eng a1 hg _ _ (E_give a1 b hk.1 hk.2)
      exact ⟨v, fun _ _ => hv⟩
    · exact ⟨0, fun h1 h2 => absurd ⟨h1, h2⟩ hk⟩
  obtain ⟨v, hv⟩ := Classical.axiomOfChoice hv
  have q5 : ∀ j, j < G → M.1 (37 + 3) j = M.1 28 (20 + j) := fun j hj => (b.2.1 j hj).2.2.2.2.1
  have lc := cBest (x2 := 0) (v := v) (use := fun j => decide (¬ j = g ∧ M.1 (37 + 3) j = 0)) h9 hx.2.1 hg hx0 (fun M7 c => f_X5_giveUp M7 43 c) (fun k27 M7 a b c => if_pos rfl) (fun j hj h1 h2 => ⟨(hv j hj h2).1, Or.inl (decide_eq_true ⟨h1, h2⟩), (hv j hj h2).2.1⟩) (fun j hj h1 => of_decide_eq_true h1)
  have lr := rBest (x2 := 1) (v := v) (use := fun j => decide (¬ j = g ∧ M.1 (37 + 3) j = 0)) hr hg hx0 (fun M7 c => f_X12_leavesOn M7 29 c) (fun k17 M7 a b c => if_neg (by decide)) (fun j hj h1 => ⟨(hv j hj (of_decide_eq_true h1).2).1, (hv j hj (of_decide_eq_true h1).2).2.2⟩) (fun j hj => by
    rw [decide_eq_true_iff, q5 j hj]
    exact ⟨fun z => ⟨z.1, z.2, fun q => absurd q (by decide)⟩, fun z => ⟨z.1, z.2.1⟩⟩)
  obtain ⟨r, M1, M2, e1, f1, e2, f2⟩ := p_bestF X a1 b hg hx0 b1 b2 lc lr
  refine ⟨r, M1, M2, ?_, ?_, wI_run (wI_mono (Nat.le_succ _) X) f2.1 f2.2⟩
  · show f_X11_spare_0 _ M = _
    rw [f_X11_spare_0, c_hasGoer hx.2.1 h9 hg, zbi_s, if_neg (by decide), e1, zbi_s]
  · show f_X12_spare_0 _ M1 = _
    rw [f_X12_spare_0, r_isGoerT (by rw [f1.1 28 (by omega)]; exact hr.2.1) h9 hg, zbi_s, if_neg (by decide), e2, zbi_s]
theorem p_ahead {n : Nat} {M : zM} (hn : n < 900) (X : wI n M) (x : Int32) : wOp n M (fun M => f_X11_ahead M x) (fun M => f_X12_ahead M x) := by
  obtain ⟨R, W, H, S, a1, ⟨G, K, b⟩, a3, a4, a5, a6, a7⟩ := id X
  have hx := b.cx a1 (by omega)
  have hr := b.rx a1 (by omega)
  have h9 := hx.2.2.1
  have no : x < 0 ∨ nI G ≤ x → wOp n M (fun M => f_X11_ahead M x) (fun M => f_X12_ahead M x) := by
    intro h
    refine wOp_same X (-1) ?_ ?_
    · show f_X11_ahead_0 x M = _
      rw [f_X11_ahead_0, c_noGoer hx.2.1 h, zbi_s, if_pos rfl]
    · show f_X12_ahead_0 x M = _
      rw [f_X12_ahead_0, r_isGoerF hr.2.1 h9 h, zbi_s, if_pos rfl]
  rcases pk_ix x (n := G) (by omega) with h | h | ⟨g, hg, rfl⟩
  · exact no (Or.inl h)
  · exact no (Or.inr h)
  obtain ⟨x0, hx0, b1, b2⟩ := eng a1 hg _ _ (E_base b)
  have hv : ∀ k : Nat, ∃ v : Nat, k < G → M.1 (37 + 3) k = 0 → v ≤ 61 ∧ (¬ aAhead (M.1 (37 + 2)) (M.1 (37 + 3)) (M.1 (37 + 5)) k G = 0 ∨ v = x0) ∧ (∀ M', zFrC M M' → ∃ M2, zbv (zbv (f_X5_copy M' 43 37) (fun M7 => f_X5_letAhead M7 43 (nI k))) (fun M => f_X5_runUntilThrough M 43 (nI g)) = some (nI v, M2) ∧ zFrC M M2) ∧ (¬ aAhead (M.1 (37 + 2)) (M.1 (37 + 3)) (M.1 (37 + 5)) k G = 0 → ∀ M'', zFrR M M'' → ∃ M2, zbv (zbv (f_X12_layAside M'') (fun M3 => zbv (f_X12_letsOn M3 29 (nI k)) (fun M => f_X12_fills M 29))) (fun M => f_X12_whenAside M (nI g)) = some (nI v, M2) ∧ zFrR M M2) := by
    intro k
    by_cases hk : k < G ∧ M.1 (37 + 3) k = 0
    · obtain ⟨f, hf⟩ := aFirst_ex (si := M.1 (37 + 2)) (wh := M.1 (37 + 3)) (tu := M.1 (37 + 5)) hk.1 hk.2 rfl
      have hfa : f = k ↔ aAhead (M.1 (37 + 2)) (M.1 (37 + 3)) (M.1 (37 + 5)) k G = 0 := aFirst_ahead b hk.1 hk.2 hf
      by_cases hz : aAhead (M.1 (37 + 2)) (M.1 (37 + 3)) (M.1 (37 + 5)) k G = 0
      · obtain rfl : f = k := hfa.mpr hz
        refine ⟨x0, fun _ _ => ⟨hx0, Or.inr rfl, fun M' h => ?_, fun q => absurd hz q⟩⟩
        rw [E_same a1 b hk.1 hk.2 hf M' h]
        exact b1 M' h
      · obtain ⟨v, v1, v2, v3⟩ := eng a1 hg _ _ (E_let (by omega) a1 b hk.1 hk.2 hf (fun q => hz (hfa.mp q)))
        exact ⟨v, fun _ _ => ⟨v1, Or.inl hz, v2, fun _ => v3⟩⟩
    · exact ⟨0, fun h1 h2 => absurd ⟨h1, h2⟩ hk⟩
  obtain ⟨v, hv⟩ := Classical.axiomOfChoice hv
  have q5 : ∀ j, j < G → M.1 (37 + 3) j = M.1 28 (20 + j) := fun j hj => (b.2.1 j hj).2.2.2.2.1
  have lc := cBest (x2 := 1) (v := v) (use := fun j => decide (¬ j = g ∧ M.1 (37 + 3) j = 0 ∧ ¬ aAhead (M.1 (37 + 2)) (M.1 (37 + 3)) (M.1 (37 + 5)) j G = 0)) h9 hx.2.1 hg hx0 (fun M7 c => f_X5_letAhead M7 43 c) (fun k27 M7 a b c => if_neg (by decide)) (fun j hj h1 h2 => ⟨(hv j hj h2).1, (hv j hj h2).2.1.imp (fun z => decide_eq_true ⟨h1, h2, z⟩) id, (hv j hj h2).2.2.1⟩) (fun j hj h1 => ⟨(of_decide_eq_true h1).1, (of_decide_eq_true h1).2.1⟩)
  have lr := rBest (x2 := 0) (v := v) (use := fun j => decide (¬ j = g ∧ M.1 (37 + 3) j = 0 ∧ ¬ aAhead (M.1 (37 + 2)) (M.1 (37 + 3)) (M.1 (37 + 5)) j G = 0)) hr hg hx0 (fun M7 c => f_X12_letsOn M7 29 c) (fun k17 M7 a b c => if_pos rfl) (fun j hj h1 => ⟨(hv j hj (of_decide_eq_true h1).2.1).1, (hv j hj (of_decide_eq_true h1).2.1).2.2.2 (of_decide_eq_true h1).2.2⟩) (fun j hj => by
    rw [decide_eq_true_iff]
    constructor
    · intro z
      have ea := aAhead_rel (si := M.1 (37 + 2)) (wh := M.1 (37 + 3)) (tu := M.1 (37 + 5)) (si' := fun g => M.1 28 (11 + g)) (wh' := fun g => M.1 28 (20 + g)) (sa := fun g => M.1 28 (38 + g)) (fun g hg => (b.ev a1 g hg).1) (fun g hg => (b.si g hg).1) b.or hj z.2.1
      rw [ea, q5 j hj] at z
      exact ⟨z.1, z.2.1, fun _ => z.2.2⟩
    · intro z
      have z2 : M.1 (37 + 3) j = 0 := by rw [q5 j hj]; exact z.2.1
      have ea := aAhead_rel (si := M.1 (37 + 2)) (wh := M.1 (37 + 3)) (tu := M.1 (37 + 5)) (si' := fun g => M.1 28 (11 + g)) (wh' := fun g => M.1 28 (20 + g)) (sa := fun g => M.1 28 (38 + g)) (fun g hg => (b.ev a1 g hg).1) (fun g hg => (b.si g hg).1) b.or hj z2
      rw [ea]
      exact ⟨z.1, z2, z.2.2 rfl⟩)
  obtain ⟨r, M1, M2, e1, f1, e2, f2⟩ := p_bestF X a1 b hg hx0 b1 b2 lc lr
  refine ⟨r, M1, M2, ?_, ?_, wI_run (wI_mono (Nat.le_succ _) X) f2.1 f2.2⟩
  · show f_X11_ahead_0 _ M = _
    rw [f_X11_ahead_0, c_hasGoer hx.2.1 h9 hg, zbi_s, if_neg (by decide), e1, zbi_s]
  · show f_X12_ahead_0 _ M1 = _
    rw [f_X12_ahead_0, r_isGoerT (by rw [f1.1 28 (by omega)]; exact hr.2.1) h9 hg, zbi_s, if_neg (by decide), e2, zbi_s]
