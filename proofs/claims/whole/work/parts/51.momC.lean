/-! the class's moments: what its loops answer -/
def aWho (wh : Nat → Int32) (w : Int32) (G : Nat) : Int32 := zfo (fun j a => if wh j = w then a ||| zbit j else a) G 0
theorem c_whoIs {M : zM} {c G : Nat} (hG : M.1 c 2 = nI G) (h9 : G ≤ 9) (w : Int32) : f_X5_whoIs M c w = some (aWho (M.1 (c + 3)) w G, M) := by
  refine zloop0 (fun n a i => f_X5_whoIs_4 c w n M a i) (fun j a => if M.1 (c + 3) j = w then a ||| zbit j else a) (fun a => some (a, M)) G (fun n j a hj => ?_) (fun n a => ?_) (zFU_gt (by omega))
  · show f_X5_whoIs_4 c w (n + 1) M a (nI j) = f_X5_whoIs_4 c w n M _ (nI (j + 1))
    rw [f_X5_whoIs_4, hG, if_neg (nI_ge hj (by omega)), zg_in (by omega) (by decide), nI_clamp (by omega), nI_1]
    by_cases h : M.1 (c + 3) j = w
    · simp only [if_pos h]; rfl
    · simp only [if_neg h]
  · show f_X5_whoIs_4 c w (n + 1) M a (nI G) = _
    rw [f_X5_whoIs_4, hG, if_pos (Int32.le_refl _)]
/-- the plan of a sort -/
theorem c_pbulk {M : zM} {S x : Nat} (hS : M.1 3 3 = nI S) (h6 : S ≤ 6) (hx : x < S) : f_X7_bulkOf M 3 (nI x) = some (M.1 4 x, M) := by
  show f_X7_bulkOf_0 3 (nI x) M = _
  rw [f_X7_bulkOf_0, if_neg (nI_pos (by omega)), hS, if_neg (nI_ge hx (by omega)), zg_in (by omega) (by decide), nI_clamp (by omega)]
theorem c_ppush {M : zM} {S x : Nat} (hS : M.1 3 3 = nI S) (h6 : S ≤ 6) (hx : x < S) : f_X7_pushOf M 3 (nI x) = some (M.1 5 x, M) := by
  show f_X7_pushOf_0 3 (nI x) M = _
  rw [f_X7_pushOf_0, if_neg (nI_pos (by omega)), hS, if_neg (nI_ge hx (by omega)), zg_in (by omega) (by decide), nI_clamp (by omega)]
/-- the sorts of the goers are sorts -/
def zSo (so : Nat → Int32) (G S : Nat) : Prop := ∀ g, g < G → ∃ x, x < S ∧ so g = nI x
theorem c_gbulk {M : zM} {S G g : Nat} {so : Nat → Int32} (hS : M.1 3 3 = nI S) (h6 : S ≤ 6) (hso : zSo so G S) (hg : g < G) : f_X7_bulkOf M 3 (so g) = some (M.1 4 (so g).toNatClampNeg, M) := by
  obtain ⟨x, hx, e⟩ := hso g hg
  rw [e, c_pbulk hS h6 hx, nI_clamp (by omega)]
theorem c_gpush {M : zM} {S G g : Nat} {so : Nat → Int32} (hS : M.1 3 3 = nI S) (h6 : S ≤ 6) (hso : zSo so G S) (hg : g < G) : f_X7_pushOf M 3 (so g) = some (M.1 5 (so g).toNatClampNeg, M) := by
  obtain ⟨x, hx, e⟩ := hso g hg
  rw [e, c_ppush hS h6 hx, nI_clamp (by omega)]
def aRoom (wh pl : Nat → Int32) (p : Int32) (G : Nat) : Int32 := zfo (fun j a => if wh j = 1 ∧ pl j = p then a ||| zbit j else a) G 0
theorem c_roomAt {M : zM} {c G : Nat} (hG : M.1 c 2 = nI G) (h9 : G ≤ 9) (p : Int32) : f_X5_whoIsInRoomAt M c p = some (aRoom (M.1 (c + 3)) (M.1 (c + 4)) p G, M) := by
  refine zloop0 (fun n a i => f_X5_whoIsInRoomAt_4 c p n M a i) (fun j a => if M.1 (c + 3) j = 1 ∧ M.1 (c + 4) j = p then a ||| zbit j else a) (fun a => some (a, M)) G (fun n j a hj => ?_) (fun n a => ?_) (zFU_gt (by omega))
  · show f_X5_whoIsInRoomAt_4 c p (n + 1) M a (nI j) = f_X5_whoIsInRoomAt_4 c p n M _ (nI (j + 1))
    rw [f_X5_whoIsInRoomAt_4, hG, if_neg (nI_ge hj (by omega)), zg_in (by omega) (by decide), nI_clamp (by omega), nI_1]
    by_cases h : M.1 (c + 3) j = 1
    · rw [if_pos h, zg_in (by omega) (by decide)]
      by_cases h2 : M.1 (c + 4) j = p
      · rw [if_pos h2, if_pos ⟨h, h2⟩]; rfl
      · rw [if_neg h2, if_neg (fun q => h2 q.2)]
    · rw [if_neg h, if_neg (fun q => h q.1)]
  · show f_X5_whoIsInRoomAt_4 c p (n + 1) M a (nI G) = _
    rw [f_X5_whoIsInRoomAt_4, hG, if_pos (Int32.le_refl _)]
def aBulk (so bu wh pl : Nat → Int32) (p : Int32) (G : Nat) : Int32 := zfo (fun j a => if wh j = 1 ∧ pl j = p then a + bu (so j).toNatClampNeg else a) G 0
theorem c_bulkAt {M : zM} {c G S : Nat} (hG : M.1 c 2 = nI G) (h9 : G ≤ 9) (hS : M.1 3 3 = nI S) (h6 : S ≤ 6) (hso : zSo (M.1 (c + 1)) G S) (p : Int32) : f_X5_bulkInRoomAt M c p = some (aBulk (M.1 (c + 1)) (M.1 4) (M.1 (c + 3)) (M.1 (c + 4)) p G, M) := by
  refine zloop0 (fun n a i => f_X5_bulkInRoomAt_4 c p n M a i) (fun j a => if M.1 (c + 3) j = 1 ∧ M.1 (c + 4) j = p then a + M.1 4 (M.1 (c + 1) j).toNatClampNeg else a) (fun a => some (a, M)) G (fun n j a hj => ?_) (fun n a => ?_) (zFU_gt (by omega))
  · show f_X5_bulkInRoomAt_4 c p (n + 1) M a (nI j) = f_X5_bulkInRoomAt_4 c p n M _ (nI (j + 1))
    rw [f_X5_bulkInRoomAt_4, hG, if_neg (nI_ge hj (by omega)), zg_in (by omega) (by decide), nI_clamp (by omega), nI_1]
    by_cases h : M.1 (c + 3) j = 1
    · rw [if_pos h, zg_in (by omega) (by decide)]
      by_cases h2 : M.1 (c + 4) j = p
      · rw [if_pos h2, if_pos ⟨h, h2⟩, zg_in (by omega) (by decide), c_gbulk hS h6 hso hj, zbi_s]
      · rw [if_neg h2, if_neg (fun q => h2 q.2)]
    · rw [if_neg h, if_neg (fun q => h q.1)]
  · show f_X5_bulkInRoomAt_4 c p (n + 1) M a (nI G) = _
    rw [f_X5_bulkInRoomAt_4, hG, if_pos (Int32.le_refl _)]
def aLoad (so pu wh : Nat → Int32) (G : Nat) : Int32 := zfo (fun j a => if wh j = 1 then a + pu (so j).toNatClampNeg else a) G 0
theorem c_load {M : zM} {c G S : Nat} (hG : M.1 c 2 = nI G) (h9 : G ≤ 9) (hS : M.1 3 3 = nI S) (h6 : S ≤ 6) (hso : zSo (M.1 (c + 1)) G S) : f_X5_load M c = some (aLoad (M.1 (c + 1)) (M.1 5) (M.1 (c + 3)) G, M) := by
  refine zloop0 (fun n a i => f_X5_load_4 c n M a i) (fun j a => if M.1 (c + 3) j = 1 then a + M.1 5 (M.1 (c + 1) j).toNatClampNeg else a) (fun a => some (a, M)) G (fun n j a hj => ?_) (fun n a => ?_) (zFU_gt (by omega))
  · show f_X5_load_4 c (n + 1) M a (nI j) = f_X5_load_4 c n M _ (nI (j + 1))
    rw [f_X5_load_4, hG, if_neg (nI_ge hj (by omega)), zg_in (by omega) (by decide), nI_clamp (by omega), nI_1]
    by_cases h : M.1 (c + 3) j = 1
    · rw [if_pos h, zg_in (by omega) (by decide), if_pos h, c_gpush hS h6 hso hj, zbi_s]
    · rw [if_neg h, if_neg h]
  · show f_X5_load_4 c (n + 1) M a (nI G) = _
    rw [f_X5_load_4, hG, if_pos (Int32.le_refl _)]
def aSorts (so : Nat → Int32) (s : Int32) (G : Nat) : Int32 := zfo (fun j a => if so j = s then a + 1 else a) G 0
theorem c_sorts {M : zM} {c G : Nat} (hG : M.1 c 2 = nI G) (h9 : G ≤ 9) (s : Int32) : f_X5_howManyOfSort M c s = some (aSorts (M.1 (c + 1)) s G, M) := by
  refine zloop0 (fun n a i => f_X5_howManyOfSort_4 c s n M a i) (fun j a => if M.1 (c + 1) j = s then a + 1 else a) (fun a => some (a, M)) G (fun n j a hj => ?_) (fun n a => ?_) (zFU_gt (by omega))
  · show f_X5_howManyOfSort_4 c s (n + 1) M a (nI j) = f_X5_howManyOfSort_4 c s n M _ (nI (j + 1))
    rw [f_X5_howManyOfSort_4, hG, if_neg (nI_ge hj (by omega)), zg_in (by omega) (by decide), nI_clamp (by omega), nI_1]
    by_cases h : M.1 (c + 1) j = s
    · rw [if_pos h, if_pos h]
    · rw [if_neg h, if_neg h]
  · show f_X5_howManyOfSort_4 c s (n + 1) M a (nI G) = _
    rw [f_X5_howManyOfSort_4, hG, if_pos (Int32.le_refl _)]
/-- the first one who waits on a side -/
def aFs (si wh tu : Nat → Int32) (side : Int32) (j : Nat) (a : Option Nat) : Option Nat := if wh j = 0 ∧ si j = side then (match a with
  | none => some j
  | some f => if tu j < tu f then some j else some f) else a
def aFirst (si wh tu : Nat → Int32) (side : Int32) (G : Nat) : Option Nat := zfo (aFs si wh tu side) G none
def e1 : Option Nat → Int32
  | none => -1
  | some f => nI f
theorem aFs_lt {si wh tu : Nat → Int32} {side : Int32} {j : Nat} {a : Option Nat} (h : ∀ f, a = some f → f < j) : ∀ f, aFs si wh tu side j a = some f → f < j + 1 := by
  intro f
  unfold aFs
  by_cases hc : wh j = 0 ∧ si j = side
  · rw [if_pos hc]
    cases a with
    | none => intro e; cases e; omega
    | some k =>
      have h1 := h k rfl
      by_cases h2 : tu j < tu k
      · intro e
        have e : (if tu j < tu k then some j else some k) = some f := e
        rw [if_pos h2] at e
        cases e
        omega
      · intro e
        have e : (if tu j < tu k then some j else some k) = some f := e
        rw [if_neg h2] at e
        cases e
        omega
  · rw [if_neg hc]
    intro e
    have := h f e
    omega
theorem c_firstOn {M : zM} {c G : Nat} (hG : M.1 c 2 = nI G) (h9 : G ≤ 9) (side : Int32) : f_X5_firstOn M c side = some (e1 (aFirst (M.1 (c + 2)) (M.1 (c + 3)) (M.1 (c + 5)) side G), M) := by
  refine zloop (fun n (a : Option Nat) i => f_X5_firstOn_4 c side n M (e1 a) i) (aFs (M.1 (c + 2)) (M.1 (c + 3)) (M.1 (c + 5)) side) (fun j a => ∀ f, a = some f → f < j) (fun a => some (e1 a, M)) G (fun n j a hj hi => ⟨?_, aFs_lt hi⟩) (fun n a _ => ?_) (a0 := none) (fun f e => by cases e) (zFU_gt (by omega))
  · show f_X5_firstOn_4 c side (n + 1) M (e1 a) (nI j) = f_X5_firstOn_4 c side n M (e1 (aFs _ _ _ side j a)) (nI (j + 1))
    rw [f_X5_firstOn_4, hG, if_neg (nI_ge hj (by omega)), zg_in (by omega) (by decide), nI_clamp (by omega)]
    unfold aFs
    by_cases h : M.1 (c + 3) j = 0
    · rw [if_pos h, zg_in (by omega) (by decide)]
      by_cases h2 : M.1 (c + 2) j = side
      · rw [if_pos h2, if_pos ⟨h, h2⟩, f_X5_firstOn_36, if_neg (by decide)]
        cases a with
        | none => rw [if_pos (by rfl), f_X5_firstOn_63, nI_1]; rfl
        | some f =>
          have hf := hi f rfl
          rw [show e1 (some f) = nI f from rfl, if_neg (nI_m1 (by omega)), zg_in (j := j) (by omega) (by decide), zg_in (j := f) (by omega) (by decide), nI_clamp (n := f) (by omega), nI_clamp (n := j) (by omega)]
          show (if M.1 (c + 5) f ≤ M.1 (c + 5) j then _ else _) = f_X5_firstOn_4 c side n M (e1 (if M.1 (c + 5) j < M.1 (c + 5) f then some j else some f)) (nI (j + 1))
          by_cases h3 : M.1 (c + 5) f ≤ M.1 (c + 5) j
          · rw [if_pos h3, if_neg (i_nlt.mpr h3), nI_1]; rfl
          · rw [if_neg h3, if_pos (i_nle.mp h3), f_X5_firstOn_63, nI_1]; rfl
      · rw [if_neg h2, if_neg (fun q => h2 q.2), f_X5_firstOn_36, if_pos rfl, nI_1]
    · rw [if_neg h, if_neg (fun q => h q.1), f_X5_firstOn_36, if_pos rfl, nI_1]
  · show f_X5_firstOn_4 c side (n + 1) M (e1 a) (nI G) = _
    rw [f_X5_firstOn_4, hG, if_pos (Int32.le_refl _)]
def aAhead (si wh tu : Nat → Int32) (g G : Nat) : Int32 := zfo (fun k a => if (wh k = 0 ∧ si k = si g) ∧ tu k < tu g then a + 1 else a) G 0
theorem c_hasGoer {M : zM} {c G g : Nat} (hG : M.1 c 2 = nI G) (h9 : G ≤ 9) (hg : g < G) : f_X5_hasGoer M c (nI g) = some (1, M) := by
  show f_X5_hasGoer_0 c (nI g) M = _
  rw [f_X5_hasGoer_0, if_neg (nI_pos (by omega)), hG, if_neg (nI_ge hg (by omega))]
theorem c_noGoer {M : zM} {c G : Nat} (hG : M.1 c 2 = nI G) {x : Int32} (hx : x < 0 ∨ nI G ≤ x) : f_X5_hasGoer M c x = some (0, M) := by
  show f_X5_hasGoer_0 c x M = _
  rw [f_X5_hasGoer_0, hG]
  by_cases h : x < 0
  · rw [if_pos h]
  · rw [if_neg h, if_pos (hx.resolve_left h)]
theorem c_ahead {M : zM} {c G g : Nat} (hG : M.1 c 2 = nI G) (h9 : G ≤ 9) (hg : g < G) : f_X5_howManyAheadOf M c (nI g) = some (aAhead (M.1 (c + 2)) (M.1 (c + 3)) (M.1 (c + 5)) g G, M) := by
  show f_X5_howManyAheadOf_0 c (nI g) M = _
  rw [f_X5_howManyAheadOf_0, c_hasGoer hG h9 hg, zbi_s, if_neg (by decide)]
  refine zloop0 (fun n a i => f_X5_howManyAheadOf_14 c (nI g) n M a i) (fun k a => if (M.1 (c + 3) k = 0 ∧ M.1 (c + 2) k = M.1 (c + 2) g) ∧ M.1 (c + 5) k < M.1 (c + 5) g then a + 1 else a) (fun a => some (a, M)) G (fun n j a hj => ?_) (fun n a => ?_) (zFU_gt (by omega))
  · show f_X5_howManyAheadOf_14 c (nI g) (n + 1) M a (nI j) = f_X5_howManyAheadOf_14 c (nI g) n M _ (nI (j + 1))
    rw [f_X5_howManyAheadOf_14, hG, if_neg (nI_ge hj (by omega)), zg_in (by omega) (by decide), nI_clamp (by omega)]
    by_cases h : M.1 (c + 3) j = 0
    · rw [if_pos h, zg_in (by omega) (by decide), zg_in (j := g) (by omega) (by decide), nI_clamp (n := g) (by omega)]
      by_cases h2 : M.1 (c + 2) j = M.1 (c + 2) g
      · rw [if_pos h2, f_X5_howManyAheadOf_51, if_neg (by decide), zg_in (j := j) (by omega) (by decide), zg_in (j := g) (by omega) (by decide), nI_clamp (n := g) (by omega), nI_clamp (n := j) (by omega), nI_1]
        by_cases h3 : M.1 (c + 5) g ≤ M.1 (c + 5) j
        · rw [if_pos h3, if_neg (fun q => i_nlt.mpr h3 q.2)]
        · rw [if_neg h3, if_pos ⟨⟨h, h2⟩, i_nle.mp h3⟩]
      · rw [if_neg h2, if_neg (fun q => h2 q.1.2), f_X5_howManyAheadOf_51, if_pos rfl, nI_1]
    · rw [if_neg h, if_neg (fun q => h q.1.1), f_X5_howManyAheadOf_51, if_pos rfl, nI_1]
  · show f_X5_howManyAheadOf_14 c (nI g) (n + 1) M a (nI G) = _
    rw [f_X5_howManyAheadOf_14, hG, if_pos (Int32.le_refl _)]
