/-! the memory of the whole system: rows of ints and of longs, by place; the references never change once the two objects are made.
places: 0 the class's object, 1 its text, 2 letters, 3 plan 4 5, 6 draft 7 8, 9 past, 10 moments, 11 images, 12 imageKept, 13 sightings 14 15 16, 17 ways, 18 kinds, 19 .. 24 the six kinds, 25 the reference's object, 26 bulk, 27 push, 28 now, 29 aside, 30 past, 31 images, 32 isKept, 33 seen, 34 text, 35 readBulk, 36 readPush, 37 + 6 i the moments (0 state, 1 trial, 2 .. 11 past, 12 13 images), each with its five rows behind it -/
abbrev zM : Type := (Nat → Nat → Int32) × (Nat → Nat → Int64)
abbrev zE : Type := va_G × (Nat → Nat) × (Nat → ClassId)
abbrev zX : Type := Program × Launch × Env × Room × State × MethodId × Array Value × List Frame × Method × Code × Nat × Nat
def zmo (r : Nat → Nat) (c : Nat) (f : Nat → Int32) : List Value := [.ref (r 3), .int (f 1), .int (f 2), .ref (r (c + 1)), .ref (r (c + 2)), .ref (r (c + 3)), .ref (r (c + 4)), .ref (r (c + 5))]
def zpl (r : Nat → Nat) (c : Nat) (f : Nat → Int32) : List Value := [.int (f 0), .int (f 1), .int (f 2), .int (f 3), .ref (r (c + 1)), .ref (r (c + 2))]
def zdo (r : Nat → Nat) : List Value := [.ref (r 1), .ref (r 3), .ref (r 6), .ref (r 37), .ref (r 43), .ref (r 9), .ref (r 11), .ref (r 12), .ref (r 13), .ref (r 17), .ref (r 18)]
def ztx (r : Nat → Nat) (f : Nat → Int32) : List Value := [.ref (r 2), .int (f 1), .int (f 2), .int (f 3), .int (f 4), .int (f 5), .int (f 6)]
def zpa (r : Nat → Nat) (f : Nat → Int32) : List Value := [.ref (r 10), .int (f 1), .int (f 2)]
def zsi (r : Nat → Nat) (f : Nat → Int32) : List Value := [.ref (r 3), .ref (r 14), .ref (r 15), .ref (r 16), .int (f 4)]
def zmd (r : Nat → Nat) (f : Nat → Int32) (g : Nat → Int64) : List Value := [.int (f 0), .int (f 1), .int (f 2), .int (f 3), .ref (r 26), .ref (r 27), .ref (r 28), .ref (r 29), .ref (r 30), .int (f 9), .ref (r 31), .ref (r 32), .ref (r 33), .int (f 13), .long (g 14), .ref (r 34), .int (f 16), .int (f 17), .int (f 18), .int (f 19), .int (f 20), .int (f 21), .int (f 22), .int (f 23), .int (f 24), .ref (r 35), .ref (r 36)]
def zfix (E : zE) (f : Nat → Int32) (g : Nat → Int64) : Nat → va_E
  | 0 => .inr (11, zdo E.2.1)
  | 1 => .inr (10, ztx E.2.1 f)
  | 2 => .inl (E.2.2 0, 100, .inl f)
  | 3 => .inr (7, zpl E.2.1 3 f)
  | 4 => .inl (E.2.2 0, 6, .inl f)
  | 5 => .inl (E.2.2 0, 6, .inl f)
  | 6 => .inr (7, zpl E.2.1 6 f)
  | 7 => .inl (E.2.2 0, 6, .inl f)
  | 8 => .inl (E.2.2 0, 6, .inl f)
  | 9 => .inr (6, zpa E.2.1 f)
  | 10 => .inl (E.2.2 3, 10, .inr (.inr (.inr (.inr (fun j => some (E.2.1 (49 + 6 * j)))))))
  | 11 => .inl (E.2.2 3, 2, .inr (.inr (.inr (.inr (fun j => some (E.2.1 (109 + 6 * j)))))))
  | 12 => .inl (E.2.2 2, 2, .inl f)
  | 13 => .inr (8, zsi E.2.1 f)
  | 14 => .inl (E.2.2 0, 6, .inl f)
  | 15 => .inl (E.2.2 0, 6, .inl f)
  | 16 => .inl (E.2.2 0, 6, .inl f)
  | 17 => .inl (E.2.2 1, 82, .inr (.inl g))
  | 18 => .inl (E.2.2 4, 6, .inr (.inr (.inr (.inr (fun j => some (E.2.1 (19 + j)))))))
  | 19 => .inr (2, [.long (g 0)])
  | 20 => .inr (0, [.long (g 0)])
  | 21 => .inr (4, [.long (g 0)])
  | 22 => .inr (1, [.long (g 0)])
  | 23 => .inr (3, [.long (g 0)])
  | 24 => .inr (9, [.long (g 0)])
  | 25 => .inr (12, zmd E.2.1 f g)
  | 26 => .inl (E.2.2 0, 6, .inl f)
  | 27 => .inl (E.2.2 0, 6, .inl f)
  | 28 => .inl (E.2.2 0, 47, .inl f)
  | 29 => .inl (E.2.2 0, 47, .inl f)
  | 30 => .inl (E.2.2 0, 470, .inl f)
  | 31 => .inl (E.2.2 0, 94, .inl f)
  | 32 => .inl (E.2.2 2, 2, .inl f)
  | 33 => .inl (E.2.2 0, 18, .inl f)
  | 34 => .inl (E.2.2 0, 100, .inl f)
  | 35 => .inl (E.2.2 0, 6, .inl f)
  | _ => .inl (E.2.2 0, 6, .inl f)
def zc (E : zE) (k : Nat) (f : Nat → Int32) (g : Nat → Int64) : va_E := if k < 37 then zfix E f g k else if (k - 37) % 6 = 0 then .inr (5, zmo E.2.1 k f) else .inl (E.2.2 0, 9, .inl f)
/-- a place of a moment, of a plan -/
def zmp (c : Nat) : Prop := 37 ≤ c ∧ c < 121 ∧ (c - 37) % 6 = 0
def zpp (c : Nat) : Prop := c = 3 ∨ c = 6
theorem zmp.lt {c : Nat} (h : zmp c) : c < 121 := h.2.1
theorem zmp.lt' {c : Nat} (h : zmp c) (j : Nat) (hj : j < 6) : c + j < 121 := by
  obtain ⟨h1, h2, h3⟩ := h
  omega
theorem zpp.lt {c : Nat} (h : zpp c) : c < 121 := by
  rcases h with h | h <;> omega
theorem zpp.lt' {c : Nat} (h : zpp c) (j : Nat) (hj : j < 3) : c + j < 121 := by
  rcases h with h | h <;> omega
theorem zmp.c {c : Nat} (h : zmp c) (E : zE) (f : Nat → Int32) (g : Nat → Int64) : zc E c f g = .inr (5, zmo E.2.1 c f) := by
  obtain ⟨h1, h2, h3⟩ := h
  rw [zc, if_neg (by omega), if_pos h3]
theorem zmp.a {c : Nat} (h : zmp c) {j : Nat} (h0 : 0 < j) (hj : j < 6) (E : zE) (f : Nat → Int32) (g : Nat → Int64) : zc E (c + j) f g = .inl (E.2.2 0, 9, .inl f) := by
  obtain ⟨h1, h2, h3⟩ := h
  rw [zc, if_neg (by omega), if_neg (by omega)]
theorem zpp.c {c : Nat} (h : zpp c) (E : zE) (f : Nat → Int32) (g : Nat → Int64) : zc E c f g = .inr (7, zpl E.2.1 c f) := by
  rcases h with rfl | rfl <;> rfl
theorem zpp.a {c : Nat} (h : zpp c) {j : Nat} (h0 : 0 < j) (hj : j < 3) (E : zE) (f : Nat → Int32) (g : Nat → Int64) : zc E (c + j) f g = .inl (E.2.2 0, 6, .inl f) := by
  rcases h with rfl | rfl <;> rcases (show j = 1 ∨ j = 2 by omega) with rfl | rfl <;> rfl
/-- a place of a row of ints, of length n -/
def zia (a n : Nat) : Prop := a < 121 ∧ ∀ (E : zE) (f : Nat → Int32) (g : Nat → Int64), zc E a f g = .inl (E.2.2 0, n, .inl f)
theorem zmp.ia {c : Nat} (h : zmp c) {j : Nat} (h0 : 0 < j) (hj : j < 6) : zia (c + j) 9 := ⟨h.lt' j hj, fun E f g => h.a h0 hj E f g⟩
theorem zpp.ia {c : Nat} (h : zpp c) {j : Nat} (h0 : 0 < j) (hj : j < 3) : zia (c + j) 6 := ⟨h.lt' j hj, fun E f g => h.a h0 hj E f g⟩
/-- the world -/
def zl (E : zE) (M : zM) : va_W := (List.range 121).map (fun k => (E.2.1 k, zc E k (M.1 k) (M.2 k)))
def zA (E : zE) : Nat → Prop := fun q => ∃ k, k < 121 ∧ q = E.2.1 k
def zI (E : zE) : Prop := ∀ i j, i < 121 → j < 121 → E.2.1 i = E.2.1 j → i = j
def zt (E : zE) : List (ClassId × FieldType) := [(E.2.2 0, .int), (E.2.2 1, .long), (E.2.2 2, .boolean), (E.2.2 3, .object "WingDoor$Moment"), (E.2.2 4, .object "WingDoor$DoorKind")]
def zr (M : zM) (k : Nat) (f : Nat → Int32) : zM := (fun q => if q = k then f else M.1 q, M.2)
def zrL (M : zM) (k : Nat) (g : Nat → Int64) : zM := (M.1, fun q => if q = k then g else M.2 q)
def zs (M : zM) (k j : Nat) (v : Int32) : zM := zr M k (upd (M.1 k) j v)
def zsL (M : zM) (k j : Nat) (v : Int64) : zM := zrL M k (vp_updL (M.2 k) j v)
theorem zl_at {E : zE} {M : zM} {k : Nat} (hk : k < 121) : (zl E M)[k]? = some (E.2.1 k, zc E k (M.1 k) (M.2 k)) := by
  rw [zl, List.getElem?_map, List.getElem?_range hk]
  rfl
theorem zl_len {E : zE} {M : zM} : (zl E M).length = 121 := by rw [zl, List.length_map, List.length_range]
theorem zl_of {E : zE} {M : zM} {k : Nat} {q : Nat × va_E} (h : (zl E M)[k]? = some q) : k < 121 ∧ q = (E.2.1 k, zc E k (M.1 k) (M.2 k)) := by
  have hk : k < 121 := by
    have := (List.getElem?_eq_some_iff.mp h).1
    rwa [zl_len] at this
  rw [zl_at hk] at h
  exact ⟨hk, (Option.some.inj h).symm⟩
theorem zl_setG {E : zE} {M M' : zM} {k : Nat} {e : va_E} (hk : k < 121) (he : e = zc E k (M'.1 k) (M'.2 k)) (h1 : ∀ q, q ≠ k → M'.1 q = M.1 q) (h2 : ∀ q, q ≠ k → M'.2 q = M.2 q) : (zl E M).set k (E.2.1 k, e) = zl E M' := by
  apply List.ext_getElem?
  intro i
  by_cases hi : i < 121
  · rw [zl_at hi]
    by_cases hik : k = i
    · subst hik
      rw [List.getElem?_set_self (by rw [zl_len]; exact hk), he]
    · rw [List.getElem?_set_ne hik, zl_at hi, h1 i (fun h => hik h.symm), h2 i (fun h => hik h.symm)]
  · rw [List.getElem?_eq_none (by rw [List.length_set, zl_len]; omega), List.getElem?_eq_none (by rw [zl_len]; omega)]
theorem zl_set {E : zE} {M : zM} {k : Nat} {f : Nat → Int32} {e : va_E} (hk : k < 121) (he : e = zc E k f (M.2 k)) : (zl E M).set k (E.2.1 k, e) = zl E (zr M k f) := by
  refine zl_setG hk ?_ (fun q hq => ?_) (fun q _ => rfl)
  · rw [he]; simp [zr]
  · simp [zr, hq]
theorem zl_setL {E : zE} {M : zM} {k : Nat} {g : Nat → Int64} {e : va_E} (hk : k < 121) (he : e = zc E k (M.1 k) g) : (zl E M).set k (E.2.1 k, e) = zl E (zrL M k g) := by
  refine zl_setG hk ?_ (fun q _ => rfl) (fun q hq => ?_)
  · rw [he]; simp [zrL]
  · simp [zrL, hq]
theorem zl_D {E : zE} (hI : zI E) (M : zM) : va_D (zA E) (zl E M) := by
  refine ⟨fun i j p q hp hq e => ?_, fun k q hq => ?_⟩
  · obtain ⟨h1, rfl⟩ := zl_of hp
    obtain ⟨h2, rfl⟩ := zl_of hq
    exact hI i j h1 h2 e
  · obtain ⟨h1, rfl⟩ := zl_of hq
    exact ⟨k, h1, rfl⟩
