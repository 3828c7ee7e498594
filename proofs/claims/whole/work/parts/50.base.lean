/-! pure helpers: folds, loops, small numbers -/
theorem zg_t {α : Type} {b : Bool} {k : Option α} (h : b = true) : zg b k = k := by
  rw [h]
  rfl
theorem zin_t {j N : Nat} (h : j < N) (hN : N < 2 ^ 31) : zin (nI j) N = true := decide_eq_true (nI_in h hN)
theorem zg_in {α : Type} {j N : Nat} {k : Option α} (h : j < N) (hN : N < 2 ^ 31) : zg (zin (nI j) N) k = k := zg_t (zin_t h hN)
theorem zbi_s {α β : Type} {x : α} {M : zM} {k : α → zM → Option β} : zbi (some (x, M)) k = k x M := rfl
theorem zbv_s {β : Type} {M : zM} {k : zM → Option β} : zbv (some M) k = k M := rfl
def zfo {α : Type} (F : Nat → α → α) : Nat → α → α
  | 0, a => a
  | n + 1, a => F n (zfo F n a)
theorem zfo_congr {α : Type} {F F' : Nat → α → α} : ∀ {n : Nat} {a : α}, (∀ j a, j < n → F j a = F' j a) → zfo F n a = zfo F' n a
  | 0, _, _ => rfl
  | n + 1, a, h => by
    show F n (zfo F n a) = F' n (zfo F' n a)
    rw [zfo_congr (fun j a hj => h j a (Nat.lt_succ_of_lt hj)), h n _ (Nat.lt_succ_self n)]
theorem zfo_inv {α : Type} {F : Nat → α → α} {I : Nat → α → Prop} : ∀ {n : Nat} {a : α}, I 0 a → (∀ j a, j < n → I j a → I (j + 1) (F j a)) → I n (zfo F n a)
  | 0, _, h, _ => h
  | n + 1, a, h, hs => hs n _ (Nat.lt_succ_self n) (zfo_inv h (fun j a hj => hs j a (Nat.lt_succ_of_lt hj)))
/-- a loop that counts up to G -/
theorem zloop {α R : Type} (L : Nat → α → Int32 → R) (F : Nat → α → α) (I : Nat → α → Prop) (out : α → R) (G : Nat) (hs : ∀ n j a, j < G → I j a → L (n + 1) a (nI j) = L n (F j a) (nI (j + 1)) ∧ I (j + 1) (F j a)) (he : ∀ n a, I G a → L (n + 1) a (nI G) = out a) {a0 : α} (h0 : I 0 a0) {n : Nat} (hn : G < n) : L n a0 0 = out (zfo F G a0) := by
  have key : ∀ k j n, j + k = G → k < n → I j (zfo F j a0) → L n (zfo F j a0) (nI j) = out (zfo F G a0) := by
    intro k
    induction k with
    | zero =>
      intro j n hj hn hi
      obtain ⟨n, rfl⟩ : ∃ m, n = m + 1 := ⟨n - 1, by omega⟩
      obtain rfl : j = G := by omega
      exact he n _ hi
    | succ k ih =>
      intro j n hj hn hi
      obtain ⟨n, rfl⟩ : ∃ m, n = m + 1 := ⟨n - 1, by omega⟩
      obtain ⟨h1, h2⟩ := hs n j _ (by omega) hi
      rw [h1]
      exact ih (j + 1) n (by omega) (by omega) h2
  have := key G 0 n (by omega) hn h0
  rw [nI_0] at this
  exact this
theorem zloop0 {α R : Type} (L : Nat → α → Int32 → R) (F : Nat → α → α) (out : α → R) (G : Nat) (hs : ∀ n j a, j < G → L (n + 1) a (nI j) = L n (F j a) (nI (j + 1))) (he : ∀ n a, L (n + 1) a (nI G) = out a) {a0 : α} {n : Nat} (hn : G < n) : L n a0 0 = out (zfo F G a0) :=
  zloop L F (fun _ _ => True) out G (fun n j a hj _ => ⟨hs n j a hj, trivial⟩) (fun n a _ => he n a) trivial hn
theorem zFU_gt {G : Nat} (h : G ≤ 1000) : G < zFU := by
  show G < 2000
  omega
theorem nI_lit (n : Nat) : (OfNat.ofNat n : Int32) = nI n := rfl
theorem nI_t {n : Nat} (h : n < 2 ^ 31) : (nI n).toInt = (n : Int) := nI_toInt h
theorem i_lt (a b : Int32) : a < b ↔ a.toInt < b.toInt := Int32.lt_iff_toInt_lt
theorem i_le (a b : Int32) : a ≤ b ↔ a.toInt ≤ b.toInt := Int32.le_iff_toInt_le
theorem i_eq (a b : Int32) : a = b ↔ a.toInt = b.toInt := Int32.toInt_inj.symm
theorem i_nlt {a b : Int32} : ¬ a < b ↔ b ≤ a := Int32.not_lt
theorem i_nle {a b : Int32} : ¬ a ≤ b ↔ b < a := Int32.not_le
/-- the memory behind a write -/
theorem zs1 (M : zM) (k j : Nat) (v : Int32) (q i : Nat) : (zs M k j v).1 q i = if q = k then (if i = j then v else M.1 k i) else M.1 q i := by
  unfold zs zr upd
  by_cases h : q = k
  · simp [h]
  · simp [h]
theorem zs2 (M : zM) (k j : Nat) (v : Int32) : (zs M k j v).2 = M.2 := rfl
theorem zs_row (M : zM) (k j : Nat) (v : Int32) : (zs M k j v).1 k = upd (M.1 k) j v := by
  unfold zs zr
  simp
theorem zs_ne {M : zM} {k j : Nat} {v : Int32} {q : Nat} (h : q ≠ k) : (zs M k j v).1 q = M.1 q := by
  unfold zs zr
  simp [h]
theorem zr_row (M : zM) (k : Nat) (f : Nat → Int32) : (zr M k f).1 k = f := by
  unfold zr
  simp
theorem zr_ne {M : zM} {k : Nat} {f : Nat → Int32} {q : Nat} (h : q ≠ k) : (zr M k f).1 q = M.1 q := by
  unfold zr
  simp [h]
theorem zr2 (M : zM) (k : Nat) (f : Nat → Int32) : (zr M k f).2 = M.2 := rfl
theorem upd_s (f : Nat → Int32) (k : Nat) (v : Int32) : upd f k v k = v := by simp [upd]
theorem upd_n {f : Nat → Int32} {k j : Nat} {v : Int32} (h : j ≠ k) : upd f k v j = f j := by simp [upd, h]
theorem zr_zr (M : zM) (k : Nat) (f g : Nat → Int32) : zr (zr M k f) k g = zr M k g := by
  unfold zr
  refine Prod.ext ?_ rfl
  funext q
  by_cases h : q = k <;> simp [h]
theorem zr_comm (M : zM) {k j : Nat} (h : k ≠ j) (f g : Nat → Int32) : zr (zr M k f) j g = zr (zr M j g) k f := by
  unfold zr
  refine Prod.ext ?_ rfl
  funext q
  by_cases h1 : q = k
  · subst h1
    simp [h]
  · by_cases h2 : q = j
    · subst h2
      simp [h1]
    · simp [h1, h2]
theorem zr_self (M : zM) (k : Nat) : zr M k (M.1 k) = M := by
  unfold zr
  refine Prod.ext ?_ rfl
  funext q
  by_cases h : q = k <;> simp [h]
/-- one of nine -/
def zbit (j : Nat) : Int32 := (1 : Int32) <<< (nI j &&& 31)
theorem nI_m1 {f : Nat} (h : f < 2 ^ 31) : ¬ nI f = (-1 : Int32) := by
  intro e
  have := congrArg Int32.toInt e
  rw [nI_t h] at this
  have h2 : (-1 : Int32).toInt = -1 := by decide
  omega
theorem nI_m9 {f : Nat} (h : f < 2 ^ 31) : ¬ nI f = (-9 : Int32) := by
  intro e
  have := congrArg Int32.toInt e
  rw [nI_t h] at this
  have h2 : (-9 : Int32).toInt = -9 := by decide
  omega
