/-! the objects of the kinds: one field each, declared by the class above all -/
def zkk (k ci : Nat) (Cn : String) (Tk : u_T) : Prop := k < 121 ∧ (∀ (E : zE) (f : Nat → Int32) (g : Nat → Int64), zc E k f g = .inr (ci, [.long (g 0)])) ∧ vwCl[ci]? = some (Cn, Tk, 1) ∧ (∀ w ∈ u_ws Cn Tk 1, w ∈ zG) ∧ Tk 0 = ("WingDoor$DoorKind", "noted", "J", false)
def zkd (k : Nat) : Prop := ∃ (ci : Nat) (Cn : String) (Tk : u_T), zkk k ci Cn Tk
theorem zkk_19 : zkk 19 2 RX2 TX2 := ⟨by decide, fun _ _ _ => rfl, rfl, zin_X2, rfl⟩
theorem zkk_20 : zkk 20 0 RX0 TX0 := ⟨by decide, fun _ _ _ => rfl, rfl, zin_X0, rfl⟩
theorem zkk_21 : zkk 21 4 RX4 TX4 := ⟨by decide, fun _ _ _ => rfl, rfl, zin_X4, rfl⟩
theorem zkk_22 : zkk 22 1 RX1 TX1 := ⟨by decide, fun _ _ _ => rfl, rfl, zin_X1, rfl⟩
theorem zkk_23 : zkk 23 3 RX3 TX3 := ⟨by decide, fun _ _ _ => rfl, rfl, zin_X3, rfl⟩
theorem zkk_24 : zkk 24 9 RX9 TX9 := ⟨by decide, fun _ _ _ => rfl, rfl, zin_X9, rfl⟩
theorem zkk.d {k ci : Nat} {Cn : String} {Tk : u_T} (h : zkk k ci Cn Tk) : zkd k := ⟨ci, Cn, Tk, h⟩
theorem zkd_of {j : Nat} (h : j < 6) : zkd (19 + j) := by
  rcases (show j = 0 ∨ j = 1 ∨ j = 2 ∨ j = 3 ∨ j = 4 ∨ j = 5 by omega) with rfl | rfl | rfl | rfl | rfl | rfl
  · exact zkk_19.d
  · exact zkk_20.d
  · exact zkk_21.d
  · exact zkk_22.d
  · exact zkk_23.d
  · exact zkk_24.d
section ZKINDS
variable {X : zX} {E : zE} {cc : ByteArray} {nL : Nat} {own : String} {rt : Option FieldType} {d : Nat} {Q : State → Prop} {M : zM} {pc : Nat} {lv lv' : List (Nat × Value)} {st : List Value}
theorem zw_kget (C : zC X E cc nL own rt d) {b idx : Nat} {ref : String} (hb : zkd b) (hlink : Cond.fieldLink own idx ref "noted" "J" ∈ zG) (hs : ref = "WingDoor$DoorKind" ∨ Cond.sameField ref "WingDoor$DoorKind" "noted" "J" ∈ zG) (hd : decode cc pc = .ok (.getfield idx, 3)) (k : zW X E Q M (pc + 3) lv (.long (M.2 b 0) :: st)) : zW X E Q M pc lv (.ref (E.2.1 b) :: st) := by
  obtain ⟨ci, Cn, Tk, h1, h2, h3, h4, h5⟩ := hb
  intro H locs ls hP hS h
  refine va_get (v := .long (M.2 b 0)) (ref := ref) C.1 C.2.1 C.2.2.2.2.1 h4 C.2.2.2.1 C.2.2.2.2.2.1 hP b ((zl_at h1).trans (by rw [h2])) h3 0 (by decide) (by rw [h5]; exact C.2.2.2.2.1 _ hlink) (by
    rw [h5]
    rcases hs with rfl | hs
    · exact fun _ h9 => h9
    · exact u_same (C.2.2.2.2.1 _ hs)) rfl hd (k H locs ls hP hS h)
theorem zw_kput (C : zC X E cc nL own rt d) {b idx : Nat} {ref : String} {x : Int64} (hb : zkd b) (hlink : Cond.fieldLink own idx ref "noted" "J" ∈ zG) (hs : ref = "WingDoor$DoorKind" ∨ Cond.sameField ref "WingDoor$DoorKind" "noted" "J" ∈ zG) (hd : decode cc pc = .ok (.putfield idx, 3)) (k : zW X E Q (zsL M b 0 x) (pc + 3) lv st) : zW X E Q M pc lv (.long x :: .ref (E.2.1 b) :: st) := by
  obtain ⟨ci, Cn, Tk, h1, h2, h3, h4, h5⟩ := hb
  intro H locs ls hP hS h
  refine va_put (v := .long x) (ty := .long) (ref := ref) C.1 C.2.1 C.2.2.2.2.1 h4 (fun _ => .long) (fun k hk => by rw [show k = 0 from Nat.lt_one_iff.mp hk, h5]; rfl) (fun a ha b hb hab => by omega) C.2.2.2.1 C.2.2.2.2.2.1 hP (zl_D C.2.2.2.2.2.2.2.1 M) hS b ((zl_at h1).trans (by rw [h2])) h3 0 (by decide) (by rw [h5]; exact C.2.2.2.2.1 _ hlink) (by
    rw [h5]
    rcases hs with rfl | hs
    · exact fun _ h9 => h9
    · exact u_same (C.2.2.2.2.1 _ hs)) (by rw [h5]) (by rw [h5]; rfl) rfl rfl (Nat.le_of_ble_eq_true rfl) hd (fun H locs hP hD hS => k H locs ls ?_ hS h)
  rw [show ([Value.long (M.2 b 0)] : List Value).set 0 (.long x) = [.long (vp_updL (M.2 b) 0 x 0)] from rfl, zl_setL h1 (h2 _ _ _).symm] at hP
  exact hP
/-- what a superclass's method needs -/
def zKU (y : MethodName) (bytes : ByteArray) (mL : Nat) (ret : Option FieldType) (n : Nat) : Prop := (Cond.instanceMethod y ∈ zG ∧ Cond.sameMethod y.cls y.cls y.name y.desc ∈ zG ∧ Cond.initialized y.cls ∈ zG ∧ Cond.code y bytes mL ret ∈ zG) ∧ (y.name ≠ "<init>" ∧ (parseMethodDescriptor y.desc).map (fun d => d.parameters.length) = some n) ∧ mL ≤ 21
theorem zw_callSU (C : zC X E cc nL own rt d) {y : MethodName} {bytes : ByteArray} {mL : Nat} {ret : Option FieldType} {d' n idx b : Nat} {As st0 : List Value} {M1 : zM} {v : Value} (hM : zMet X.2.1 E y bytes mL ret d' (.ref (E.2.1 b) :: As) M M1 (some v)) (hk : zKU y bytes mL ret n) (hlink : Cond.methodLink own idx y ∈ zG) (hsup : Cond.superclass own y.cls ∈ zG) (hdd : d' < d) (hb : zkd b) (hn : As.length = n) (hst0 : st0 = As.reverse ++ .ref (E.2.1 b) :: st) (hst : (st.map fun v => v.category).sum ≤ 8) (hd : decode cc pc = .ok (.invokespecial idx, 3)) (k : zW X E Q M1 (pc + 3) lv (v :: st)) : zW X E Q M pc lv st0 := by
  obtain ⟨ci, Cn, Tk, h1, h2, h3, h4, h5⟩ := hb
  have h9 := C.2.2.2.2.2.2.2.2.2.1
  refine zw_run (rv := some v) (fun H locs ls hP h => va_runSU (C := Cn) (cC := E.1.1 ci) (As := As) (rest := st) (nL := X.2.2.2.2.2.2.2.2.2.1.maxLocals) (C.2.2.2.2.2.1.1 ci _ h3).2 ⟨C.1, C.2.1, rfl, C.2.2.2.1, C.2.2.2.2.1⟩ hM (va_cwSU n C.2.2.2.2.1 (zw_sub (fun w hw => ?_) (fun _ h => h)) rfl rfl rfl hk.2.1 ⟨?_, ?_⟩) (zw_preV (q := (Cn, Tk, 1)) C hP h1 (h2 E) h3) rfl hn h.1 hst0 (lv_room hst) hd ⟨C.2.2.2.2.2.2.2.2.1.1, C.2.2.2.2.2.2.2.2.1.2⟩) k
  · rcases List.mem_append.mp hw with hw | hw
    · simp only [List.mem_cons, List.not_mem_nil, or_false] at hw
      rcases hw with rfl | rfl | rfl | rfl | rfl
      · exact hlink
      · exact hk.1.2.1
      · exact hsup
      · exact hk.1.1
      · exact hk.1.2.2.1
    · rcases List.mem_cons.mp hw with rfl | hw
      · exact hk.1.2.2.2
      · exact hw
  · show d' + 1 ≤ _
    omega
  · show 8 + (mL + 11) + 40 * d' ≤ _
    have := hk.2.2
    omega
/-- a method that overrides the one that the call names -/
theorem zw_callU (C : zC X E cc nL own rt d) {x y : MethodName} {owner Cn : String} {bytes b0 : ByteArray} {mL m0 : Nat} {ret r0 : Option FieldType} {d' n idx b ci : Nat} {Tk : u_T} {As st0 : List Value} {M1 : zM} {v : Value} (hM : zMet X.2.1 E y bytes mL ret d' (.ref (E.2.1 b) :: As) M M1 (some v)) (hlink : Cond.methodLink own idx x ∈ zG) (hsame : Cond.sameMethod x.cls owner x.name x.desc ∈ zG) (ho : Cond.instanceMethod ⟨owner, x.name, x.desc⟩ ∈ zG) (hoc : Cond.code ⟨owner, x.name, x.desc⟩ b0 m0 r0 ∈ zG) (hsel : Cond.selects Cn x y ∈ zG) (hin : Cond.instanceMethod y ∈ zG) (hini : Cond.initialized y.cls ∈ zG) (hcode : Cond.code y bytes mL ret ∈ zG) (hnm : owner ≠ "java/lang/invoke/MethodHandle" ∧ owner ≠ "java/lang/invoke/VarHandle" ∧ (parseMethodDescriptor x.desc).map (fun d => d.parameters.length) = some n) (hm : mL ≤ 21) (hdd : d' < d) (hb : zkk b ci Cn Tk) (hn : As.length = n) (hst0 : st0 = As.reverse ++ .ref (E.2.1 b) :: st) (hst : (st.map fun v => v.category).sum ≤ 8) (hd : decode cc pc = .ok (.invokevirtual idx, 3)) (k : zW X E Q M1 (pc + 3) lv (v :: st)) : zW X E Q M pc lv st0 := by
  obtain ⟨h1, h2, h3, h4, h5⟩ := hb
  have h9 := C.2.2.2.2.2.2.2.2.2.1
  refine zw_run (rv := some v) (fun H locs ls hP h => va_runU (C := Cn) (owner := owner) (x := x) (As := As) (rest := st) (nL := X.2.2.2.2.2.2.2.2.2.1.maxLocals) ⟨C.1, C.2.1, rfl, C.2.2.2.1, C.2.2.2.2.1⟩ hM (va_cwO n C.2.2.2.2.1 (zw_sub (fun w hw => ?_) (fun _ h => h)) rfl rfl rfl hoc hnm ⟨?_, ?_⟩) (zw_preV (q := (Cn, Tk, 1)) C hP h1 (h2 E) h3) rfl hn h.1 hst0 (lv_room hst) hd ⟨C.2.2.2.2.2.2.2.2.1.1, C.2.2.2.2.2.2.2.2.1.2⟩) k
  · rcases List.mem_append.mp hw with hw | hw
    · simp only [List.mem_cons, List.not_mem_nil, or_false] at hw
      rcases hw with rfl | rfl | rfl | rfl | rfl | rfl
      · exact hlink
      · exact hsame
      · exact ho
      · exact hsel
      · exact hin
      · exact hini
    · rcases List.mem_cons.mp hw with rfl | hw
      · exact hcode
      · exact hw
  · show d' + 1 ≤ _
    omega
  · show 8 + (mL + 11) + 40 * d' ≤ _
    omega
end ZKINDS
