/-! what is made: a block of cells from the address b on, in the order of their making -/
def ycw (b : Nat) (cs : List va_E) : va_W := cs.zipIdx.map (fun q => (b + q.2, q.1))
theorem ycw_get (b : Nat) (cs : List va_E) (k : Nat) : (ycw b cs)[k]? = (cs[k]?).map (fun e => (b + k, e)) := by
  rw [ycw, List.getElem?_map, List.getElem?_zipIdx]
  cases cs[k]? with
  | none => rfl
  | some e => simp
theorem ycw_at {b : Nat} {cs : List va_E} {k : Nat} {e : va_E} (h : cs[k]? = some e) : (ycw b cs)[k]? = some (b + k, e) := by rw [ycw_get, h]; rfl
theorem ycw_of {b : Nat} {cs : List va_E} {k : Nat} {q : Nat × va_E} (h : (ycw b cs)[k]? = some q) : ∃ e, cs[k]? = some e ∧ q = (b + k, e) := by
  rw [ycw_get] at h
  cases hc : cs[k]? with
  | none => rw [hc] at h; cases h
  | some e => rw [hc] at h; exact ⟨e, rfl, (Option.some.inj h).symm⟩
theorem ycw_len (b : Nat) (cs : List va_E) : (ycw b cs).length = cs.length := by rw [ycw, List.length_map, List.length_zipIdx]
theorem ycw_set {b : Nat} {cs : List va_E} {k : Nat} {e : va_E} : (ycw b cs).set k (b + k, e) = ycw b (cs.set k e) := by
  apply List.ext_getElem?
  intro i
  rw [ycw_get]
  by_cases hi : k = i
  · subst hi
    by_cases hk : k < cs.length
    · rw [List.getElem?_set_self (by rw [ycw_len]; exact hk), List.getElem?_set_self hk]; rfl
    · rw [List.getElem?_eq_none (by rw [List.length_set, ycw_len]; omega), List.getElem?_eq_none (by rw [List.length_set]; omega)]; rfl
  · rw [List.getElem?_set_ne hi, List.getElem?_set_ne hi, ycw_get]
theorem ycw_D (b : Nat) (cs : List va_E) : va_D (fun q => b ≤ q) (ycw b cs) := by
  refine ⟨fun i j p q hp hq e => ?_, fun k q hq => ?_⟩
  · obtain ⟨e1, h1, rfl⟩ := ycw_of hp
    obtain ⟨e2, h2, rfl⟩ := ycw_of hq
    dsimp only at e
    omega
  · obtain ⟨e1, h1, rfl⟩ := ycw_of hq
    show b ≤ b + k
    omega
theorem ycw_size {D : va_G} {cl : List vw_C} {b : Nat} {cs : List va_E} {H : Heap} (hP : va_P D cl (ycw b cs) H) (hc : 0 < cs.length) : b + cs.length ≤ H.size := by
  have h1 : cs[cs.length - 1]? = some (cs[cs.length - 1]'(by omega)) := List.getElem?_eq_getElem (by omega)
  have h2 := (hP (cs.length - 1) _ (ycw_at h1)).lt
  dsimp only at h2
  omega
theorem ycw_addr {A : Nat → Prop} {b q : Nat} {cs : List va_E} {e : va_E} (hD : va_D A (ycw b cs ++ [(q, e)])) (h1 : b ≤ q) (h2 : q ≤ b + cs.length) : q = b + cs.length := by
  by_cases h : q < b + cs.length
  · have h3 : q - b < cs.length := by omega
    have h4 : (ycw b cs ++ [(q, e)])[q - b]? = some (b + (q - b), cs[q - b]) := by
      rw [List.getElem?_append_left (by rw [ycw_len]; exact h3)]
      exact ycw_at (List.getElem?_eq_getElem h3)
    have h5 : (ycw b cs ++ [(q, e)])[cs.length]? = some (q, e) := by
      rw [List.getElem?_append_right (by rw [ycw_len]; omega), ycw_len, Nat.sub_self]
      rfl
    have := hD.1 _ _ _ _ h4 h5 (by dsimp only; omega)
    omega
  · omega
theorem ycw_snoc (b : Nat) (cs : List va_E) (e : va_E) : ycw b cs ++ [(b + cs.length, e)] = ycw b (cs ++ [e]) := by
  apply List.ext_getElem?
  intro i
  rw [ycw_get]
  by_cases h : i < cs.length
  · rw [List.getElem?_append_left (by rw [ycw_len]; exact h), List.getElem?_append_left h, ycw_get]
  · rw [List.getElem?_append_right (by rw [ycw_len]; omega), List.getElem?_append_right (by omega), ycw_len]
    by_cases h2 : i = cs.length
    · subst h2
      rw [Nat.sub_self]
      rfl
    · rw [List.getElem?_eq_none (by rw [List.length_singleton]; omega), List.getElem?_eq_none (by rw [List.length_singleton]; omega)]
      rfl
theorem ycw_join {D : va_G} {cl : List vw_C} {b : Nat} {cs0 cs1 : List va_E} {e0 : va_E} {H H1 : Heap} (hP : va_P D cl (ycw b (cs0 ++ [e0])) H) (hz : H.size = b + (cs0 ++ [e0]).length) (hk : ∀ q : Nat, q < H.size → ¬ b + cs0.length ≤ q → H1[q]? = H[q]?) (hP1 : va_P D cl (ycw (b + cs0.length) cs1) H1) : va_P D cl (ycw b (cs0 ++ cs1)) H1 := by
  intro k q hq
  obtain ⟨e2, h2, rfl⟩ := ycw_of hq
  by_cases h : k < cs0.length
  · rw [List.getElem?_append_left h] at h2
    refine (hP k _ (ycw_at (e := e2) (by rw [List.getElem?_append_left h]; exact h2))).kept (hk _ ?_ ?_)
    · show b + k < _
      rw [hz, List.length_append]
      omega
    · show ¬ b + cs0.length ≤ b + k
      omega
  · rw [List.getElem?_append_right (by omega)] at h2
    have := hP1 (k - cs0.length) _ (ycw_at h2)
    rw [show b + cs0.length + (k - cs0.length) = b + k by omega] at this
    exact this
def yP (E : zE) (b : Nat) (cs : List va_E) (U : State) : Prop := U.heap.size = b + cs.length ∧ va_P E.1 vwCl (ycw b cs) U.heap ∧ va_K E.1 vwCl (zt E) U ∧ zN U
def yQ (E : zE) (b : Nat) (cs : List va_E) : Array Value → State → Outcome → State → Prop := fun _ st oc t => oc = .returned none ∧ va_P E.1 vwCl (ycw b cs) t.heap ∧ va_F (fun q => b ≤ q) st t
def yR (d mc ms : Nat) : Room := { frames := d, cells := mc, slots := ms, locals := 40 * d }
def yMet (l : Launch) (E : zE) (y : MethodName) (cc : ByteArray) (mL d : Nat) (avs : List Value) (b : Nat) (cs cs' : List va_E) (mc ms : Nat) : Prop :=
  Met l y (.code y cc mL none :: zG) (yR d mc ms) (va_Pc avs (yP E b cs)) (yQ E b cs') mc ms (fun q => b ≤ q)
def yW (X : zX) (E : zE) (b : Nat) (Q : State → Prop) (cs : List va_E) (n1 n2 : Nat) (pc : Nat) (lv : List (Nat × Value)) (st : List Value) : Prop :=
  ∀ (H : Heap) (locs : List Loc) (ls : Array Slot), va_P E.1 vwCl (ycw b cs) H → va_S (fun q => b ≤ q) X.2.2.2.2.1.heap H locs → lv_has ls X.2.2.2.2.2.2.2.2.2.1.maxLocals lv → W X.1 X.2.1 X.2.2.1 X.2.2.2.1 X.2.2.2.2.1 X.2.2.2.2.2.1 X.2.2.2.2.2.2.1 X.2.2.2.2.2.2.2.1 X.2.2.2.2.2.2.2.2.1 X.2.2.2.2.2.2.2.2.2.1 H locs n1 n2 Q (F0 X.2.2.2.2.2.1 pc ls st)
def yRQ (X : zX) (E : zE) (b : Nat) (cs : List va_E) (mc ms : Nat) : State → Prop := MQ X.2.2.2.2.2.2.2.1 (yQ E b cs) X.2.2.2.2.2.2.1 X.2.2.2.2.1 mc ms (fun q => b ≤ q)
/-- what a maker's body knows beside: its room, its name, and that nothing of the block was there before it but its own cell -/
abbrev yC (X : zX) (E : zE) (cc : ByteArray) (nL : Nat) (own : String) (d mc ms : Nat) : Prop := zC X E cc nL own none d ∧ mc ≤ X.2.2.2.1.cells ∧ ms ≤ X.2.2.2.1.slots
theorem ym_of {l : Launch} {E : zE} {y : MethodName} {cc : ByteArray} {mL d : Nat} {avs : List Value} {b : Nat} {cs cs' : List va_E} {mc ms : Nat} (hI : zI E) (hy : plainName y.cls = true) (hlen : (lg_sl avs).length ≤ mL)
    (body : ∀ X : zX, X.2.1 = l → yC X E cc mL y.cls d mc ms → X.2.2.2.2.2.2.2.2.1.name = y.name → X.2.2.2.2.1.heap.size = b + cs.length → yW X E b (yRQ X E b cs' mc ms) cs 0 0 0 (lv_args 0 avs) []) : yMet l E y cc mL d avs b cs cs' mc ms := by
  refine Met.ofW (cc := cc) (maxL := mL) (ret := none) hy rfl ?_
  intro p e s m args below meth c s₁ B hml hv
  obtain ⟨rfl, hz, hP, hK, hN⟩ := hv
  have hts := atoms_spec (ws := .code y cc mL none :: zG) B.pre
  have hl := lv_entry avs (n := mL) hlen
  rw [lg_entry_eq]
  have hb := body (p, l, e, yR d mc ms, s, m, avs.toArray, below, meth, c, 0, 0) rfl ⟨⟨B.exec, B.bytes, hml, findClass_of_methodNamed B.named, fun w hw => hts w (List.mem_cons_of_mem _ hw), hK, hN, hI, ⟨Nat.zero_le _, Nat.zero_le _⟩, ⟨Nat.le_refl _, Nat.le_refl _⟩, B.notSynchronized, B.returns⟩, Nat.le_refl _, Nat.le_refl _⟩ (name_of_methodNamed B.named B.method).1 hz
  exact hb s.heap [] _ hP va_S.rf (by show lv_has _ c.maxLocals _; rw [hml]; exact hl)
theorem yM_blind (E : zE) (b : Nat) (cs : List va_E) (avs : List Value) : FrameBlind (va_Pc avs (yP E b cs)) := fun a U g mk q => ⟨q.1, q.2.1, q.2.2.1, va_K.moved (u := U) (U := U.calling g mk a) (Vm.Alike.refl U.vm) q.2.2.2.1, zN.same (u := U) (U := U.calling g mk a) rfl q.2.2.2.2⟩
section YROWS
variable {X : zX} {E : zE} {cc : ByteArray} {nL : Nat} {own : String} {rt : Option FieldType} {d : Nat} {Q : State → Prop} {b : Nat} {cs cs' : List va_E} {n1 n2 : Nat} {pc : Nat} {lv lv' : List (Nat × Value)} {st : List Value}
theorem yw_eq (h : cs = cs') (k : yW X E b Q cs' n1 n2 pc lv st) : yW X E b Q cs n1 n2 pc lv st := by
  subst h
  exact k
theorem yw_iconst (C : zC X E cc nL own rt d) {n : Int} {v : Int32} (hd : decode cc pc = .ok (.iconst n, 1)) (hv : Int32.ofInt n = v) (k : yW X E b Q cs n1 n2 (pc + 1) lv (.int v :: st)) : yW X E b Q cs n1 n2 pc lv st := fun H locs ls hP hS h => lv_iconst C.1 C.2.1 hd hv (k H locs ls hP hS h)
theorem yw_bipush (C : zC X E cc nL own rt d) {n : Int} {v : Int32} (hd : decode cc pc = .ok (.bipush n, 2)) (hv : (Int8.ofInt n).toInt32 = v) (k : yW X E b Q cs n1 n2 (pc + 2) lv (.int v :: st)) : yW X E b Q cs n1 n2 pc lv st := fun H locs ls hP hS h => lv_bipush C.1 C.2.1 hd hv (k H locs ls hP hS h)
theorem yw_sipush (C : zC X E cc nL own rt d) {n : Int} {v : Int32} (hd : decode cc pc = .ok (.sipush n, 3)) (hv : (Int16.ofInt n).toInt32 = v) (k : yW X E b Q cs n1 n2 (pc + 3) lv (.int v :: st)) : yW X E b Q cs n1 n2 pc lv st := fun H locs ls hP hS h => lv_sipush C.1 C.2.1 hd hv (k H locs ls hP hS h)
theorem yw_iload_n (C : zC X E cc nL own rt d) {j : Fin 4} {i : Nat} {x : Int32} (q : Nat) (hl : lv[q]? = some (i, .int x)) (hd : decode cc pc = .ok (.iload_n j, 1)) (hi : (j : Nat) = i) (k : yW X E b Q cs n1 n2 (pc + 1) lv (.int x :: st)) : yW X E b Q cs n1 n2 pc lv st := fun H locs ls hP hS h => lv_iload_n C.1 C.2.1 hd hi (lv_at h q hl) (k H locs ls hP hS h)
theorem yw_aload_n (C : zC X E cc nL own rt d) {j : Fin 4} {i x : Nat} (q : Nat) (hl : lv[q]? = some (i, .ref x)) (hd : decode cc pc = .ok (.aload_n j, 1)) (hi : (j : Nat) = i) (k : yW X E b Q cs n1 n2 (pc + 1) lv (.ref x :: st)) : yW X E b Q cs n1 n2 pc lv st := fun H locs ls hP hS h => lv_aload_n C.1 C.2.1 hd hi (lv_at h q hl) (k H locs ls hP hS h)
theorem yw_istore_n (C : zC X E cc nL own rt d) {j : Fin 4} {i : Nat} {x : Int32} (hd : decode cc pc = .ok (.istore_n j, 1)) (hi : (j : Nat) = i) (hn : i < nL) (hl : (i, Value.int x) :: lv.filter (fun q => !(q.1 == i) && !(q.1 + 1 == i && q.2.category == 2)) = lv') (k : yW X E b Q cs n1 n2 (pc + 1) lv' st) : yW X E b Q cs n1 n2 pc lv (.int x :: st) := fun H locs ls hP hS h => lv_istore_n C.1 C.2.1 hd hi h (by rw [C.2.2.1]; exact hn) hl (fun ls h => k H locs ls hP hS h)
theorem yw_astore_n (C : zC X E cc nL own rt d) {j : Fin 4} {i x : Nat} (hd : decode cc pc = .ok (.astore_n j, 1)) (hi : (j : Nat) = i) (hn : i < nL) (hl : (i, Value.ref x) :: lv.filter (fun q => !(q.1 == i) && !(q.1 + 1 == i && q.2.category == 2)) = lv') (k : yW X E b Q cs n1 n2 (pc + 1) lv' st) : yW X E b Q cs n1 n2 pc lv (.ref x :: st) := fun H locs ls hP hS h => lv_astore_n C.1 C.2.1 hd hi h (by rw [C.2.2.1]; exact hn) hl (fun ls h => k H locs ls hP hS h)
theorem yw_iinc (C : zC X E cc nL own rt d) {i : Nat} {n : Int} {x v : Int32} (q : Nat) (hk : lv[q]? = some (i, .int x)) (hd : decode cc pc = .ok (.iinc i n, 3)) (hv : x + Int32.ofInt n = v) (hn : i < nL) (hl : (i, Value.int v) :: lv.filter (fun q => !(q.1 == i) && !(q.1 + 1 == i && q.2.category == 2)) = lv') (k : yW X E b Q cs n1 n2 (pc + 3) lv' st) : yW X E b Q cs n1 n2 pc lv st := fun H locs ls hP hS h => lv_iinc C.1 C.2.1 hd h hk hv (by rw [C.2.2.1]; exact hn) hl (fun ls h => k H locs ls hP hS h)
theorem yw_dup (C : zC X E cc nL own rt d) {v : Value} (hv : v.category = 1) (hd : decode cc pc = .ok (.dup, 1)) (k : yW X E b Q cs n1 n2 (pc + 1) lv (v :: v :: st)) : yW X E b Q cs n1 n2 pc lv (v :: st) := fun H locs ls hP hS h => lv_dup C.1 C.2.1 hd hv (k H locs ls hP hS h)
theorem yw_goto (C : zC X E cc nL own rt d) {off : Int} {tgt : Nat} (hd : decode cc pc = .ok (.goto off, 3)) (ht : (pc : Int) + off = (tgt : Int)) (k : yW X E b Q cs n1 n2 tgt lv st) : yW X E b Q cs n1 n2 pc lv st := fun H locs ls hP hS h => lv_goto C.1 C.2.1 hd ht (k H locs ls hP hS h)
theorem yw_icmp_geT (C : zC X E cc nL own rt d) {x y : Int32} {off : Int} {tgt : Nat} (hc : y ≤ x) (hd : decode cc pc = .ok (.if_icmp .ge off, 3)) (ht : (pc : Int) + off = (tgt : Int)) (k : yW X E b Q cs n1 n2 tgt lv st) : yW X E b Q cs n1 n2 pc lv (.int y :: .int x :: st) := fun H locs ls hP hS h => lv_icmp_ge C.1 C.2.1 hd ht (fun _ => k H locs ls hP hS h) (fun q => absurd hc q)
theorem yw_icmp_geF (C : zC X E cc nL own rt d) {x y : Int32} {off : Int} {tgt : Nat} (hc : ¬ y ≤ x) (hd : decode cc pc = .ok (.if_icmp .ge off, 3)) (ht : (pc : Int) + off = (tgt : Int)) (k : yW X E b Q cs n1 n2 (pc + 3) lv st) : yW X E b Q cs n1 n2 pc lv (.int y :: .int x :: st) := fun H locs ls hP hS h => lv_icmp_ge C.1 C.2.1 hd ht (fun q => absurd q hc) (fun _ => k H locs ls hP hS h)
theorem yw_get (C : zC X E cc nL own rt d) {i ci N idx : Nat} {Cn : String} {T : u_T} {fs : List Value} (hc : cs[i]? = some (.inr (ci, fs))) (hcl : vwCl[ci]? = some (Cn, T, N)) (hin : ∀ w ∈ u_ws Cn T N, w ∈ zG) (j : Nat) (hj : j < N) (hlink : Cond.fieldLink own idx (T j).1 (T j).2.1 (T j).2.2.1 ∈ zG) {v : Value} (hv : fs[j]? = some v) (hd : decode cc pc = .ok (.getfield idx, 3)) (k : yW X E b Q cs n1 n2 (pc + 3) lv (v :: st)) : yW X E b Q cs n1 n2 pc lv (.ref (b + i) :: st) := fun H locs ls hP hS h => va_get C.1 C.2.1 C.2.2.2.2.1 hin C.2.2.2.1 C.2.2.2.2.2.1 hP i (ycw_at hc) hcl j hj (C.2.2.2.2.1 _ hlink) (fun _ h9 => h9) hv hd (k H locs ls hP hS h)
theorem yw_put (C : zC X E cc nL own rt d) {i ci N idx : Nat} {Cn : String} {T : u_T} {fs : List Value} {v : Value} {ty : FieldType} (hc : cs[i]? = some (.inr (ci, fs))) (hcl : vwCl[ci]? = some (Cn, T, N)) (hin : ∀ w ∈ u_ws Cn T N, w ∈ zG) (ty0 : Nat → FieldType) (hty : ∀ k, k < N → parseFieldDescriptor (T k).2.2.1 = some (ty0 k)) (hnm : ∀ a, a < N → ∀ b, b < N → a ≠ b → (T a).2.1 ≠ (T b).2.1) (j : Nat) (hj : j < N) (hlink : Cond.fieldLink own idx (T j).1 (T j).2.1 (T j).2.2.1 ∈ zG) (hfin : (T j).2.2.2 = false) (hde : parseFieldDescriptor (T j).2.2.1 = some ty) (hn : narrow ty v = v) (hfit : fits ty v = true) (hlen : j < fs.length) (hs : cs.set i (.inr (ci, fs.set j v)) = cs') (hd : decode cc pc = .ok (.putfield idx, 3)) (k : yW X E b Q cs' n1 n2 (pc + 3) lv st) : yW X E b Q cs n1 n2 pc lv (v :: .ref (b + i) :: st) := fun H locs ls hP hS h => va_put C.1 C.2.1 C.2.2.2.2.1 hin ty0 hty hnm C.2.2.2.1 C.2.2.2.2.2.1 hP (ycw_D b cs) hS i (ycw_at hc) hcl j hj (C.2.2.2.2.1 _ hlink) (fun _ h9 => h9) hfin hde hn hfit hlen hd (fun H locs hP hD hS => k H locs ls (by rw [ycw_set, hs] at hP; exact hP) hS h)
theorem yw_putF (C : zC X E cc nL own rt d) {i ci N idx : Nat} {Cn : String} {T : u_T} {fs : List Value} {v : Value} {ty : FieldType} (hnm0 : X.2.2.2.2.2.2.2.2.1.name = "<init>") (hc : cs[i]? = some (.inr (ci, fs))) (hcl : vwCl[ci]? = some (Cn, T, N)) (hin : ∀ w ∈ u_ws Cn T N, w ∈ zG) (ty0 : Nat → FieldType) (hty : ∀ k, k < N → parseFieldDescriptor (T k).2.2.1 = some (ty0 k)) (hnm : ∀ a, a < N → ∀ b, b < N → a ≠ b → (T a).2.1 ≠ (T b).2.1) (j : Nat) (hj : j < N) (hlink : Cond.fieldLink own idx (T j).1 (T j).2.1 (T j).2.2.1 ∈ zG) (hfin : (T j).2.2.2 = true) (hdecl : (T j).1 = own) (hde : parseFieldDescriptor (T j).2.2.1 = some ty) (hn : narrow ty v = v) (hfit : fits ty v = true) (hlen : j < fs.length) (hs : cs.set i (.inr (ci, fs.set j v)) = cs') (hd : decode cc pc = .ok (.putfield idx, 3)) (k : yW X E b Q cs' n1 n2 (pc + 3) lv st) : yW X E b Q cs n1 n2 pc lv (v :: .ref (b + i) :: st) := fun H locs ls hP hS h => va_putF C.1 C.2.1 C.2.2.2.2.1 hin ty0 hty hnm C.2.2.2.1 C.2.2.2.2.2.1 hP (ycw_D b cs) hS i (ycw_at hc) hcl j hj (C.2.2.2.2.1 _ hlink) (fun _ h9 => h9) hfin hnm0 hdecl hde hn hfit hlen hd (fun H locs hP hD hS => k H locs ls (by rw [ycw_set, hs] at hP; exact hP) hS h)
theorem yw_objInit (C : zC X E cc nL own rt d) {a idx : Nat} (hlink : Cond.methodLink own idx objectInit ∈ zG) (hin : Cond.instanceMethod objectInit ∈ zG) (hcode : Cond.code objectInit ⟨#[0xb1]⟩ 1 none ∈ zG) (hd0 : 1 ≤ d) (hst : (st.map fun v => v.category).sum ≤ 8) (hd : decode cc pc = .ok (.invokespecial idx, 3)) (k : yW X E b Q cs n1 n2 (pc + 3) lv st) : yW X E b Q cs n1 n2 pc lv (.ref a :: st) := fun H locs ls hP hS h => by
  have h9 := C.2.2.2.2.2.2.2.2.2.1
  exact W.objInit C.1 C.2.1 C.2.2.2.1 (C.2.2.2.2.1 _ hlink) (C.2.2.2.2.1 _ hin) (C.2.2.2.2.1 _ hcode) rfl h.1 rfl hd (by omega) (by show 2 * 0 + _ + 12 ≤ _; omega) (k H locs ls hP hS h)
theorem yw_return (C : zC X E cc nL own none d) (hd : decode cc pc = .ok (.return_, 1)) : yW X E b (yRQ X E b cs n1 n2) cs n1 n2 pc lv [] := fun H locs ls hP hS h => W.vret C.1 C.2.1 C.2.2.2.2.2.2.2.2.2.2.2 (fun t ht hW => ⟨rfl, by rw [ht]; exact hP, hS.F ht⟩) hS.2.2 hd C.2.2.2.2.2.2.2.2.2.2.1
/-- making: the new cell's address is the next one, since no more cells are there than were counted -/
theorem yw_at (h : X.2.2.2.2.1.heap.size + n1 = b + cs.length) {H : Heap} {locs : List Loc} {g : JFrame} (k : H.size ≤ b + cs.length → W X.1 X.2.1 X.2.2.1 X.2.2.2.1 X.2.2.2.2.1 X.2.2.2.2.2.1 X.2.2.2.2.2.2.1 X.2.2.2.2.2.2.2.1 X.2.2.2.2.2.2.2.2.1 X.2.2.2.2.2.2.2.2.2.1 H locs n1 n2 Q g) : W X.1 X.2.1 X.2.2.1 X.2.2.2.1 X.2.2.2.2.1 X.2.2.2.2.2.1 X.2.2.2.2.2.2.1 X.2.2.2.2.2.2.2.1 X.2.2.2.2.2.2.2.2.1 X.2.2.2.2.2.2.2.2.2.1 H locs n1 n2 Q g := by
  intro T hT Y
  refine k ?_ T hT Y
  have h1 := Y.same.2.2.1
  have h2 : (T.setVm X.2.2.2.2.1.vm).heap = H := hT
  rw [h2] at h1
  omega
theorem yw_last {D : va_G} {cl : List vw_C} {ws : va_W} {q : Nat} {e : va_E} {H : Heap} (hP : va_P D cl (ws ++ [(q, e)]) H) : q < H.size := by
  have h := hP ws.length (q, e) (by rw [List.getElem?_append_right (Nat.le_refl _), Nat.sub_self]; rfl)
  exact h.lt
theorem yw_lastD {A : Nat → Prop} {ws : va_W} {q : Nat} {e : va_E} (hD : va_D A (ws ++ [(q, e)])) : A q := hD.2 ws.length (q, e) (by rw [List.getElem?_append_right (Nat.le_refl _), Nat.sub_self]; rfl)
theorem yw_new (C : zC X E cc nL own rt d) {ci N idx : Nat} {Cn : String} {T : u_T} {fs : List Value} (hz : X.2.2.2.2.1.heap.size + n1 = b + cs.length) (hb : b ≤ X.2.2.2.2.1.heap.size) (hcl : vwCl[ci]? = some (Cn, T, N)) (hin : ∀ w ∈ u_ws Cn T N, w ∈ zG) (ty : Nat → FieldType) (hty : ∀ k, k < N → parseFieldDescriptor (T k).2.2.1 = some (ty k)) (hlink : Cond.classLink own idx Cn ∈ zG) (hinst : Cond.instantiable Cn N ∈ zG) (hini : Cond.initialized Cn ∈ zG) (hfs : ∀ j, j < N → defaultValue (ty j) = vp_V fs j) (hr : n1 + 1 ≤ X.2.2.2.1.cells ∧ n2 + N ≤ X.2.2.2.1.slots) (hd : decode cc pc = .ok (.new idx, 3)) (k : yW X E b Q (cs ++ [.inr (ci, fs)]) (n1 + 1) (n2 + N) (pc + 3) lv (.ref (b + cs.length) :: st)) : yW X E b Q cs n1 n2 pc lv st := by
  intro H locs ls hP hS h
  refine va_new (fs := fs) C.1 C.2.1 C.2.2.2.2.1 hin ty hty C.2.2.2.1 (C.2.2.2.2.1 _ hlink) (C.2.2.2.2.1 _ hinst) (C.2.2.2.2.1 _ hini) C.2.2.2.2.2.1 hP (ycw_D b cs) hS (fun q hq => Nat.le_trans hb hq) hcl hfs hr.1 hr.2 hd (fun q H1 hP1 hD1 hS1 => ?_)
  refine yw_at (b := b) (cs := cs ++ [.inr (ci, fs)]) (by rw [List.length_append, List.length_singleton]; omega) (fun hle => ?_)
  rw [List.length_append, List.length_singleton] at hle
  have h1 := yw_last hP1
  have h2 : b ≤ q := yw_lastD hD1
  have h3 := ycw_addr hD1 h2 (by omega)
  subst h3
  rw [ycw_snoc] at hP1
  exact k H1 locs ls hP1 hS1 h
theorem yw_newa (C : zC X E cc nL own rt d) {aty : ArrayType} {t : Nat} {ty : FieldType} {n : Int32} {N : Nat} {a0 : vp_A} (hz : X.2.2.2.2.1.heap.size + n1 = b + cs.length) (hb : b ≤ X.2.2.2.2.1.heap.size) (hw : Cond.arrayClass ty ∈ zG) (hty : newarray.typeOf aty = ty) (ht : (zt E)[t]? = some (E.2.2 t, ty)) (hnr : ∀ (U : State) (c : ClassId), va_RA U c ty → U.vm.findClass ("[" ++ ty.toString) = some c) (ha : ∀ cA : ClassId, vp_cell cA a0 = arrV cA N (fun _ => defaultValue ty)) (hn : ¬ n < 0) (hN : n.toNatClampNeg = N) (hby : N * componentBytes ty ≤ 536870912) (hr : n1 + 1 ≤ X.2.2.2.1.cells ∧ n2 + N ≤ X.2.2.2.1.slots) (hd : decode cc pc = .ok (.newarray aty, 2)) (k : yW X E b Q (cs ++ [.inl (E.2.2 t, a0)]) (n1 + 1) (n2 + N) (pc + 2) lv (.ref (b + cs.length) :: st)) : yW X E b Q cs n1 n2 pc lv (.int n :: st) := by
  intro H locs ls hP hS h
  subst hty
  refine va_newa (a0 := a0) C.1 C.2.1 (C.2.2.2.2.1 _ hw) rfl C.2.2.2.2.2.1 hP (ycw_D b cs) hS (fun q hq => Nat.le_trans hb hq) ha hn hN hby hr.1 hr.2 hd (fun q cA H1 hK1 hP1 hD1 hS1 => ?_)
  have e1 := hnr _ _ (hK1.2 (zt E).length _ (by rw [List.getElem?_append_right (Nat.le_refl _), Nat.sub_self]; rfl)).2
  have e2 := hnr _ _ (C.2.2.2.2.2.1.2 t _ ht).2
  have e3 : cA = E.2.2 t := Option.some.inj (e1.symm.trans e2)
  subst e3
  refine yw_at (b := b) (cs := cs ++ [.inl (E.2.2 t, a0)]) (by rw [List.length_append, List.length_singleton]; omega) (fun hle => ?_)
  rw [List.length_append, List.length_singleton] at hle
  have h1 := yw_last hP1
  have h2 : b ≤ q := yw_lastD hD1
  have h3 := ycw_addr hD1 h2 (by omega)
  subst h3
  rw [ycw_snoc] at hP1
  exact k H1 locs ls hP1 hS1 h
theorem yw_newq (C : zC X E cc nL own rt d) {t idx : Nat} {Cn : String} {n : Int32} {N : Nat} (hz : X.2.2.2.2.1.heap.size + n1 = b + cs.length) (hb : b ≤ X.2.2.2.2.1.heap.size) (hlink : Cond.classLink own idx Cn ∈ zG) (hover : va_AO Cn X.2.2.2.2.1) (ht : (zt E)[t]? = some (E.2.2 t, .object Cn)) (hn : ¬ n < 0) (hN : n.toNatClampNeg = N) (hby : N * 4 ≤ 536870912) (hr : n1 + 1 ≤ X.2.2.2.1.cells ∧ n2 + N ≤ X.2.2.2.1.slots) (hd : decode cc pc = .ok (.anewarray idx, 3)) (k : yW X E b Q (cs ++ [.inl (E.2.2 t, N, .inr (.inr (.inr (.inr (fun _ => none)))))]) (n1 + 1) (n2 + N) (pc + 3) lv (.ref (b + cs.length) :: st)) : yW X E b Q cs n1 n2 pc lv (.int n :: st) := by
  intro H locs ls hP hS h
  refine va_newq C.1 C.2.1 C.2.2.2.1 (C.2.2.2.2.1 _ hlink) hover C.2.2.2.2.2.1 hP (ycw_D b cs) hS (fun q hq => Nat.le_trans hb hq) hn hN hby hr.1 hr.2 hd (fun q cA H1 hK1 hP1 hD1 hS1 => ?_)
  obtain ⟨_, _, -, -, -, e1⟩ := (hK1.2 (zt E).length (cA, .object Cn) (by rw [List.getElem?_append_right (Nat.le_refl _), Nat.sub_self]; rfl)).2
  obtain ⟨_, _, -, -, -, e2⟩ := (C.2.2.2.2.2.1.2 t _ ht).2
  have e3 : cA = E.2.2 t := Option.some.inj (e1.symm.trans e2)
  subst e3
  refine yw_at (b := b) (cs := cs ++ [.inl (E.2.2 t, N, .inr (.inr (.inr (.inr (fun _ => none)))))]) (by rw [List.length_append, List.length_singleton]; omega) (fun hle => ?_)
  rw [List.length_append, List.length_singleton] at hle
  have h1 := yw_last hP1
  have h2 : b ≤ q := yw_lastD hD1
  have h3 := ycw_addr hD1 h2 (by omega)
  subst h3
  rw [ycw_snoc] at hP1
  exact k H1 locs ls hP1 hS1 h
theorem yw_aast (C : zC X E cc nL own rt d) {t i j ci m : Nat} {r : vw_C} {vs : List Value} {f : Nat → Option Nat} {x : Int32} {s : String} (ha : cs[i]? = some (.inl (E.2.2 t, m, .inr (.inr (.inr (.inr f)))))) (ht : (zt E)[t]? = some (E.2.2 t, .object s)) (hv : cs[j]? = some (.inr (ci, vs))) (hc : vwCl[ci]? = some r) (hca : r.1 = s ∨ Cond.castable r.1 s ∈ zNc) (hin : vp_in x m) (hs : cs.set i (.inl (E.2.2 t, m, .inr (.inr (.inr (.inr (va_up f x.toNatClampNeg (some (b + j)))))))) = cs') (hd : decode cc pc = .ok (.aastore, 1)) (k : yW X E b Q cs' n1 n2 (pc + 1) lv st) : yW X E b Q cs n1 n2 pc lv (.ref (b + j) :: .int x :: .ref (b + i) :: st) := by
  intro H locs ls hP hS h
  rcases hca with rfl | hca
  · exact va_astq C.1 C.2.1 C.2.2.2.2.2.1 hP (ycw_D b cs) hS i t j ci (ycw_at ha) ht (ycw_at hv) hc hin hd (fun H locs hP hD hS => k H locs ls (by rw [ycw_set, hs] at hP; exact hP) hS h)
  · exact va_astqO C.1 C.2.1 C.2.2.2.2.2.1 hP (ycw_D b cs) hS i t j ci (ycw_at ha) ht (C.2.2.2.2.2.2.1.2.2.1 _ hca) (ycw_at hv) hc hin hd (fun H locs hP hD hS => k H locs ls (by rw [ycw_set, hs] at hP; exact hP) hS h)
/-- a maker is called on the last cell -/
theorem yw_run {cs0 cs1 : List va_E} {e0 : va_E} {mc ms : Nat} {a : Array Value} {st0 : List Value} (hz : X.2.2.2.2.1.heap.size + n1 = b + (cs0 ++ [e0]).length) (hr : ∀ (H : Heap) (locs : List Loc) (ls : Array Slot), H.size = b + cs0.length + 1 → va_P E.1 vwCl (ycw (b + cs0.length) [e0]) H → lv_has ls X.2.2.2.2.2.2.2.2.2.1.maxLocals lv → va_Run X.1 X.2.1 X.2.2.1 X.2.2.2.1 X.2.2.2.2.1 X.2.2.2.2.2.1 X.2.2.2.2.2.2.1 X.2.2.2.2.2.2.2.1 X.2.2.2.2.2.2.2.2.1 X.2.2.2.2.2.2.2.2.2.1 H locs n1 n2 mc ms (F0 X.2.2.2.2.2.1 pc ls st0) st (yQ E (b + cs0.length) cs1 a) (fun q => b + cs0.length ≤ q)) (k : yW X E b Q (cs0 ++ cs1) (n1 + mc) (n2 + ms) (pc + 3) lv st) : yW X E b Q (cs0 ++ [e0]) n1 n2 pc lv st0 := by
  intro H locs ls hP hS h
  refine yw_at (b := b) (cs := cs0 ++ [e0]) hz (fun hle => ?_)
  have hge := ycw_size hP (by rw [List.length_append, List.length_singleton]; omega)
  rw [List.length_append, List.length_singleton] at hle hge
  have hz1 : H.size = b + cs0.length + 1 := by omega
  have hP0 : va_P E.1 vwCl (ycw (b + cs0.length) [e0]) H := by
    intro i q hq
    obtain ⟨e2, h2, rfl⟩ := ycw_of hq
    have hi : i < 1 := (List.getElem?_eq_some_iff.mp h2).1
    obtain rfl : i = 0 := by omega
    cases h2
    exact hP cs0.length _ (ycw_at (by rw [List.getElem?_append_right (Nat.le_refl _), Nat.sub_self]; rfl))
  intro T hT Y
  obtain ⟨v, st₀, t, T', L, h0, Y', hL, e1, e2, ⟨hv, hp, hzz, hk⟩, go⟩ := hr H locs ls hz1 hP0 h T hT Y
  cases hv
  rw [h0] at hzz hk
  obtain ⟨t2, a1, b1⟩ := k T'.heap (locs ++ L) ls (by rw [e1]; exact ycw_join hP (by rw [List.length_append, List.length_singleton]; omega) hk hp) ⟨Nat.le_trans hS.1 (by rw [e1]; exact hzz), fun q h1 h2 => by rw [e1, hk q (Nat.lt_of_lt_of_le h1 hS.1) (fun h9 => h2 (show b ≤ q by omega))]; exact hS.2.1 q h1 h2, fun q hq => by
      rcases List.mem_append.mp hq with h | h
      · exact hS.2.2 q h
      · have := hL q h
        show b ≤ q.base
        omega⟩ h T' rfl Y'
  exact ⟨t2, go t2 a1, b1⟩
/-- a maker's words -/
def yKI (y : MethodName) (bytes : ByteArray) (mL n : Nat) : Prop := (Cond.instanceMethod y ∈ zG ∧ Cond.initialized y.cls ∈ zG ∧ Cond.code y bytes mL none ∈ zG) ∧ y.name = "<init>" ∧ (y.cls ≠ "java/lang/invoke/MethodHandle" ∧ y.cls ≠ "java/lang/invoke/VarHandle" ∧ (parseMethodDescriptor y.desc).map (fun d => d.parameters.length) = some n) ∧ mL ≤ 21
theorem yw_preS (C : zC X E cc nL own rt d) {As : List Value} {H : Heap} {b' : Nat} {cs1 : List va_E} (hz : H.size = b' + cs1.length) (hP : va_P E.1 vwCl (ycw b' cs1) H) : PreS X.2.2.2.2.1 H (va_Pc As (yP E b' cs1)) As := ⟨yM_blind E b' cs1 As, fun U hU hW => ⟨rfl, by rw [hU]; exact hz, by rw [hU]; exact hP, va_K.moved hW.alike C.2.2.2.2.2.1, C.2.2.2.2.2.2.1.warm hW⟩⟩
theorem yw_callI (C : zC X E cc nL own rt d) {y : MethodName} {bytes : ByteArray} {mL : Nat} {d' n idx q0 : Nat} {As st0 : List Value} {cs0 cs1 : List va_E} {e0 : va_E} {mc ms : Nat} (hq : cs0.length = q0) (hs : cs0 ++ [e0] = cs) (hs2 : cs0 ++ cs1 = cs') (hM : yMet X.2.1 E y bytes mL d' (.ref (b + cs0.length) :: As) (b + cs0.length) [e0] cs1 mc ms) (hk : yKI y bytes mL n) (hlink : Cond.methodLink own idx y ∈ zG ∨ ∃ host, Cond.methodLinkNest own idx y host ∈ zNm) (hz : X.2.2.2.2.1.heap.size + n1 = b + cs.length) (hdd : d' < d) (hr : n1 + mc ≤ X.2.2.2.1.cells ∧ n2 + ms ≤ X.2.2.2.1.slots) (hn : As.length = n) (hst0 : st0 = As.reverse ++ .ref (b + q0) :: st) (hst : (st.map fun v => v.category).sum ≤ 8) (hd : decode cc pc = .ok (.invokespecial idx, 3)) (k : yW X E b Q cs' (n1 + mc) (n2 + ms) (pc + 3) lv st) : yW X E b Q cs n1 n2 pc lv st0 := by
  subst hs; subst hs2; subst hq
  have h9 := C.2.2.2.2.2.2.2.2.2.1
  have hm := hk.2.2.2
  have hR : (yR d' mc ms).frames + 1 ≤ X.2.2.2.1.frames ∧ 8 + (mL + 11) + (yR d' mc ms).locals ≤ X.2.2.2.1.locals := by
    refine ⟨?_, ?_⟩
    · show d' + 1 ≤ _
      omega
    · show 8 + (mL + 11) + 40 * d' ≤ _
      omega
  refine yw_run (a := (Value.ref (b + cs0.length) :: As).toArray) hz (fun H locs ls hz1 hP0 h => ?_) k
  rcases hlink with hlink | ⟨host, hlink⟩
  · exact va_runI (As := As) (rest := st) (nL := X.2.2.2.2.2.2.2.2.2.1.maxLocals) ⟨C.1, C.2.1, rfl, C.2.2.2.1, C.2.2.2.2.1⟩ hM (cwI n C.2.2.2.2.1 (zw_good2 hk.1.2.2) rfl rfl rfl (C.2.2.2.2.1 _ hk.1.2.1) (C.2.2.2.2.1 _ hlink) (C.2.2.2.2.1 _ hk.1.1) hk.2.1 hk.2.2.1 hR) (yw_preS C hz1 hP0) rfl hn h.1 hst0 (lv_room hst) hd hr
  · exact va_runIN (As := As) (rest := st) (nL := X.2.2.2.2.2.2.2.2.2.1.maxLocals) ⟨C.1, C.2.1, rfl, C.2.2.2.1, C.2.2.2.2.1⟩ hM ⟨va_cnB n C.2.2.2.2.1 (zw_good2 hk.1.2.2) rfl rfl rfl (C.2.2.2.2.2.2.1.2.1 _ hlink) (C.2.2.2.2.1 _ hk.1.2.1) hk.2.2.1 hR, hk.2.1, C.2.2.2.2.1 _ hk.1.1⟩ (yw_preS C hz1 hP0) rfl hn h.1 hst0 (lv_room hst) hd hr
/-- a void method is called on the whole block, that begins with its object -/
theorem yw_callV (C : zC X E cc nL own rt d) {y : MethodName} {bytes : ByteArray} {mL : Nat} {d' idx ci : Nat} {q : vw_C} {fs : List Value} (hM : yMet X.2.1 E y bytes mL d' [.ref (b + 0)] b cs cs' 0 0) (hk : zKV y bytes mL none 0) (hlink : Cond.methodLink own idx y ∈ zG) (hz : X.2.2.2.2.1.heap.size + n1 = b + cs.length) (hdd : d' < d) (hr : n1 ≤ X.2.2.2.1.cells ∧ n2 ≤ X.2.2.2.1.slots) (hc : cs[0]? = some (.inr (ci, fs))) (hcl : vwCl[ci]? = some q) (hq : q.1 = y.cls) (hd : decode cc pc = .ok (.invokevirtual idx, 3)) (k : yW X E b Q cs' n1 n2 (pc + 3) lv []) : yW X E b Q cs n1 n2 pc lv [.ref (b + 0)] := by
  intro H locs ls hP hS h
  refine yw_at (b := b) (cs := cs) hz (fun hle => ?_)
  have h0 : 0 < cs.length := (List.getElem?_eq_some_iff.mp hc).1
  have hge := ycw_size hP h0
  have hz1 : H.size = b + cs.length := by omega
  have h9 := C.2.2.2.2.2.2.2.2.2.1
  have hm := hk.2.2
  have hB : CallB X.2.2.2.1 X.2.2.2.2.1 X.2.2.2.2.2.2.1 own idx y bytes mL none (.code y bytes mL none :: zG) (yR d' 0 0) 0 0 0 := by
    refine callB_of 0 C.2.2.2.2.1 (zw_good2 hk.1.2.2.2) rfl rfl rfl (C.2.2.2.2.1 _ hk.1.2.2.1) (C.2.2.2.2.1 _ hlink) hk.2.1 ⟨?_, ?_⟩
    · show d' + 1 ≤ _
      omega
    · show 8 + (mL + 11) + 40 * d' ≤ _
      omega
  have hrun := va_runV (As := []) (rest := []) (locs := locs) (cells := n1) (slots := n2) (g := F0 X.2.2.2.2.2.1 pc ls [.ref (b + 0)]) (p := X.1) (e := X.2.2.1) (below := X.2.2.2.2.2.2.2.1) (meth := X.2.2.2.2.2.2.2.2.1) (nL := X.2.2.2.2.2.2.2.2.2.1.maxLocals) ⟨C.1, C.2.1, rfl, C.2.2.2.1, C.2.2.2.2.1⟩ hM ⟨hB, C.2.2.2.2.1 _ hk.1.1, C.2.2.2.2.1 _ (hq ▸ hk.1.2.1)⟩ ⟨yM_blind E b cs _, va_recv C.2.2.2.2.2.1 hP hcl (ycw_at hc), (yw_preS C hz1 hP).2⟩ rfl rfl h.1 rfl (lv_room (Nat.zero_le _)) hd hr
  intro T hT Y
  obtain ⟨v, st₀, t, T', L, h0, Y', hL, e1, e2, ⟨hv, hp, hzz, hk⟩, go⟩ := hrun T hT Y
  cases hv
  rw [h0] at hzz hk
  obtain ⟨t2, a1, b1⟩ := k T'.heap (locs ++ L) ls (by rw [e1]; exact hp) ⟨Nat.le_trans hS.1 (by rw [e1]; exact hzz), fun q h1 h2 => by rw [e1, hk q (Nat.lt_of_lt_of_le h1 hS.1) h2]; exact hS.2.1 q h1 h2, fun q hq => by
      rcases List.mem_append.mp hq with h | h
      · exact hS.2.2 q h
      · exact hL q h⟩ h T' rfl Y'
  exact ⟨t2, go t2 a1, b1⟩
end YROWS
