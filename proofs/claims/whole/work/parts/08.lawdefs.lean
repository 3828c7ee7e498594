def R_law : String := "WingDoorLaw"
def lw_P (b : Addr) (xs : List Int32) (args : Array Value) (s : State) : Prop := args = #[.ref b] ∧ s.IntsAt b xs ∧ xs.length ≤ 2048 ∧ (Jvm.Cond.and given_1 narrow_1).before args s = true
def lw_Q (_ : Array Value) (s : State) (o : Outcome) (t : State) : Prop := o = .returned (some (.int 1)) ∧ Framed s o t [] 600000 7302250
def lw_Z (below : List Frame) (a : Array Value) (s : State) : State → Prop := fun t => ∃ o, t.status = .running ∧ Ended t below o ∧ lw_Q a s o t
/-- the law's own end, with 1 on the stack, nothing written that was there before, its room as the claim has it -/
theorem lw_ret {p : Program} {l : Launch} {e : Env} {s : State} {m : MethodId} {below : List Frame} {meth : Method} {c : Code} {b : Nat} (hx : p.tables.exec = Jvm.exec) (hb : c.code = code) (hr : meth.sig.returnType = ret) (hlocks : meth.locks = false) {pc : Nat} {H : Heap} {ls : Array Slot} (hdg : decode code pc = .ok (.ireturn, 1)) : W p l e room_1 s m #[Value.ref b] below meth c H [] 600000 7302250 (lw_Z below #[Value.ref b] s) (F0 m pc ls [.int 1]) := by
  intro T hT X
  obtain ⟨fs, hret, hrun, hended, hW, hframe⟩ := X.leave (v := some (.int 1)) (hlocks := hlocks) (fun h => by rw [hr] at h; cases h)
  have hmeth' : T.vm.method? m = some meth := X.method'
  refine ⟨T.setFrames fs, ?_, .returned (some (.int 1)), hrun, hended, rfl, ⟨_, rfl⟩, hW, hframe⟩
  jvm_step X.here [X.here.top, hx, hb, hdg, hmeth', hr, ret, narrow_b1]
  (try refine ⟨rfl, ?_⟩); (try refine ⟨rfl, ?_⟩)
  first | (intro acts; rw [hret _ acts rfl rfl rfl]) | rw [hret _ _ rfl rfl rfl]
  exact Steps.refl _
/-- what holds at the law's entry: the machine, the code, the tables' words (any of lw_tbl by 'hts w (by decide +kernel)'), the script of L ints xs at the cell b, what the Statement gives of the start (any of its parts by flat_of_before) -/
def lw_At (p : Program) (s : State) (m : MethodId) (meth : Method) (c : Code) (b L : Nat) (xs : Nat → Int32) : Prop :=
  p.tables.exec = Jvm.exec ∧ c.code = code ∧ meth.sig.returnType = ret ∧ c.maxLocals = 4 ∧ s.vm.findClass R_law = some m.cls ∧ (∀ w ∈ lw_tbl, w.before #[Value.ref b] s = true) ∧ va_X b L xs s s.heap ∧ b < s.heap.size ∧ meth.locks = false ∧ (Jvm.Cond.and given_1 narrow_1).before #[Value.ref b] s = true
def zLQ (X : zX) : State → Prop := lw_Z X.2.2.2.2.2.2.2.1 X.2.2.2.2.2.2.1 X.2.2.2.2.1
/-- the script, out of the world; the law's own room -/
def zSc (X : zX) (E : zE) (b L : Nat) (xs : Nat → Int32) : Prop := va_X b L xs X.2.2.2.2.1 X.2.2.2.2.1.heap ∧ b < X.2.2.2.2.1.heap.size ∧ ¬ zA E b
def zLw (X : zX) (E : zE) (b : Nat) : Prop := X.2.2.2.1 = room_1 ∧ X.2.2.2.2.2.2.1 = #[Value.ref b] ∧ X.2.2.2.2.2.2.2.2.2.2.1 = 600000 ∧ X.2.2.2.2.2.2.2.2.2.2.2 = 7302250 ∧ ∀ q, zA E q → X.2.2.2.2.1.heap.size ≤ q
section ZLAW
variable {X : zX} {E : zE} {cc : ByteArray} {nL : Nat} {own : String} {rt : Option FieldType} {d : Nat} {Q : State → Prop} {M M' : zM} {pc b L : Nat} {xs : Nat → Int32} {lv : List (Nat × Value)} {st : List Value}
theorem zw_sld (C : zC X E cc nL own rt d) (hx : zSc X E b L xs) {i : Int32} (hin : vp_in i L) (hd : decode cc pc = .ok (.iaload, 1)) (k : zW X E Q M (pc + 1) lv (.int (xs i.toNatClampNeg) :: st)) : zW X E Q M pc lv (.int i :: .ref b :: st) := fun H locs ls hP hS h => va_sld C.1 C.2.1 hx.1 hx.2.1 hx.2.2 hS hin hd (k H locs ls hP hS h)
theorem zw_slen (C : zC X E cc nL own rt d) (hx : zSc X E b L xs) (hd : decode cc pc = .ok (.arraylength, 1)) (k : zW X E Q M (pc + 1) lv (.int (Int32.ofNat L) :: st)) : zW X E Q M pc lv (.ref b :: st) := fun H locs ls hP hS h => va_slen C.1 C.2.1 hx.1 hx.2.1 hx.2.2 hS hd (k H locs ls hP hS h)
theorem zw_not01 : ¬ some ((0 : Int32), M) = some ((1 : Int32), M') := fun h => by
  have h2 : (0 : Int32) = 1 := congrArg Prod.fst (Option.some.inj h)
  exact absurd h2 (by decide)
theorem zw_lawret (C : zC X E code nL own ret d) (hw : zLw X E b) (hd : decode code pc = .ok (.ireturn, 1)) : zW X E (zLQ X) M pc lv [.int 1] := by
  obtain ⟨p, l, e, R, s, m, args, below, meth, c, cells, slots⟩ := X
  obtain ⟨hR, ha, hc, hs, hq⟩ := hw
  dsimp only at hR ha hc hs hq
  subst hR; subst ha; subst hc; subst hs
  intro H locs ls hP hS h
  exact va_forget (fun q h1 => hq _ (hS.2.2 q h1)) (lw_ret (meth := meth) C.1 C.2.1 C.2.2.2.2.2.2.2.2.2.2.2 C.2.2.2.2.2.2.2.2.2.2.1 hd)
end ZLAW
