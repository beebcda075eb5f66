-- a method with a table of its own: the search for a handler, the catch, contracts of methods that catch all that comes
set_option maxHeartbeats 1000000 in
/-- the search over a method's table: rows that don't cover the place, or whose class the thrown cell isn't of, are passed; then the row x takes it. The rows' classes may be linked by the search itself. -/
theorem c_search {e : Env} {s0 : State} {f : JFrame} {a : Addr} {cell : Cell} (hobj : ∀ k, cell.vm ≠ .statics k) (hk0 : ∃ k, s0.vm.classes[cell.cls]? = some k) (x : ExceptionTableEntry) (suf : List ExceptionTableEntry) (hx : covers x f.pc = true) (h0 : x.catchType ≠ 0) {cT : ClassId}
    (hl : s0.vm.ClassLinks e.platform f.method.cls x.catchType cT) (hfit : s0.vm.assignable cell.cls cT = true) : ∀ (pre : List ExceptionTableEntry), (∀ y ∈ pre, covers y f.pc = false ∨ (y.catchType ≠ 0 ∧ ∃ cY, s0.vm.ClassLinks e.platform f.method.cls y.catchType cY ∧ s0.vm.assignable cell.cls cY = false)) →
      ∀ (vm : Vm), s0.WarmedH vm → ∃ vm', s0.WarmedH vm' ∧ ∀ (S : State), S.vm = vm → S.heap[a]? = some cell → ∀ (Q : Handler → Pre) (E : CtlPost) (d : Bool) (acts : List Action), wp (findHandler.go f a (pre ++ x :: suf)) Q E e d acts S ↔ Q (.found x.handlerPc) d acts (S.setVm vm') := by
  -- one row that covers the place: its class comes to be linked
  have one : ∀ (y : ExceptionTableEntry) (cY : ClassId), y.catchType ≠ 0 → covers y f.pc = true → s0.vm.ClassLinks e.platform f.method.cls y.catchType cY → ∀ (vm : Vm), s0.WarmedH vm → s0.WarmedH (vm.noted f.method.cls y.catchType (.cls cY)) ∧
      ∀ (t : List ExceptionTableEntry) (S : State), S.vm = vm → S.heap[a]? = some cell → ∀ (Q : Handler → Pre) (E : CtlPost) (d : Bool) (acts : List Action), wp (findHandler.go f a (y :: t)) Q E e d acts S ↔
        if s0.vm.assignable cell.cls cY = true then Q (.found y.handlerPc) d acts (S.setVm (vm.noted f.method.cls y.catchType (.cls cY))) else wp (findHandler.go f a t) Q E e d acts (S.setVm (vm.noted f.method.cls y.catchType (.cls cY))) := by
    intro y cY hy0 hyc hyl vm hW
    obtain ⟨dk, _, _, kt, hd, _, _, _, _, hkt, _, hopen⟩ := hyl.here
    have hW' : s0.WarmedH (vm.noted f.method.cls y.catchType (.cls cY)) := hW.noted hd hopen (State.rightAt_cls hyl)
    refine ⟨hW', fun t S hS hcell Q E d acts => ?_⟩
    subst hS
    simp only [covers] at hyc
    obtain ⟨ha, ht⟩ := (resolveClass_links e.toSetting (hW.classLinks hyl)).op (op := VmOp.resolveClass f.method.cls y.catchType) rfl
    obtain ⟨k1, hk1⟩ := hk0
    obtain ⟨k1', hk1', -⟩ := hW'.alike.2.2 _ _ hk1
    obtain ⟨k2', hk2', -⟩ := hW'.alike.2.2 _ _ hkt
    have hasg : (S.vm.noted f.method.cls y.catchType (.cls cY)).assignable cell.cls cY = s0.vm.assignable cell.cls cY := hW'.alike.assignable _ _
    cases hc : s0.vm.assignable cell.cls cY <;> rw [hc] at hasg <;> simp [findHandler.go, hyc, hy0, ha, ht, hcell, hobj, hk1', hk2', hasg, VmOp.dirties, VmOp.acts]
  intro pre
  induction pre with
  | nil =>
    intro _ vm hW
    obtain ⟨hW', h⟩ := one x cT h0 hx hl vm hW
    refine ⟨_, hW', fun S hS hcell Q E d acts => ?_⟩
    rw [List.nil_append, h suf S hS hcell, if_pos hfit]
  | cons y ys ih =>
    intro hp vm hW
    have hys := ih (fun z hz => hp z (List.mem_cons_of_mem _ hz))
    by_cases hyc : covers y f.pc = true
    · rcases hp y List.mem_cons_self with h | ⟨hy0, cY, hyl, hno⟩
      · rw [h] at hyc; cases hyc
      · obtain ⟨hW', h⟩ := one y cY hy0 hyc hyl vm hW
        obtain ⟨vm', hW'', h2⟩ := hys _ hW'
        refine ⟨vm', hW'', fun S hS hcell Q E d acts => ?_⟩
        rw [List.cons_append, h _ S hS hcell, if_neg (by rw [hno]; decide)]
        exact h2 (S.setVm (vm.noted f.method.cls y.catchType (.cls cY))) rfl hcell Q E d acts
    · obtain ⟨vm', hW'', h2⟩ := hys vm hW
      refine ⟨vm', hW'', fun S hS hcell Q E d acts => ?_⟩
      rw [List.cons_append, Jvm.W.findHandler_go_skip (by simpa using hyc)]
      exact h2 S hS hcell Q E d acts
section CX
variable {b : ByteArray} {nL : Nat} {rt : Option FieldType} {own : String} {p : Program} {l : Launch} {e : Env} {R rm : Room} {s : State} {m : MethodId} {args : Array Value} {below : List Frame} {meth : Method} {c : Code} {H : Heap} {locs : List Loc} {cells slots : Nat} {dC : Nat → ClassId} {dI : Nat → Nat → Nat} {cI cJ cZ : ClassId} {A : Nat → Prop} {pc : Nat} {ls : Array Slot} {rest : List Value} {Q : State → Prop}
set_option maxHeartbeats 1000000 in
/-- caught: the walk goes on at the handler, the cell alone on the stack -/
theorem xcatch {name E : String} {ce : Cell} {q : Addr} (C : cxM b nL rt own l dC dI cI cJ cZ A p s m args meth c) (pre : List ExceptionTableEntry) (x : ExceptionTableEntry) (suf : List ExceptionTableEntry) (hsplit : c.exceptionTable.toList = pre ++ x :: suf)
    (hpass : ∀ z ∈ pre, covers z pc = false ∨ (z.catchType ≠ 0 ∧ ∃ nm : String, (Cond.classLink own z.catchType nm).before args s = true ∧ va_Nc E nm s)) (hx : covers x pc = true) (h0 : x.catchType ≠ 0)
    (kl : Cond.classLink own x.catchType name ∈ GB) (hcast : va_Nw (.castable E name) s) (hcell : H[q]? = some ce) (hv : ce.vm = .none) (hcl : s.vm.findClass E = some ce.cls)
    (kk : W p l e R s m args below meth c H locs cells slots Q (F0 m x.handlerPc ls [.ref q])) : xW p l e R s m args below meth c H locs cells slots Q (F0 m pc ls rest) q := by
  obtain ⟨-, hx9, hb, hml, hr, hown, hts, hlocks, hK, hZ, hA, hNS⟩ := C
  intro T hT X
  have hpl : e.platform.magicAccessors = ({} : Platform).magicAccessors := by rw [X.admits.platform]
  obtain ⟨c3, c4, hc3, hc4, hasg⟩ := Cond.castable_spec hcast
  cases Option.some.inj (hc3.symm.trans hcl)
  obtain ⟨c5, hc5, hl5⟩ := Cond.classLink_spec hown (hts _ kl) e.platform hpl
  cases Option.some.inj (hc4.symm.trans hc5)
  obtain ⟨dk, _, _, kt, hd, _, _, _, _, hkt, _, hopen⟩ := id hl5.here
  have hk0 : ∃ k, s.vm.classes[ce.cls]? = some k := Vm.classAt_of_assignable hasg ⟨kt, hkt⟩
  obtain ⟨vm', hW', hs⟩ := c_search (f := F0 m pc ls rest) (a := q) (cell := ce) (by rw [hv]; exact fun k h => by cases h) hk0 x suf hx h0 hl5 hasg pre (fun y hy => by
    rcases hpass y hy with h | ⟨hz0, nm, hl1, hn1⟩
    · exact Or.inl h
    · obtain ⟨c6, hc6, hcl6⟩ := Cond.classLink_spec hown hl1 e.platform hpl
      obtain ⟨a8, b8, h1, h2, h3⟩ := hn1
      cases Option.some.inj (h1.symm.trans hcl)
      cases Option.some.inj (h2.symm.trans hc6)
      exact Or.inr ⟨hz0, _, hcl6, h3⟩) T.vm X.warmed
  have X' := X.noted hW'
  obtain ⟨t, a1, b1⟩ := kk (T.setVm vm') hT X'
  refine ⟨t, ?_, b1⟩
  have h : At T (F0 m pc ls rest).method c below := X.here
  obtain ⟨hgo, hw⟩ := h.throwing q
  refine Steps.head hgo hw ?_
  have hvm : ((T.setTop (F0 m pc ls rest)).pushFrame (.throwing q)).vm = T.vm := Stand.throwing_vm T _ q
  have hhp : ((T.setTop (F0 m pc ls rest)).pushFrame (.throwing q)).heap[q]? = some ce := by rw [Stand.throwing_heap, hT]; exact hcell
  have hfind : ∀ (Q : Handler → Pre) (E : CtlPost) (d : Bool) (acts : List Action), wp (findHandler (F0 m pc ls rest) q) Q E e d acts ((T.setTop (F0 m pc ls rest)).pushFrame (.throwing q)) ↔ Q (.found x.handlerPc) d acts (((T.setTop (F0 m pc ls rest)).pushFrame (.throwing q)).setVm vm') := by
    intro Q E d acts
    rw [Jvm.W.findHandler_eq (meth := meth) (code := c) (by rw [hvm]; exact X.method') X.code, hsplit]
    exact hs _ hvm hhp Q E d acts
  have hstep : (stepThrowing e ((T.setTop (F0 m pc ls rest)).pushFrame (.throwing q)) q (.java (F0 m pc ls rest) :: T.frames.tail)).1 = (((T.setTop (F0 m pc ls rest)).pushFrame (.throwing q)).setVm vm').setFrames (.java (F0 m x.handlerPc ls [.ref q]) :: T.frames.tail) := by
    simp only [stepThrowing, searchFrame, vmDo]
    generalize hr : Sem.go _ e false [] ((T.setTop (F0 m pc ls rest)).pushFrame (.throwing q)) = res
    obtain ⟨as, rfl, ha⟩ := Sem.eq_ok_of hr (a := Handler.found x.handlerPc) (s' := ((T.setTop (F0 m pc ls rest)).pushFrame (.throwing q)).setVm vm') (acts' := []) (by simp [hfind _ _ _ _])
    rfl
  rw [stepThread_throwing (frames_entered h.top _), hstep]
  obtain ⟨g₀, hg⟩ := Option.isSome_iff_exists.mp h.top
  obtain ⟨r, hr⟩ := State.topJava?_eq_some.mp hg
  have hr' : (T.setVm vm').frames = .java g₀ :: r := hr
  rw [State.setTop_of_frames _ hr'] at a1
  have e1 : ((((T.setTop (F0 m pc ls rest)).pushFrame (.throwing q)).setVm vm').setFrames (.java (F0 m x.handlerPc ls [.ref q]) :: T.frames.tail)) = (T.setVm vm').setFrames (.java (F0 m x.handlerPc ls [.ref q]) :: r) := by
    rw [hr, List.tail_cons, State.pushFrame, State.setTop_of_frames _ hr]
    show ((((T.setFrames _).setFrames _).setVm vm').setFrames _) = _
    rw [show ∀ (u : State) (F : List Frame), (u.setFrames F).setVm vm' = (u.setVm vm').setFrames F from fun _ _ => rfl, State.setFrames_setFrames, show ∀ (u : State) (F : List Frame), (u.setFrames F).setVm vm' = (u.setVm vm').setFrames F from fun _ _ => rfl, State.setFrames_setFrames]
  rw [e1]
  exact a1
end CX
/-- exceptions that are no casts of one another -/
def ncs (U : State) : Prop := va_Nc "java/lang/IllegalArgumentException" "java/lang/IllegalStateException" U ∧ va_Nc "java/lang/IllegalArgumentException" "java/lang/IndexOutOfBoundsException" U ∧ va_Nc "java/lang/IllegalStateException" "java/lang/IndexOutOfBoundsException" U
theorem ncs.moved {u U : State} (hvm : u.vm.Alike U.vm) (h : ncs u) : ncs U := ⟨h.1.moved hvm, h.2.1.moved hvm, h.2.2.moved hvm⟩
section CK
variable (l : Launch) (y : MethodName) (b : ByteArray) (nL : Nat) (rt : Option FieldType) (hh : List (Nat × Nat × Nat × Nat)) (rm : Room) (dC : Nat → ClassId) (dI : Nat → Nat → Nat) (cI cJ cZ : ClassId) (av : List Value) (ws : va_W)
abbrev pcW (dC : Nat → ClassId) (dI : Nat → Nat → Nat) (cI cJ cZ : ClassId) (sz : Nat) (ws : va_W) (U : State) : Prop := pc_ dC dI cI cJ cZ sz ws U ∧ ncs U
/-- the contract of a method that catches all that comes -/
def KiW {S : Type} (post : Int32 → S → Prop) (wf : S → va_W) : Prop := ∀ sz : Nat, xMet l y (.codeWith y b nL rt hh :: GB) rm (va_Pc av (pcW dC dI cI cJ cZ sz ws)) (va_Qi post (fun u t => at_ dC dI cI cJ cZ (va_A ws sz) (wf u) t) (va_A ws sz)) (fun _ _ _ => False) rm.cells rm.slots rm.cells rm.slots (va_A ws sz)
end CK
def QiW (below : List Frame) (args : Array Value) (s : State) (A : Nat → Prop) (dC : Nat → ClassId) (dI : Nat → Nat → Nat) (cI cJ cZ : ClassId) (rm : Room) {S : Type} (post : Int32 → S → Prop) (wf : S → va_W) : State → Prop := xMQ below (va_Qi post (fun u t => at_ dC dI cI cJ cZ A (wf u) t) A) (fun _ _ _ => False) args s rm.cells rm.slots rm.cells rm.slots A
section CM
variable {l : Launch} {y : MethodName} {b : ByteArray} {nL : Nat} {rt : Option FieldType} {hh : List (Nat × Nat × Nat × Nat)} {rm : Room} {dC : Nat → ClassId} {dI : Nat → Nat → Nat} {cI cJ cZ : ClassId} {av : List Value} {ws : va_W}
theorem mkiW (hl9 : l.stackTraces = false) {S : Type} {post : Int32 → S → Prop} {wf : S → va_W} {own : String} (ho : y.cls = own) (hy : plainName y.cls = true)
    (body : ∀ (p : Program) (e : Env) (s : State) (m : MethodId) (args : Array Value) (below : List Frame) (meth : Method) (c : Code) (A : Nat → Prop), cxM b nL rt own l dC dI cI cJ cZ A p s m args meth c → c.exceptionTable.toList = tableOf hh → ncs s → args = av.toArray → va_P (dC, dI) classes ws s.heap → va_D A ws →
      W p l e rm s m args below meth c s.heap [] 0 0 (QiW below args s A dC dI cI cJ cZ rm post wf) (entryFrame m args nL)) : KiW l y b nL rt hh rm dC dI cI cJ cZ av ws post wf := by
  intro sz
  refine MetFree.of_bodyS (code := b) (maxLocals := nL) (ret := rt) hy ?_ ?_
  · intro args s m h hn
    obtain ⟨m9, meth, c, hn9, h1, h2, h3, h4, -, h5, h6, -⟩ := Cond.codeWith_spec (atoms_spec (ws := Cond.codeWith y b nL rt hh :: GB) h _ List.mem_cons_self)
    cases hn.symm.trans hn9
    exact ⟨meth, c, h1, h2, h3, h4, h5, h6⟩
  · intro p e s m args below meth c s₁ B hml hv _
    obtain ⟨hav, ⟨hsz, hP, hK, hD0, hZ⟩, hnc⟩ := hv
    subst hsz
    have hts := atoms_spec (ws := Cond.codeWith y b nL rt hh :: GB) B.pre
    have hown : s.vm.findClass y.cls = some m.cls := findClass_of_methodNamed B.named
    rw [ho] at hown
    obtain ⟨m9, meth9, c9, hn9, h1, h2, -, -, h6, -⟩ := Cond.codeWith_spec (hts _ List.mem_cons_self)
    cases hn9.symm.trans B.named
    cases h1.symm.trans B.method
    cases h2.symm.trans (Stand.of_body B).code
    have hh0 : s₁.heap = s.heap := by rw [B.state]; rfl
    obtain ⟨t, a1, o, b1, b2, b3⟩ := body p e s m args below meth c (va_A ws s.heap.size) ⟨hl9, B.exec, B.bytes, hml, B.returns, hown, fun w h => hts w (List.mem_cons_of_mem _ h), B.notSynchronized, hK, hZ, fun q h => Or.inr h, ws_ns hP⟩ (by rw [← h6, table_eq]) hnc hav hP hD0.self s₁ hh0 (Stand.of_body B)
    exact ⟨t, o, a1, b1, b2, b3⟩
end CM
section CR
variable {b : ByteArray} {nL : Nat} {own : String} {p : Program} {l : Launch} {e : Env} {R rm : Room} {s : State} {m : MethodId} {args : Array Value} {below : List Frame} {meth : Method} {c : Code} {H : Heap} {locs : List Loc} {cells slots : Nat} {dC : Nat → ClassId} {dI : Nat → Nat → Nat} {cI cJ cZ : ClassId} {A : Nat → Prop} {S : Type} {wf : S → va_W} {u : S} {pc : Nat} {ls : Array Slot}
theorem rw_i {post : Int32 → S → Prop} {r : Int32} (C : cxM b nL (some .int) own l dC dI cI cJ cZ A p s m args meth c) (hw : post r u) (hP : va_P (dC, dI) classes (wf u) H) (hD : va_D A (wf u)) (hS : va_S A s.heap H locs) (hc : cells ≤ rm.cells) (hs : slots ≤ rm.slots) (hd : decode b pc = .ok (.ireturn, 1)) : W p l e R s m args below meth c H locs cells slots (QiW below args s A dC dI cI cJ cZ rm post wf) (F0 m pc ls [.int r]) := by
  obtain ⟨-, hx, hb, -, hr, -, -, hlocks, hK, -⟩ := C
  refine W.widen hc hs ?_
  exact x_ret (W.iret (v := r) hx hb hr (fun t ht hW => ⟨⟨r, u, rfl, hw, by rw [ht]; exact hP, va_K.moved hW.alike hK, hD⟩, hS.F ht⟩) hS.2.2 hd)
end CR
