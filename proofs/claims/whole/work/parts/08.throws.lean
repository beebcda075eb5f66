-- methods that may throw: what a thrown exception leaves, contracts, calls, ends
def xEnd (XC : String → State → State → Prop) (st : State) (q : Addr) (t : State) (mc ms : Nat) (free : Addr → Prop) : Prop :=
  ∃ (E : String) (ce : Cell) (L : List Loc), XC E st t ∧ t.heap[q]? = some ce ∧ ce.vm = .none ∧ st.vm.findClass E = some ce.cls ∧ st.WarmedH t.vm ∧ st.sameButNew ({ t with vm := st.vm } : State) L mc ms ∧ ∀ z ∈ L, free z.base
def xAns (Qc : Array Value → State → Outcome → State → Prop) (XC : String → State → State → Prop) (mr sr mc ms : Nat) (free : Addr → Prop) (a : Array Value) (st : State) (o : Outcome) (t : State) : Prop :=
  (Qc a st o t ∧ ∃ L, FrameEnd st o t L mr sr ∧ ∀ q ∈ L, free q.base) ∨ ∃ q, o = .threw q ∧ xEnd XC st q t mc ms free
def xMet (l : Launch) (y : MethodName) (ws : List Cond) (rm : Room) (Pc : Array Value → State → Prop) (Qc : Array Value → State → Outcome → State → Prop) (XC : String → State → State → Prop) (mr sr mc ms : Nat) (free : Addr → Prop) : Prop :=
  MetFree l y (headSpec ws rm) Pc (fun _ _ _ _ _ => True) (xAns Qc XC mr sr mc ms free)
abbrev xAt (U t : State) : State := ({ U with heap := t.heap, slotsUsed := t.slotsUsed } : State).setVm t.vm
section XCore
variable {p : Program} {l : Launch} {e : Env} {R : Room} {s : State} {m : MethodId} {args : Array Value} {below : List Frame} {meth : Method} {c : Code} {U : State} {locs : List Loc} {cells slots : Nat} {y : MethodName} {ws : List Cond} {rm : Room} {Pc : Array Value → State → Prop} {Qc : Array Value → State → Outcome → State → Prop} {XC : String → State → State → Prop} {mr sr mc ms : Nat} {free : Addr → Prop} {bytes : ByteArray} {maxL : Nat} {ret : Option FieldType}
set_option maxHeartbeats 4000000 in
/-- a call, from where its frame is laid: it comes back, or the exception stands over the caller's frame -/
theorem x_core (X : Stand p l e R s m args below meth c U locs cells slots) (hM : xMet l y ws rm Pc Qc XC mr sr mc ms free) (hrc : rm.cells = mc) (hrs : rm.slots = ms) (hfr : rm.frames + 1 ≤ R.frames) (hlo : 8 + (maxL + 11) + rm.locals ≤ R.locals)
    (hws : ∀ w ∈ ws, ∀ (a' : Array Value) (U : State), s.WarmedH U.vm → w.before a' U = true) (hcd : ∀ (a' : Array Value) (U : State) (mk : MethodId), s.WarmedH U.vm → U.methodNamed? y = some mk → ∃ meth9 c9, U.vm.method? mk = some meth9 ∧ meth9.code = some c9 ∧ c9.maxLocals = maxL) (hini : ∀ (a' : Array Value) (U : State), s.WarmedH U.vm → (Cond.initialized y.cls).before a' U = true)
    {g : JFrame} {ig : Instr} {mk : MethodId} {a : Array Value} (hg : g.method = m) (hsize : g.locals.size = c.maxLocals) (hdg : decode c.code g.pc = .ok (ig, 3)) (hW : 2 * g.monitorRoom + (g.stack.map fun v => v.category).sum ≤ 8) (hn : U.methodNamed? y = some mk) (hc : cells + mc ≤ R.cells) (hs : slots + ms ≤ R.slots) (hP : Pc a (U.calling g mk a)) :
    (∃ (v : Option Value) (t : State) (L : List Loc), Qc a (U.calling g mk a) (.returned v) t ∧ (∀ q ∈ L, free q.base) ∧ Stand p l e R s m args below meth c (xAt U t) (locs ++ L) (cells + mr) (slots + sr) ∧
      Steps p.tables e below (doInvoke e (U.setTop g) [] mk a).1 ((xAt U t).setTop { g with pc := g.pc + 3, stack := v.toList ++ g.stack })) ∨
    (∃ (q : Addr) (t : State) (L : List Loc) (E : String) (ce : Cell), XC E (U.calling g mk a) t ∧ t.heap[q]? = some ce ∧ ce.vm = .none ∧ U.vm.findClass E = some ce.cls ∧ (∀ z ∈ L, free z.base) ∧ Stand p l e R s m args below meth c (xAt U t) (locs ++ L) (cells + mc) (slots + ms) ∧
      Steps p.tables e below (doInvoke e (U.setTop g) [] mk a).1 (((xAt U t).setTop g).pushFrame (.throwing q))) := by
  have h1 : (headSpec ws rm).pre.before a U = true := atoms_intro fun w hw => hws w hw _ _ X.warmed
  obtain ⟨meth9, c9, hmY, hcY, hlY⟩ := hcd a U mk X.warmed hn
  have h3 : (Cond.initialized y.cls).before a U = true := hini _ _ X.warmed
  obtain ⟨kY, hkY, -⟩ := className_of_methodNamed hn
  have hinitY : kY.init = .initialized := Cond.initialized_spec (findClass_of_methodNamed hn) hkY h3
  have h : At U g.method c below := by rw [hg]; exact X.here
  have happ : (headSpec ws rm).appliesLoose y e.platform (U.calling g mk a) = true :=
    Spec.appliesLoose_calling (g := g) h hdg hn hkY hinitY
      (X.room_calling (g := g) (R' := (headSpec ws rm).room) hsize hmY hcY hfr (by rw [hlY]; show _ + (maxL + 11) + rm.locals ≤ _; omega) (by show cells + rm.cells ≤ _; rw [hrc]; exact hc) (by show slots + rm.slots ≤ _; rw [hrs]; exact hs)) h1
  obtain ⟨mid, hmid⟩ := h.above
  have hfr2 : (U.setTop g).frames = (.java g :: mid) ++ below := by rw [State.frames_setTop' g h.top, hmid]; rfl
  obtain ⟨o, t, hsteps, -, hend, hq⟩ := Steps.callFree hM p X.admits X.cas X.clock (acts := []) hfr2 happ hP trivial
  have hq' : xAns Qc XC mr sr mc ms free a (U.calling g mk a) o t := hq
  rw [State.frames_setTop' g h.top] at hend
  obtain ⟨g₀, hg0⟩ := Option.isSome_iff_exists.mp h.top
  obtain ⟨r, hr⟩ := State.topJava?_eq_some.mp hg0
  have hr' : (xAt U t).frames = .java g₀ :: r := hr
  have stand : ∀ (L : List Loc) (k n : Nat), (U.calling g mk a).WarmedH t.vm → (U.calling g mk a).sameButNew ({ t with vm := (U.calling g mk a).vm } : State) L k n → Stand p l e R s m args below meth c (xAt U t) (locs ++ L) (cells + k) (slots + n) := by
    intro L k n hW₂ hsm
    obtain ⟨-, q2, q3, q4, q5, q6⟩ := hsm
    have hW' : U.WarmedH t.vm := hW₂
    have hsame : U.sameButNew ({ U with heap := t.heap, slotsUsed := t.slotsUsed } : State) L k n := by
      refine ⟨?_, q2, q3, q4, q5, q6⟩
      obtain ⟨th, ht, -⟩ := State.frames_cons hr
      show ({ U with heap := t.heap, slotsUsed := t.slotsUsed } : State) = { U.setFrames U.frames with heap := t.heap, slotsUsed := t.slotsUsed }
      rw [State.setFrames_self ht]
    exact ⟨X.admits, X.cas, X.clock, X.frames, X.room, X.hears, X.method, X.code, (X.here.setHeapUsed t.heap t.slotsUsed).setVm hW'.alike, X.tail, State.WarmedH.trans X.warmed hW', X.limits, X.bytes, X.same.trans (hsame.setVm s.vm)⟩
  have same3 : ∀ (L : List Loc) (k n : Nat), (U.calling g mk a).sameButNew ({ t with vm := (U.calling g mk a).vm } : State) L k n → t = ({ (U.calling g mk a).setFrames t.frames with heap := t.heap, slotsUsed := t.slotsUsed } : State).setVm t.vm := by
    intro L k n hsm
    have e2 := hsm.1
    have : t = ({ t with vm := (U.calling g mk a).vm } : State).setVm t.vm := rfl
    rw [e2] at this
    exact this
  rcases hq' with ⟨hqc, L, hfe, hL⟩ | ⟨q, rfl, E, ce, L, hx, hce, hcv, hcl, hW₂, hsm, hL⟩
  · obtain ⟨⟨v, rfl⟩, hW₂, hsm⟩ := id hfe
    obtain ⟨c₂, i₂, len₂, hc₂, hd₂, hf₂⟩ := hend
    have hW' : U.WarmedH t.vm := hW₂
    have hcc : c₂ = c := by
      have h1 : t.code? g.method = U.code? g.method := by
        rw [State.code?_eq, State.code?_eq, hW'.alike.method?]
      exact Option.some.inj (hc₂.symm.trans (h1.trans h.code))
    subst hcc
    have hlen : len₂ = 3 := by rw [hdg] at hd₂; cases hd₂; rfl
    subst hlen
    have hs₂ : t = (xAt U t).setTop { g with pc := g.pc + 3, stack := v.toList ++ g.stack } := by
      refine (same3 L _ _ hsm).trans ?_
      rw [hf₂, State.calling_eq h.top, State.setFrames_setFrames, State.setTop_of_frames _ hr', hr]
      rfl
    refine Or.inl ⟨v, t, L, hqc, hL, stand L _ _ hW₂ hsm, ?_⟩
    rw [← hs₂]
    exact hsteps
  · have hs₂ : t = ((xAt U t).setTop g).pushFrame (.throwing q) := by
      refine (same3 L _ _ hsm).trans ?_
      have hend' : t.frames = .throwing q :: .java g :: r := by rw [hend, hr]; rfl
      have hpf : ((xAt U t).setFrames (.java g :: r)).pushFrame (.throwing q) = (xAt U t).setFrames (.throwing q :: .java g :: r) := by
        show ((xAt U t).setFrames (.java g :: r)).setFrames (.throwing q :: ((xAt U t).setFrames (.java g :: r)).frames) = _
        rw [State.frames_setFrames _ (State.cur_lt_of_frames hr'), State.setFrames_setFrames]
      rw [hend', State.calling_eq h.top, State.setFrames_setFrames, State.setTop_of_frames _ hr', hpf]
      rfl
    refine Or.inr ⟨q, t, L, E, ce, hx, hce, hcv, hcl, hL, stand L _ _ hW₂ hsm, ?_⟩
    rw [← hs₂]
    exact hsteps

variable {H : Heap} {Ts : List Cond} {own C : String} {cc : ByteArray} {nL n index : Nat} {b : Addr} {As rest : List Value} {g : JFrame}
def xRun (p : Program) (l : Launch) (e : Env) (R : Room) (s : State) (m : MethodId) (args : Array Value) (below : List Frame) (meth : Method) (c : Code) (H : Heap) (locs : List Loc) (cells slots mr sr mc ms : Nat) (g : JFrame) (rest : List Value) (Qa : State → Outcome → State → Prop) (XC : String → State → State → Prop) (free : Addr → Prop) : Prop :=
  ∀ T : State, T.heap = H → Stand p l e R s m args below meth c T locs cells slots →
    (∃ (v : Option Value) (st₀ t T' : State) (L : List Loc), st₀.heap = H ∧ Stand p l e R s m args below meth c T' (locs ++ L) (cells + mr) (slots + sr) ∧ (∀ q ∈ L, free q.base) ∧ T'.heap = t.heap ∧ T'.vm = t.vm ∧ Qa st₀ (.returned v) t ∧ ∀ target, Steps p.tables e below (T'.setTop { g with pc := g.pc + 3, stack := v.toList ++ rest }) target → Steps p.tables e below (T.setTop g) target) ∨
    (∃ (q : Addr) (st₀ t T' : State) (L : List Loc) (E : String) (ce : Cell), st₀.heap = H ∧ Stand p l e R s m args below meth c T' (locs ++ L) (cells + mc) (slots + ms) ∧ (∀ z ∈ L, free z.base) ∧ T'.heap = t.heap ∧ T'.vm = t.vm ∧ XC E st₀ t ∧ t.heap[q]? = some ce ∧ ce.vm = .none ∧ s.vm.findClass E = some ce.cls ∧ ∀ target, Steps p.tables e below ((T'.setTop { g with stack := rest }).pushFrame (.throwing q)) target → Steps p.tables e below (T.setTop g) target)
theorem x_code {y : MethodName} {bytes : ByteArray} {maxL : Nat} {ret : Option FieldType} {s : State} {ws : List Cond} (hws : ∀ w ∈ ws, ∀ (a' : Array Value) (U : State), s.WarmedH U.vm → w.before a' U = true) (hcw : Cond.code y bytes maxL ret ∈ ws) : ∀ (a' : Array Value) (U : State) (mk : MethodId), s.WarmedH U.vm → U.methodNamed? y = some mk → ∃ meth9 c9, U.vm.method? mk = some meth9 ∧ meth9.code = some c9 ∧ c9.maxLocals = maxL := by
  intro a' U mk hW hn
  obtain ⟨meth9, c9, h1, h2, -, h4, -⟩ := Cond.code_spec hn (hws _ hcw a' U hW)
  exact ⟨meth9, c9, h1, h2, h4⟩
theorem xRunV (S : CallFix p m c cc nL s args Ts own) (hM : xMet l y ws rm Pc Qc XC mr sr mc ms free) (cw : CallW R s args own C index y bytes maxL ret ws rm mc ms n) (hp : PreV s H C b Pc As)
    (hg : g.method = m) (hn : As.length = n) (hsize : g.locals.size = nL) (hstack : g.stack = As.reverse ++ .ref b :: rest) (hW : 2 * g.monitorRoom + (rest.map fun v => v.category).sum ≤ 8) (hdg : decode cc g.pc = .ok (.invokevirtual index, 3)) (hf : cells + mc ≤ R.cells ∧ slots + ms ≤ R.slots) :
    xRun p l e R s m args below meth c H locs cells slots mr sr mc ms g rest (Qc (Value.ref b :: As).toArray) XC free := by
  obtain ⟨⟨hrc, hrs, hfr, hlo, hws, hcw, hcode, hini, hy, hlen, hlink⟩, hinst, hsel⟩ := cw
  obtain ⟨hx, hb, hml, hown, -⟩ := S
  obtain ⟨hbl, ⟨cellB, hcell, hobj, hcls⟩, hPc⟩ := hp
  intro T hT X
  subst hb
  obtain ⟨mk, methM, hnamed, hmethM, hstM, habM⟩ := Cond.instanceMethod_spec hinst
  obtain ⟨methM', cM, hmethM', -, -, -, -, -, -, hsigM⟩ := Cond.code_spec hnamed hcode
  cases hmethM.symm.trans hmethM'
  obtain ⟨c2, r2, m2, q1, q2, q3, q4, kP, hkP, hkPi⟩ := Cond.selects_spec hsel
  cases hcls.symm.trans q1
  cases (State.methodFound?_of_named hnamed hy).symm.trans q2
  cases hnamed.symm.trans q3
  have hselP : selectMethod e.platform s.vm cellB.cls mk = .method mk := by rw [Launch.admits_selectMethod X.admits]; exact q4
  obtain ⟨vm₁, X₁, hstep₁⟩ := X.invokevirtual hx hown hlink hnamed hmethM hstM hkP hkPi hy (a := b) (cell := cellB) (by rw [hT]; exact hcell)
    (fun z h => by rw [h] at hobj; cases hobj) hselP hmethM habM hkP hkPi (g := g) hg (argsL := As) (rest := rest) (hn.trans (hlen _ hsigM)) hstack hdg
  rcases x_core X₁ hM hrc hrs hfr hlo hws (x_code hws hcw) (fun a' U hW => word_at hW (Or.inl (by first | rfl | simp [Cond.onTables, Cond.keeps, Cond.steady])) hini) (g := { g with stack := rest }) (ig := .invokevirtual index) (mk := mk) (a := (Value.ref b :: As).toArray) hg (hsize.trans hml.symm) hdg hW (X₁.named hnamed) hf.1 hf.2 (hbl _ _ _ _ (hPc (T.setVm vm₁) hT X₁.warmed)) with ⟨v, t, L, h1, h2, h3, h4⟩ | ⟨q, t, L, E, ce, h1, h2, h3, h4, h5, h6, h7⟩
  · exact Or.inl ⟨v, (T.setVm vm₁).calling { g with stack := rest } mk (Value.ref b :: As).toArray, t, _, L, hT, h3, h2, rfl, rfl, h1, fun target h => hstep₁ _ fun acts => by rw [doInvoke_state]; exact h4.trans h⟩
  · exact Or.inr ⟨q, (T.setVm vm₁).calling { g with stack := rest } mk (Value.ref b :: As).toArray, t, _, L, E, ce, hT, h6, h5, rfl, rfl, h1, h2, h3, by rw [← X₁.warmed.alike.findClass]; exact h4, fun target h => hstep₁ _ fun acts => by rw [doInvoke_state]; exact h7.trans h⟩
theorem xRunS (S : CallFix p m c cc nL s args Ts own) (hM : xMet l y ws rm Pc Qc XC mr sr mc ms free) (cw : CallB R s args own index y bytes maxL ret ws rm mc ms n ∧ (Cond.static y).before args s = true) (hp : PreS s H Pc As)
    (hg : g.method = m) (hn : As.length = n) (hsize : g.locals.size = nL) (hstack : g.stack = As.reverse ++ rest) (hW : 2 * g.monitorRoom + (rest.map fun v => v.category).sum ≤ 8) (hdg : decode cc g.pc = .ok (.invokestatic index, 3)) (hf : cells + mc ≤ R.cells ∧ slots + ms ≤ R.slots) :
    xRun p l e R s m args below meth c H locs cells slots mr sr mc ms g rest (Qc As.toArray) XC free := by
  obtain ⟨⟨hrc, hrs, hfr, hlo, hws, hcw, hcode, hini, hy, hlen, hlink⟩, hstat⟩ := cw
  obtain ⟨hx, hb, hml, hown, -⟩ := S
  obtain ⟨hbl, hPc⟩ := hp
  intro T hT X
  subst hb
  obtain ⟨mk, hnamed⟩ := Cond.code_named hcode
  obtain ⟨methM, cM, hmethM, -, -, -, -, -, -, hsigM⟩ := Cond.code_spec hnamed hcode
  have hstatic : methM.isStatic = true := Cond.static_spec hnamed hmethM hstat
  obtain ⟨kP, hkP, -⟩ := className_of_methodNamed hnamed
  have hinitP : kP.init = .initialized := Cond.initialized_spec (findClass_of_methodNamed hnamed) hkP hini
  obtain ⟨vm₁, X₁, hstep₁⟩ := X.invokestatic hx hown hlink hnamed hmethM hstatic hkP hinitP hy (g := g) hg (argsL := As) (rest := rest) (hn.trans (hlen _ hsigM)) hstack hdg
  rcases x_core X₁ hM hrc hrs hfr hlo hws (x_code hws hcw) (fun a' U hW => word_at hW (Or.inl (by first | rfl | simp [Cond.onTables, Cond.keeps, Cond.steady])) hini) (g := { g with stack := rest }) (ig := .invokestatic index) (mk := mk) (a := As.toArray) hg (hsize.trans hml.symm) hdg hW (X₁.named hnamed) hf.1 hf.2 (hbl _ _ _ _ (hPc (T.setVm vm₁) hT X₁.warmed)) with ⟨v, t, L, h1, h2, h3, h4⟩ | ⟨q, t, L, E, ce, h1, h2, h3, h4, h5, h6, h7⟩
  · exact Or.inl ⟨v, (T.setVm vm₁).calling { g with stack := rest } mk As.toArray, t, _, L, hT, h3, h2, rfl, rfl, h1, fun target h => hstep₁ _ fun acts => by rw [doInvoke_state]; exact h4.trans h⟩
  · exact Or.inr ⟨q, (T.setVm vm₁).calling { g with stack := rest } mk As.toArray, t, _, L, E, ce, hT, h6, h5, rfl, rfl, h1, h2, h3, by rw [← X₁.warmed.alike.findClass]; exact h4, fun target h => hstep₁ _ fun acts => by rw [doInvoke_state]; exact h7.trans h⟩
end XCore
/-- the method's frame g, with q thrown over it -/
def xW (p : Program) (l : Launch) (e : Env) (R : Room) (s : State) (m : MethodId) (args : Array Value) (below : List Frame) (meth : Method) (c : Code) (H : Heap) (locs : List Loc) (cells slots : Nat) (Q : State → Prop) (g : JFrame) (q : Addr) : Prop :=
  ∀ T : State, T.heap = H → Stand p l e R s m args below meth c T locs cells slots → ∃ t, Steps p.tables e below ((T.setTop g).pushFrame (.throwing q)) t ∧ Q t
def xMQ (below : List Frame) (Qc : Array Value → State → Outcome → State → Prop) (XC : String → State → State → Prop) (a : Array Value) (s : State) (mr sr mc ms : Nat) (free : Addr → Prop) : State → Prop := fun t => ∃ o, t.status = .running ∧ Ended t below o ∧ xAns Qc XC mr sr mc ms free a s o t
/-- what is thrown: E with px E, and the cells ws are as they were -/
abbrev XC_ (A : Nat → Prop) (dC : Nat → ClassId) (dI : Nat → Nat → Nat) (cI cJ cZ : ClassId) (ws : va_W) (px : String → Prop) : String → State → State → Prop := fun E st t => px E ∧ at_ dC dI cI cJ cZ A ws t ∧ va_F A st t
section XQ
variable (below : List Frame) (args : Array Value) (s : State) (A : Nat → Prop) (dC : Nat → ClassId) (dI : Nat → Nat → Nat) (cI cJ cZ : ClassId) (rm : Room) (fr : Nat → Prop)
def Qix {S : Type} (ws : va_W) (px : String → Prop) (post : Int32 → S → Prop) (wf : S → va_W) : State → Prop := xMQ below (va_Qi post (fun u t => at_ dC dI cI cJ cZ A (wf u) t) A) (XC_ A dC dI cI cJ cZ ws px) args s 0 0 rm.cells rm.slots fr
def Qvx {S : Type} (ws : va_W) (px : String → Prop) (post : S → Prop) (wf : S → va_W) : State → Prop := xMQ below (va_Qv post (fun u t => at_ dC dI cI cJ cZ A (wf u) t) A) (XC_ A dC dI cI cJ cZ ws px) args s 0 0 rm.cells rm.slots fr
end XQ
section XK
variable (l : Launch) (y : MethodName) (b : ByteArray) (nL : Nat) (rt : Option FieldType) (rm : Room) (dC : Nat → ClassId) (dI : Nat → Nat → Nat) (cI cJ cZ : ClassId) (av : List Value) (ws : va_W)
/-- a method that answers, or throws and has written nothing then; 'ro' says that it writes nothing at all -/
def xfr (ro : Bool) (ws : va_W) (sz : Nat) : Nat → Prop := match ro with | true => fun q => sz ≤ q | false => va_A ws sz
def Kix (ro : Bool) {S : Type} (px : String → Prop) (post : Int32 → S → Prop) (wf : S → va_W) : Prop := ∀ sz : Nat, xMet l y (.code y b nL rt :: GB) rm (va_Pc av (pc_ dC dI cI cJ cZ sz ws)) (va_Qi post (fun u t => at_ dC dI cI cJ cZ (va_A ws sz) (wf u) t) (va_A ws sz)) (XC_ (va_A ws sz) dC dI cI cJ cZ ws px) 0 0 rm.cells rm.slots (xfr ro ws sz)
def Kvx (ro : Bool) {S : Type} (px : String → Prop) (post : S → Prop) (wf : S → va_W) : Prop := ∀ sz : Nat, xMet l y (.code y b nL rt :: GB) rm (va_Pc av (pc_ dC dI cI cJ cZ sz ws)) (va_Qv post (fun u t => at_ dC dI cI cJ cZ (va_A ws sz) (wf u) t) (va_A ws sz)) (XC_ (va_A ws sz) dC dI cI cJ cZ ws px) 0 0 rm.cells rm.slots (xfr ro ws sz)
end XK
theorem x_ofW {l : Launch} {y : MethodName} {ws ws' : List Cond} {rm : Room} {Pc : Array Value → State → Prop} {Qc : Array Value → State → Outcome → State → Prop} {XC : String → State → State → Prop} {mr sr mc ms : Nat} {free : Addr → Prop} {cc : ByteArray} {maxL : Nat} {ret : Option FieldType} (hy : plainName y.cls = true) (hw : ws = Cond.code y cc maxL ret :: ws')
    (body : ∀ p e s m args below meth c s₁, BodyLoose p l y (headSpec ws rm) cc maxL ret e s m args below meth c s₁ → c.maxLocals = maxL → (∀ x ∈ c.exceptionTable.toList, False) → Pc args s →
      W p l e (headSpec ws rm).room s m args below meth c s.heap [] 0 0 (xMQ below Qc XC args s mr sr mc ms free) (entryFrame m args maxL)) : xMet l y ws rm Pc Qc XC mr sr mc ms free := by
  refine MetFree.of_bodyS (code := cc) (maxLocals := maxL) (ret := ret) hy ?_ ?_
  · intro args s m h hn
    obtain ⟨meth, c, h1, h2, h3, h4, h5, h6, -, -⟩ := Cond.code_spec hn (atoms_spec (ws := ws) h _ (by rw [hw]; exact List.mem_cons_self))
    exact ⟨meth, c, h1, h2, h3, h4, h5, h6⟩
  · intro p e s m args below meth c s₁ B hml hP _
    have hh0 : s₁.heap = s.heap := by rw [B.state]; rfl
    have hno : c.exceptionTable.isEmpty = true := B.noHandlers (atoms_spec (ws := ws) B.pre _ (by rw [hw]; exact List.mem_cons_self))
    obtain ⟨t, a1, o, b1, b2, b3⟩ := body p e s m args below meth c s₁ B hml (fun x hx => by rw [Array.isEmpty_iff.mp hno] at hx; cases hx) hP s₁ hh0 (Stand.of_body B)
    exact ⟨t, o, a1, b1, b2, b3⟩
section XM
variable {l : Launch} {y : MethodName} {b : ByteArray} {nL : Nat} {rt : Option FieldType} {rm : Room} {dC : Nat → ClassId} {dI : Nat → Nat → Nat} {cI cJ cZ : ClassId} {av : List Value} {ws : va_W} {ro : Bool}
theorem mkix (hl9 : l.stackTraces = false) {S : Type} {px : String → Prop} {post : Int32 → S → Prop} {wf : S → va_W} {own : String} (ho : y.cls = own) (hy : plainName y.cls = true)
    (body : ∀ (p : Program) (e : Env) (s : State) (m : MethodId) (args : Array Value) (below : List Frame) (meth : Method) (c : Code) (A fr : Nat → Prop), cxM b nL rt own l dC dI cI cJ cZ A p s m args meth c → (∀ x ∈ c.exceptionTable.toList, False) → fr = xfr ro ws s.heap.size → A = va_A ws s.heap.size → meth.name = y.name → args = av.toArray → va_P (dC, dI) classes ws s.heap → va_D A ws →
      W p l e rm s m args below meth c s.heap [] 0 0 (Qix below args s A dC dI cI cJ cZ rm fr ws px post wf) (entryFrame m args nL)) : Kix l y b nL rt rm dC dI cI cJ cZ av ws ro px post wf := by
  intro sz
  refine x_ofW (cc := b) (maxL := nL) (ret := rt) hy rfl ?_
  intro p e s m args below meth c s₁ B hml hEx hv
  obtain ⟨hav, hsz, hP, hK, hD0, hZ⟩ := hv
  subst hsz
  have hts := atoms_spec (ws := Cond.code y b nL rt :: GB) B.pre
  have hown : s.vm.findClass y.cls = some m.cls := findClass_of_methodNamed B.named
  rw [ho] at hown
  exact body p e s m args below meth c (va_A ws s.heap.size) _ ⟨hl9, B.exec, B.bytes, hml, B.returns, hown, fun w h => hts w (List.mem_cons_of_mem _ h), B.notSynchronized, hK, hZ, fun q h => Or.inr h, ws_ns hP⟩ hEx rfl rfl (name_of_methodNamed B.named B.method).1 hav hP hD0.self
theorem mkvx (hl9 : l.stackTraces = false) {S : Type} {px : String → Prop} {post : S → Prop} {wf : S → va_W} {own : String} (ho : y.cls = own) (hy : plainName y.cls = true)
    (body : ∀ (p : Program) (e : Env) (s : State) (m : MethodId) (args : Array Value) (below : List Frame) (meth : Method) (c : Code) (A fr : Nat → Prop), cxM b nL rt own l dC dI cI cJ cZ A p s m args meth c → (∀ x ∈ c.exceptionTable.toList, False) → fr = xfr ro ws s.heap.size → A = va_A ws s.heap.size → meth.name = y.name → args = av.toArray → va_P (dC, dI) classes ws s.heap → va_D A ws →
      W p l e rm s m args below meth c s.heap [] 0 0 (Qvx below args s A dC dI cI cJ cZ rm fr ws px post wf) (entryFrame m args nL)) : Kvx l y b nL rt rm dC dI cI cJ cZ av ws ro px post wf := by
  intro sz
  refine x_ofW (cc := b) (maxL := nL) (ret := rt) hy rfl ?_
  intro p e s m args below meth c s₁ B hml hEx hv
  obtain ⟨hav, hsz, hP, hK, hD0, hZ⟩ := hv
  subst hsz
  have hts := atoms_spec (ws := Cond.code y b nL rt :: GB) B.pre
  have hown : s.vm.findClass y.cls = some m.cls := findClass_of_methodNamed B.named
  rw [ho] at hown
  exact body p e s m args below meth c (va_A ws s.heap.size) _ ⟨hl9, B.exec, B.bytes, hml, B.returns, hown, fun w h => hts w (List.mem_cons_of_mem _ h), B.notSynchronized, hK, hZ, fun q h => Or.inr h, ws_ns hP⟩ hEx rfl rfl (name_of_methodNamed B.named B.method).1 hav hP hD0.self
end XM
section XR
variable {b : ByteArray} {nL : Nat} {rt : Option FieldType} {own : String} {p : Program} {l : Launch} {e : Env} {R rm : Room} {s : State} {m : MethodId} {args : Array Value} {below : List Frame} {meth : Method} {c : Code} {H : Heap} {locs : List Loc} {cells slots : Nat} {dC : Nat → ClassId} {dI : Nat → Nat → Nat} {cI cJ cZ : ClassId} {A fr : Nat → Prop} {S : Type} {wf : S → va_W} {u : S} {pc : Nat} {ls : Array Slot} {ws : va_W} {px : String → Prop}
theorem x_ret {Qc : Array Value → State → Outcome → State → Prop} {XC : String → State → State → Prop} {free : Addr → Prop} {g : JFrame} {mr sr mc ms : Nat} (k : W p l e R s m args below meth c H locs cells slots (MQ below Qc args s mr sr free) g) : W p l e R s m args below meth c H locs cells slots (xMQ below Qc XC args s mr sr mc ms free) g := by
  intro T hT X
  obtain ⟨t, a1, o, b1, b2, b3, b4⟩ := k T hT X
  exact ⟨t, a1, o, b1, b2, Or.inl ⟨b3, b4⟩⟩
theorem rx_i {post : Int32 → S → Prop} {r : Int32} (C : cxM b nL (some .int) own l dC dI cI cJ cZ A p s m args meth c) (hw : post r u) (hP : va_P (dC, dI) classes (wf u) H) (hD : va_D A (wf u)) (hS : va_S A s.heap H locs) (hF : ∀ q ∈ locs, fr q.base) (hc : cells ≤ 0) (hs : slots ≤ 0) (hd : decode b pc = .ok (.ireturn, 1)) : W p l e R s m args below meth c H locs cells slots (Qix below args s A dC dI cI cJ cZ rm fr ws px post wf) (F0 m pc ls [.int r]) := by
  obtain ⟨-, hx, hb, -, hr, -, -, hlocks, hK, -⟩ := C
  refine W.widen hc hs ?_
  exact x_ret (W.iret (v := r) hx hb hr (fun t ht hW => ⟨⟨r, u, rfl, hw, by rw [ht]; exact hP, va_K.moved hW.alike hK, hD⟩, hS.F ht⟩) hF hd)
theorem rx_z {post : Int32 → S → Prop} {r : Int32} (C : cxM b nL (some .boolean) own l dC dI cI cJ cZ A p s m args meth c) (hz : narrow .boolean (.int r) = .int r) (hw : post r u) (hP : va_P (dC, dI) classes (wf u) H) (hD : va_D A (wf u)) (hS : va_S A s.heap H locs) (hF : ∀ q ∈ locs, fr q.base) (hc : cells ≤ 0) (hs : slots ≤ 0) (hd : decode b pc = .ok (.ireturn, 1)) : W p l e R s m args below meth c H locs cells slots (Qix below args s A dC dI cI cJ cZ rm fr ws px post wf) (F0 m pc ls [.int r]) := by
  obtain ⟨-, hx, hb, -, hr, -, -, hlocks, hK, -⟩ := C
  refine W.widen hc hs ?_
  exact x_ret (W.zret (v := r) hx hb hr hz (fun t ht hW => ⟨⟨r, u, rfl, hw, by rw [ht]; exact hP, va_K.moved hW.alike hK, hD⟩, hS.F ht⟩) hF hd)
theorem rx_v {post : S → Prop} (C : cxM b nL none own l dC dI cI cJ cZ A p s m args meth c) (hw : post u) (hP : va_P (dC, dI) classes (wf u) H) (hD : va_D A (wf u)) (hS : va_S A s.heap H locs) (hF : ∀ q ∈ locs, fr q.base) (hc : cells ≤ 0) (hs : slots ≤ 0) (hd : decode b pc = .ok (.return_, 1)) : W p l e R s m args below meth c H locs cells slots (Qvx below args s A dC dI cI cJ cZ rm fr ws px post wf) (F0 m pc ls []) := by
  obtain ⟨-, hx, hb, -, hr, -, -, hlocks, hK, -⟩ := C
  refine W.widen hc hs ?_
  exact x_ret (W.vret hx hb hr (fun t ht hW => ⟨⟨u, rfl, hw, by rw [ht]; exact hP, va_K.moved hW.alike hK, hD⟩, hS.F ht⟩) hF hd)
theorem xoi {post : Int32 → S → Prop} {E : String} {ce : Cell} {q9 : Addr} {rest : List Value} (C : cxM b nL rt own l dC dI cI cJ cZ A p s m args meth c) (hEx : ∀ x ∈ c.exceptionTable.toList, False) (hw : px E) (hP : va_P (dC, dI) classes ws H) (hD : va_D A ws) (hS : va_S A s.heap H locs) (hF : ∀ q ∈ locs, fr q.base) (hce : H[q9]? = some ce) (hcv : ce.vm = .none) (hcl : s.vm.findClass E = some ce.cls) (hc : cells ≤ rm.cells) (hs : slots ≤ rm.slots) : xW p l e R s m args below meth c H locs cells slots (Qix below args s A dC dI cI cJ cZ rm fr ws px post wf) (F0 m pc ls rest) q9 := by
  obtain ⟨-, hx, hb, -, hr, -, -, hlocks, hK, -⟩ := C
  intro T hT X0
  have X := stand_widen X0 hc hs
  obtain ⟨st1, hrun, hend, hW, hsm⟩ := X.leaveThrown q9 (g := F0 m pc ls rest) rfl rfl rfl (fun x hx => (hEx x hx).elim) hlocks
  refine ⟨_, st1, .threw q9, hrun, hend, Or.inr ⟨q9, rfl, E, ce, locs, ⟨hw, ⟨?_, va_K.moved hW.alike hK, hD⟩, ?_⟩, ?_, hcv, hcl, hW, hsm, hF⟩⟩
  · show va_P (dC, dI) classes ws T.heap
    rw [hT]; exact hP
  · show s.heap.size ≤ T.heap.size ∧ _
    rw [hT]
    exact ⟨hS.1, fun q h1 h2 => by show T.heap[q]? = _; rw [hT]; exact hS.2.1 q h1 h2⟩
  · show T.heap[q9]? = some ce
    rw [hT]; exact hce
theorem xov {post : S → Prop} {E : String} {ce : Cell} {q9 : Addr} {rest : List Value} (C : cxM b nL rt own l dC dI cI cJ cZ A p s m args meth c) (hEx : ∀ x ∈ c.exceptionTable.toList, False) (hw : px E) (hP : va_P (dC, dI) classes ws H) (hD : va_D A ws) (hS : va_S A s.heap H locs) (hF : ∀ q ∈ locs, fr q.base) (hce : H[q9]? = some ce) (hcv : ce.vm = .none) (hcl : s.vm.findClass E = some ce.cls) (hc : cells ≤ rm.cells) (hs : slots ≤ rm.slots) : xW p l e R s m args below meth c H locs cells slots (Qvx below args s A dC dI cI cJ cZ rm fr ws px post wf) (F0 m pc ls rest) q9 := by
  obtain ⟨-, hx, hb, -, hr, -, -, hlocks, hK, -⟩ := C
  intro T hT X0
  have X := stand_widen X0 hc hs
  obtain ⟨st1, hrun, hend, hW, hsm⟩ := X.leaveThrown q9 (g := F0 m pc ls rest) rfl rfl rfl (fun x hx => (hEx x hx).elim) hlocks
  refine ⟨_, st1, .threw q9, hrun, hend, Or.inr ⟨q9, rfl, E, ce, locs, ⟨hw, ⟨?_, va_K.moved hW.alike hK, hD⟩, ?_⟩, ?_, hcv, hcl, hW, hsm, hF⟩⟩
  · show va_P (dC, dI) classes ws T.heap
    rw [hT]; exact hP
  · show s.heap.size ≤ T.heap.size ∧ _
    rw [hT]
    exact ⟨hS.1, fun q h1 h2 => by show T.heap[q]? = _; rw [hT]; exact hS.2.1 q h1 h2⟩
  · show T.heap[q9]? = some ce
    rw [hT]; exact hce
end XR
section XC
variable {b cb : ByteArray} {nL cL idx n9 : Nat} {rt crt : Option FieldType} {own : String} {y : MethodName} {p : Program} {l : Launch} {e : Env} {R rm : Room} {s : State} {m : MethodId} {args : Array Value} {below : List Frame} {meth : Method} {c : Code} {H : Heap} {locs : List Loc} {cells slots : Nat} {dC : Nat → ClassId} {dI : Nat → Nat → Nat} {cI cJ cZ : ClassId} {A : Nat → Prop} {pc : Nat} {ls : Array Slot} {ws wc : va_W} {As rest st : List Value} {q ci N9 : Nat} {fs : List Value} {T9 : u_T} {Qc : Array Value → State → Outcome → State → Prop} {XC : String → State → State → Prop} {fr : Addr → Prop} {Q : State → Prop} {mr sr : Nat}
theorem ru_Vx (C : cxM b nL rt own l dC dI cI cJ cZ A p s m args meth c) (hM : xMet l y (.code y cb cL crt :: GB) rm (va_Pc (.ref q :: As) (pc_ dC dI cI cJ cZ H.size wc)) Qc XC mr sr rm.cells rm.slots fr) (kc : Cond.code y cb cL crt ∈ GB) (kl : Cond.methodLink own idx y ∈ GB) (ki : Cond.instanceMethod y ∈ GB) (ks : Cond.selects y.cls y y ∈ GB) (kn : Cond.initialized y.cls ∈ GB) (hd : y.cls ≠ "java/lang/invoke/MethodHandle" ∧ y.cls ≠ "java/lang/invoke/VarHandle" ∧ (parseMethodDescriptor y.desc).map (fun d => d.parameters.length) = some n9) (hln : As.length = n9) (hci : classes[ci]? = some (y.cls, T9, N9)) (h0 : wc[0]? = some (q, .inr (ci, fs)))
    (hR : rm.frames + 1 ≤ R.frames ∧ 8 + (cL + 11) + rm.locals ≤ R.locals) (hP : va_P (dC, dI) classes ws H) (hD : va_D A ws) (hS : va_S A s.heap H locs) (isC : List Nat) (hC : isC.map (fun i => ws[i]?) = wc.map some) (hnd : va_nd isC = true) (hsz : ls.size = nL) (hst : st = As.reverse ++ .ref q :: rest) (hcat : (rest.map fun v => v.category).sum ≤ 8) (hdg : decode b pc = .ok (.invokevirtual idx, 3)) (hf : cells + rm.cells ≤ R.cells ∧ slots + rm.slots ≤ R.slots) :
    xRun p l e R s m args below meth c H locs cells slots mr sr rm.cells rm.slots (F0 m pc ls st) rest (Qc (Value.ref q :: As).toArray) XC fr := by
  obtain ⟨-, hx, hb, hml, -, hown, hts, -, hK, hZ, hA, hNS⟩ := C
  have hPc : va_P (dC, dI) classes wc H := va_Psub hP isC hC
  have hDc := hD.sub isC hnd hC
  have hpre : ∀ U : State, U.heap = H → s.WarmedH U.vm → va_Pc (.ref q :: As) (pc_ dC dI cI cJ cZ H.size wc) (Value.ref q :: As).toArray U := fun U hU hW => ⟨rfl, by rw [hU], by rw [hU]; exact hPc, va_K.moved hW.alike hK, hDc.weaken (fun _ _ _ _ => trivial), by rw [hU]; exact hZ.warm hW (fun a ce h1 h2 => hS.2.1 a (Array.getElem?_eq_some_iff.mp h1).1 (fun h3 => by rw [hNS a ce h3 h1] at h2; cases h2))⟩
  exact xRunV (Ts := GB) (own := own) (As := As) (rest := rest) ⟨hx, hb, hml, hown, hts⟩ hM ⟨callB_of n9 hts (gd kc) rfl rfl rfl (hts _ kn) (hts _ kl) hd hR, hts _ ki, hts _ ks⟩ ⟨pc_blind, va_recv hK hPc hci h0, hpre⟩ rfl hln hsz hst (lv_room hcat) hdg hf
theorem ru_Sx (C : cxM b nL rt own l dC dI cI cJ cZ A p s m args meth c) (hM : xMet l y (.code y cb cL crt :: GB) rm (va_Pc As (pc_ dC dI cI cJ cZ H.size wc)) Qc XC mr sr rm.cells rm.slots fr) (kc : Cond.code y cb cL crt ∈ GB) (kl : Cond.methodLink own idx y ∈ GB) (ki : Cond.static y ∈ GB) (kn : Cond.initialized y.cls ∈ GB) (hd : y.cls ≠ "java/lang/invoke/MethodHandle" ∧ y.cls ≠ "java/lang/invoke/VarHandle" ∧ (parseMethodDescriptor y.desc).map (fun d => d.parameters.length) = some n9) (hln : As.length = n9)
    (hR : rm.frames + 1 ≤ R.frames ∧ 8 + (cL + 11) + rm.locals ≤ R.locals) (hP : va_P (dC, dI) classes ws H) (hD : va_D A ws) (hS : va_S A s.heap H locs) (isC : List Nat) (hC : isC.map (fun i => ws[i]?) = wc.map some) (hnd : va_nd isC = true) (hsz : ls.size = nL) (hst : st = As.reverse ++ rest) (hcat : (rest.map fun v => v.category).sum ≤ 8) (hdg : decode b pc = .ok (.invokestatic idx, 3)) (hf : cells + rm.cells ≤ R.cells ∧ slots + rm.slots ≤ R.slots) :
    xRun p l e R s m args below meth c H locs cells slots mr sr rm.cells rm.slots (F0 m pc ls st) rest (Qc As.toArray) XC fr := by
  obtain ⟨-, hx, hb, hml, -, hown, hts, -, hK, hZ, hA, hNS⟩ := C
  have hPc : va_P (dC, dI) classes wc H := va_Psub hP isC hC
  have hDc := hD.sub isC hnd hC
  have hpre : ∀ U : State, U.heap = H → s.WarmedH U.vm → va_Pc As (pc_ dC dI cI cJ cZ H.size wc) As.toArray U := fun U hU hW => ⟨rfl, by rw [hU], by rw [hU]; exact hPc, va_K.moved hW.alike hK, hDc.weaken (fun _ _ _ _ => trivial), by rw [hU]; exact hZ.warm hW (fun a ce h1 h2 => hS.2.1 a (Array.getElem?_eq_some_iff.mp h1).1 (fun h3 => by rw [hNS a ce h3 h1] at h2; cases h2))⟩
  exact xRunS (Ts := GB) (own := own) (As := As) (rest := rest) ⟨hx, hb, hml, hown, hts⟩ hM ⟨callB_of n9 hts (gd kc) rfl rfl rfl (hts _ kn) (hts _ kl) hd hR, hts _ ki⟩ ⟨pc_blind, hpre⟩ rfl hln hsz hst (lv_room hcat) hdg hf
theorem jxn_i {S : Type} {post : Int32 → S → Prop} {wf : S → va_W} {px : String → Prop} {mc ms : Nat} {a : Array Value} (C : cxM b nL rt own l dC dI cI cJ cZ A p s m args meth c) (hP : va_P (dC, dI) classes ws H) (hD : va_D A ws) (hS : va_S A s.heap H locs) (hN : ∀ q ∈ locs, s.heap.size ≤ q.base) (isC isR : List Nat) (hrun : xRun p l e R s m args below meth c H locs cells slots mr sr mc ms (F0 m pc ls st) rest (va_Qi post (fun u t => at_ dC dI cI cJ cZ (va_A wc H.size) (wf u) t) (va_A wc H.size) a) (XC_ (va_A wc H.size) dC dI cI cJ cZ wc px) (xfr true wc H.size))
    (hC : isC.map (fun i => ws[i]?) = wc.map some) (hRr : isR.map (fun i => ws[i]?) = (isR.filterMap (fun i => ws[i]?)).map some) (hn : va_nd isR = true) (hdis : ∀ i ∈ isR, i ∉ isC)
    (kx : ∀ (E : String) (ce : Cell) (q9 : Addr) (H1 : Heap) (locs1 : List Loc), px E → va_P (dC, dI) classes (isR.filterMap (fun i => ws[i]?) ++ wc) H1 → va_D A (isR.filterMap (fun i => ws[i]?) ++ wc) → va_S A s.heap H1 locs1 → (∀ q ∈ locs1, s.heap.size ≤ q.base) → H1[q9]? = some ce → ce.vm = .none → s.vm.findClass E = some ce.cls → xW p l e R s m args below meth c H1 locs1 (cells + mc) (slots + ms) Q (F0 m pc ls rest) q9)
    (kk : ∀ (r : Int32) (u : S) (H1 : Heap) (locs1 : List Loc), post r u → va_P (dC, dI) classes (isR.filterMap (fun i => ws[i]?) ++ wf u) H1 → va_D A (isR.filterMap (fun i => ws[i]?) ++ wf u) → va_S A s.heap H1 locs1 → (∀ q ∈ locs1, s.heap.size ≤ q.base) → W p l e R s m args below meth c H1 locs1 (cells + mr) (slots + sr) Q (F0 m (pc + 3) ls (.int r :: rest))) : W p l e R s m args below meth c H locs cells slots Q (F0 m pc ls st) := by
  have hA : ∀ q, s.heap.size ≤ q → A q := C.2.2.2.2.2.2.2.2.2.2.1
  have hFc := va_free hD hS hA isC hC
  have hfree : ∀ q, xfr true wc H.size q → A q := fun q h => hA q (Nat.le_trans hS.1 h)
  have keep : ∀ (T' t st₀ : State) (L : List Loc), st₀.heap = H → T'.heap = t.heap → va_F (va_A wc H.size) st₀ t → (∀ z ∈ L, xfr true wc H.size z.base) → (∀ q : Nat, q < H.size → ¬ va_A wc H.size q → T'.heap[q]? = H[q]?) ∧ va_S A s.heap T'.heap (locs ++ L) := by
    intro T' t st₀ L h0 e1 hF hL
    obtain ⟨f1, f2⟩ := hF
    rw [h0] at f1 f2
    have k2 : ∀ q : Nat, q < H.size → ¬ va_A wc H.size q → T'.heap[q]? = H[q]? := fun q g1 g2 => by rw [e1]; exact f2 q g1 g2
    refine ⟨k2, Nat.le_trans hS.1 (by rw [e1]; exact f1), fun q g1 g2 => ?_, fun z hz => ?_⟩
    · rw [k2 q (Nat.lt_of_lt_of_le g1 hS.1) (fun w => g2 (hFc q w))]
      exact hS.2.1 q g1 g2
    · rcases List.mem_append.mp hz with w | w
      · exact hS.2.2 z w
      · exact hfree _ (hL z w)
  have keepN : ∀ L : List Loc, (∀ z ∈ L, xfr true wc H.size z.base) → ∀ q ∈ locs ++ L, s.heap.size ≤ q.base := fun L hL z hz => by
    rcases List.mem_append.mp hz with w | w
    · exact hN z w
    · exact Nat.le_trans hS.1 (hL z w)
  intro T hT X
  rcases hrun T hT X with ⟨v, st₀, t, T', L, h0, X', hL, e1, e2, ⟨⟨r, u, hv, hp, hb⟩, hF⟩, st9⟩ | ⟨q, st₀, t, T', L, E, ce, h0, X', hL, e1, e2, ⟨hw, hb, hF⟩, hce, hcv, hcl, st9⟩
  · cases hv
    obtain ⟨k2, k3⟩ := keep T' t st₀ L h0 e1 hF hL
    obtain ⟨hP1, hK1, hD1⟩ := hb
    rw [← e1] at hP1
    obtain ⟨hP2, hD2⟩ := va_join hP hD isC isR hC hRr hn hdis k2 hFc hP1 hD1
    obtain ⟨t2, a1, b1⟩ := kk r u T'.heap (locs ++ L) hp hP2 hD2 k3 (keepN L hL) T' rfl X'
    exact ⟨t2, st9 t2 a1, b1⟩
  · obtain ⟨k2, k3⟩ := keep T' t st₀ L h0 e1 hF hL
    obtain ⟨hP1, hK1, hD1⟩ := hb
    rw [← e1] at hP1 hce
    obtain ⟨hP2, hD2⟩ := va_join hP hD isC isR hC hRr hn hdis k2 hFc hP1 hD1
    obtain ⟨t2, a1, b1⟩ := kx E ce q T'.heap (locs ++ L) hw hP2 hD2 k3 (keepN L hL) hce hcv hcl T' rfl X'
    exact ⟨t2, st9 t2 a1, b1⟩
theorem jx_i {S : Type} {post : Int32 → S → Prop} {wf : S → va_W} {px : String → Prop} {mc ms : Nat} {a : Array Value} (C : cxM b nL rt own l dC dI cI cJ cZ A p s m args meth c) (hP : va_P (dC, dI) classes ws H) (hD : va_D A ws) (hS : va_S A s.heap H locs) (isC isR : List Nat) (hrun : xRun p l e R s m args below meth c H locs cells slots mr sr mc ms (F0 m pc ls st) rest (va_Qi post (fun u t => at_ dC dI cI cJ cZ (va_A wc H.size) (wf u) t) (va_A wc H.size) a) (XC_ (va_A wc H.size) dC dI cI cJ cZ wc px) (xfr false wc H.size))
    (hC : isC.map (fun i => ws[i]?) = wc.map some) (hRr : isR.map (fun i => ws[i]?) = (isR.filterMap (fun i => ws[i]?)).map some) (hn : va_nd isR = true) (hdis : ∀ i ∈ isR, i ∉ isC)
    (kx : ∀ (E : String) (ce : Cell) (q9 : Addr) (H1 : Heap) (locs1 : List Loc), px E → va_P (dC, dI) classes (isR.filterMap (fun i => ws[i]?) ++ wc) H1 → va_D A (isR.filterMap (fun i => ws[i]?) ++ wc) → va_S A s.heap H1 locs1 → H1[q9]? = some ce → ce.vm = .none → s.vm.findClass E = some ce.cls → xW p l e R s m args below meth c H1 locs1 (cells + mc) (slots + ms) Q (F0 m pc ls rest) q9)
    (kk : ∀ (r : Int32) (u : S) (H1 : Heap) (locs1 : List Loc), post r u → va_P (dC, dI) classes (isR.filterMap (fun i => ws[i]?) ++ wf u) H1 → va_D A (isR.filterMap (fun i => ws[i]?) ++ wf u) → va_S A s.heap H1 locs1 → W p l e R s m args below meth c H1 locs1 (cells + mr) (slots + sr) Q (F0 m (pc + 3) ls (.int r :: rest))) : W p l e R s m args below meth c H locs cells slots Q (F0 m pc ls st) := by
  have hA : ∀ q, s.heap.size ≤ q → A q := C.2.2.2.2.2.2.2.2.2.2.1
  have hFc := va_free hD hS hA isC hC
  have hfree : ∀ q, xfr false wc H.size q → A q := hFc
  have keep : ∀ (T' t st₀ : State) (L : List Loc), st₀.heap = H → T'.heap = t.heap → va_F (va_A wc H.size) st₀ t → (∀ z ∈ L, xfr false wc H.size z.base) → (∀ q : Nat, q < H.size → ¬ va_A wc H.size q → T'.heap[q]? = H[q]?) ∧ va_S A s.heap T'.heap (locs ++ L) := by
    intro T' t st₀ L h0 e1 hF hL
    obtain ⟨f1, f2⟩ := hF
    rw [h0] at f1 f2
    have k2 : ∀ q : Nat, q < H.size → ¬ va_A wc H.size q → T'.heap[q]? = H[q]? := fun q g1 g2 => by rw [e1]; exact f2 q g1 g2
    refine ⟨k2, Nat.le_trans hS.1 (by rw [e1]; exact f1), fun q g1 g2 => ?_, fun z hz => ?_⟩
    · rw [k2 q (Nat.lt_of_lt_of_le g1 hS.1) (fun w => g2 (hFc q w))]
      exact hS.2.1 q g1 g2
    · rcases List.mem_append.mp hz with w | w
      · exact hS.2.2 z w
      · exact hfree _ (hL z w)
  intro T hT X
  rcases hrun T hT X with ⟨v, st₀, t, T', L, h0, X', hL, e1, e2, ⟨⟨r, u, hv, hp, hb⟩, hF⟩, st9⟩ | ⟨q, st₀, t, T', L, E, ce, h0, X', hL, e1, e2, ⟨hw, hb, hF⟩, hce, hcv, hcl, st9⟩
  · cases hv
    obtain ⟨k2, k3⟩ := keep T' t st₀ L h0 e1 hF hL
    obtain ⟨hP1, hK1, hD1⟩ := hb
    rw [← e1] at hP1
    obtain ⟨hP2, hD2⟩ := va_join hP hD isC isR hC hRr hn hdis k2 hFc hP1 hD1
    obtain ⟨t2, a1, b1⟩ := kk r u T'.heap (locs ++ L) hp hP2 hD2 k3 T' rfl X'
    exact ⟨t2, st9 t2 a1, b1⟩
  · obtain ⟨k2, k3⟩ := keep T' t st₀ L h0 e1 hF hL
    obtain ⟨hP1, hK1, hD1⟩ := hb
    rw [← e1] at hP1 hce
    obtain ⟨hP2, hD2⟩ := va_join hP hD isC isR hC hRr hn hdis k2 hFc hP1 hD1
    obtain ⟨t2, a1, b1⟩ := kx E ce q T'.heap (locs ++ L) hw hP2 hD2 k3 hce hcv hcl T' rfl X'
    exact ⟨t2, st9 t2 a1, b1⟩
theorem jxn_v {S : Type} {post : S → Prop} {wf : S → va_W} {px : String → Prop} {mc ms : Nat} {a : Array Value} (C : cxM b nL rt own l dC dI cI cJ cZ A p s m args meth c) (hP : va_P (dC, dI) classes ws H) (hD : va_D A ws) (hS : va_S A s.heap H locs) (hN : ∀ q ∈ locs, s.heap.size ≤ q.base) (isC isR : List Nat) (hrun : xRun p l e R s m args below meth c H locs cells slots mr sr mc ms (F0 m pc ls st) rest (va_Qv post (fun u t => at_ dC dI cI cJ cZ (va_A wc H.size) (wf u) t) (va_A wc H.size) a) (XC_ (va_A wc H.size) dC dI cI cJ cZ wc px) (xfr true wc H.size))
    (hC : isC.map (fun i => ws[i]?) = wc.map some) (hRr : isR.map (fun i => ws[i]?) = (isR.filterMap (fun i => ws[i]?)).map some) (hn : va_nd isR = true) (hdis : ∀ i ∈ isR, i ∉ isC)
    (kx : ∀ (E : String) (ce : Cell) (q9 : Addr) (H1 : Heap) (locs1 : List Loc), px E → va_P (dC, dI) classes (isR.filterMap (fun i => ws[i]?) ++ wc) H1 → va_D A (isR.filterMap (fun i => ws[i]?) ++ wc) → va_S A s.heap H1 locs1 → (∀ q ∈ locs1, s.heap.size ≤ q.base) → H1[q9]? = some ce → ce.vm = .none → s.vm.findClass E = some ce.cls → xW p l e R s m args below meth c H1 locs1 (cells + mc) (slots + ms) Q (F0 m pc ls rest) q9)
    (kk : ∀ (u : S) (H1 : Heap) (locs1 : List Loc), post u → va_P (dC, dI) classes (isR.filterMap (fun i => ws[i]?) ++ wf u) H1 → va_D A (isR.filterMap (fun i => ws[i]?) ++ wf u) → va_S A s.heap H1 locs1 → (∀ q ∈ locs1, s.heap.size ≤ q.base) → W p l e R s m args below meth c H1 locs1 (cells + mr) (slots + sr) Q (F0 m (pc + 3) ls (rest))) : W p l e R s m args below meth c H locs cells slots Q (F0 m pc ls st) := by
  have hA : ∀ q, s.heap.size ≤ q → A q := C.2.2.2.2.2.2.2.2.2.2.1
  have hFc := va_free hD hS hA isC hC
  have hfree : ∀ q, xfr true wc H.size q → A q := fun q h => hA q (Nat.le_trans hS.1 h)
  have keep : ∀ (T' t st₀ : State) (L : List Loc), st₀.heap = H → T'.heap = t.heap → va_F (va_A wc H.size) st₀ t → (∀ z ∈ L, xfr true wc H.size z.base) → (∀ q : Nat, q < H.size → ¬ va_A wc H.size q → T'.heap[q]? = H[q]?) ∧ va_S A s.heap T'.heap (locs ++ L) := by
    intro T' t st₀ L h0 e1 hF hL
    obtain ⟨f1, f2⟩ := hF
    rw [h0] at f1 f2
    have k2 : ∀ q : Nat, q < H.size → ¬ va_A wc H.size q → T'.heap[q]? = H[q]? := fun q g1 g2 => by rw [e1]; exact f2 q g1 g2
    refine ⟨k2, Nat.le_trans hS.1 (by rw [e1]; exact f1), fun q g1 g2 => ?_, fun z hz => ?_⟩
    · rw [k2 q (Nat.lt_of_lt_of_le g1 hS.1) (fun w => g2 (hFc q w))]
      exact hS.2.1 q g1 g2
    · rcases List.mem_append.mp hz with w | w
      · exact hS.2.2 z w
      · exact hfree _ (hL z w)
  have keepN : ∀ L : List Loc, (∀ z ∈ L, xfr true wc H.size z.base) → ∀ q ∈ locs ++ L, s.heap.size ≤ q.base := fun L hL z hz => by
    rcases List.mem_append.mp hz with w | w
    · exact hN z w
    · exact Nat.le_trans hS.1 (hL z w)
  intro T hT X
  rcases hrun T hT X with ⟨v, st₀, t, T', L, h0, X', hL, e1, e2, ⟨⟨u, hv, hp, hb⟩, hF⟩, st9⟩ | ⟨q, st₀, t, T', L, E, ce, h0, X', hL, e1, e2, ⟨hw, hb, hF⟩, hce, hcv, hcl, st9⟩
  · cases hv
    obtain ⟨k2, k3⟩ := keep T' t st₀ L h0 e1 hF hL
    obtain ⟨hP1, hK1, hD1⟩ := hb
    rw [← e1] at hP1
    obtain ⟨hP2, hD2⟩ := va_join hP hD isC isR hC hRr hn hdis k2 hFc hP1 hD1
    obtain ⟨t2, a1, b1⟩ := kk u T'.heap (locs ++ L) hp hP2 hD2 k3 (keepN L hL) T' rfl X'
    exact ⟨t2, st9 t2 a1, b1⟩
  · obtain ⟨k2, k3⟩ := keep T' t st₀ L h0 e1 hF hL
    obtain ⟨hP1, hK1, hD1⟩ := hb
    rw [← e1] at hP1 hce
    obtain ⟨hP2, hD2⟩ := va_join hP hD isC isR hC hRr hn hdis k2 hFc hP1 hD1
    obtain ⟨t2, a1, b1⟩ := kx E ce q T'.heap (locs ++ L) hw hP2 hD2 k3 (keepN L hL) hce hcv hcl T' rfl X'
    exact ⟨t2, st9 t2 a1, b1⟩
theorem jx_v {S : Type} {post : S → Prop} {wf : S → va_W} {px : String → Prop} {mc ms : Nat} {a : Array Value} (C : cxM b nL rt own l dC dI cI cJ cZ A p s m args meth c) (hP : va_P (dC, dI) classes ws H) (hD : va_D A ws) (hS : va_S A s.heap H locs) (isC isR : List Nat) (hrun : xRun p l e R s m args below meth c H locs cells slots mr sr mc ms (F0 m pc ls st) rest (va_Qv post (fun u t => at_ dC dI cI cJ cZ (va_A wc H.size) (wf u) t) (va_A wc H.size) a) (XC_ (va_A wc H.size) dC dI cI cJ cZ wc px) (xfr false wc H.size))
    (hC : isC.map (fun i => ws[i]?) = wc.map some) (hRr : isR.map (fun i => ws[i]?) = (isR.filterMap (fun i => ws[i]?)).map some) (hn : va_nd isR = true) (hdis : ∀ i ∈ isR, i ∉ isC)
    (kx : ∀ (E : String) (ce : Cell) (q9 : Addr) (H1 : Heap) (locs1 : List Loc), px E → va_P (dC, dI) classes (isR.filterMap (fun i => ws[i]?) ++ wc) H1 → va_D A (isR.filterMap (fun i => ws[i]?) ++ wc) → va_S A s.heap H1 locs1 → H1[q9]? = some ce → ce.vm = .none → s.vm.findClass E = some ce.cls → xW p l e R s m args below meth c H1 locs1 (cells + mc) (slots + ms) Q (F0 m pc ls rest) q9)
    (kk : ∀ (u : S) (H1 : Heap) (locs1 : List Loc), post u → va_P (dC, dI) classes (isR.filterMap (fun i => ws[i]?) ++ wf u) H1 → va_D A (isR.filterMap (fun i => ws[i]?) ++ wf u) → va_S A s.heap H1 locs1 → W p l e R s m args below meth c H1 locs1 (cells + mr) (slots + sr) Q (F0 m (pc + 3) ls (rest))) : W p l e R s m args below meth c H locs cells slots Q (F0 m pc ls st) := by
  have hA : ∀ q, s.heap.size ≤ q → A q := C.2.2.2.2.2.2.2.2.2.2.1
  have hFc := va_free hD hS hA isC hC
  have hfree : ∀ q, xfr false wc H.size q → A q := hFc
  have keep : ∀ (T' t st₀ : State) (L : List Loc), st₀.heap = H → T'.heap = t.heap → va_F (va_A wc H.size) st₀ t → (∀ z ∈ L, xfr false wc H.size z.base) → (∀ q : Nat, q < H.size → ¬ va_A wc H.size q → T'.heap[q]? = H[q]?) ∧ va_S A s.heap T'.heap (locs ++ L) := by
    intro T' t st₀ L h0 e1 hF hL
    obtain ⟨f1, f2⟩ := hF
    rw [h0] at f1 f2
    have k2 : ∀ q : Nat, q < H.size → ¬ va_A wc H.size q → T'.heap[q]? = H[q]? := fun q g1 g2 => by rw [e1]; exact f2 q g1 g2
    refine ⟨k2, Nat.le_trans hS.1 (by rw [e1]; exact f1), fun q g1 g2 => ?_, fun z hz => ?_⟩
    · rw [k2 q (Nat.lt_of_lt_of_le g1 hS.1) (fun w => g2 (hFc q w))]
      exact hS.2.1 q g1 g2
    · rcases List.mem_append.mp hz with w | w
      · exact hS.2.2 z w
      · exact hfree _ (hL z w)
  intro T hT X
  rcases hrun T hT X with ⟨v, st₀, t, T', L, h0, X', hL, e1, e2, ⟨⟨u, hv, hp, hb⟩, hF⟩, st9⟩ | ⟨q, st₀, t, T', L, E, ce, h0, X', hL, e1, e2, ⟨hw, hb, hF⟩, hce, hcv, hcl, st9⟩
  · cases hv
    obtain ⟨k2, k3⟩ := keep T' t st₀ L h0 e1 hF hL
    obtain ⟨hP1, hK1, hD1⟩ := hb
    rw [← e1] at hP1
    obtain ⟨hP2, hD2⟩ := va_join hP hD isC isR hC hRr hn hdis k2 hFc hP1 hD1
    obtain ⟨t2, a1, b1⟩ := kk u T'.heap (locs ++ L) hp hP2 hD2 k3 T' rfl X'
    exact ⟨t2, st9 t2 a1, b1⟩
  · obtain ⟨k2, k3⟩ := keep T' t st₀ L h0 e1 hF hL
    obtain ⟨hP1, hK1, hD1⟩ := hb
    rw [← e1] at hP1 hce
    obtain ⟨hP2, hD2⟩ := va_join hP hD isC isR hC hRr hn hdis k2 hFc hP1 hD1
    obtain ⟨t2, a1, b1⟩ := kx E ce q T'.heap (locs ++ L) hw hP2 hD2 k3 hce hcv hcl T' rfl X'
    exact ⟨t2, st9 t2 a1, b1⟩
end XC
