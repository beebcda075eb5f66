-- what all contracts share: the pictures of a heap, the words, how a method begins, calls and ends
abbrev tysL (cI cJ cZ : ClassId) : List (ClassId × FieldType) := [(cI, .int), (cJ, .long), (cZ, .boolean)]
abbrev at_ (dC : Nat → ClassId) (dI : Nat → Nat → Nat) (cI cJ cZ : ClassId) (A : Nat → Prop) (ws : va_W) (t : State) : Prop := va_P (dC, dI) classes ws t.heap ∧ va_K (dC, dI) classes (tysL cI cJ cZ) t ∧ va_D A ws
/-- words that no list of good ones may hold: links across the nest, casts, declared methods; texts; two statics of Throwable -/
def nk : Cond → Bool
  | .fieldLinkNest .. => true
  | .methodLinkNest .. => true
  | .castable .. => true
  | .declares .. => true
  | _ => false
/-- a static field of Throwable: where it lies, and that it holds a reference or null -/
def zst (C n d : String) (U : State) (H : Heap) : Prop := ∃ (k0 : ClassId) (kc : Class) (j : Nat) (fd : Field) (a : Nat) (ce : Cell) (v : Value), U.vm.findClass C = some k0 ∧ U.fieldFound? C n d = some (k0, kc, j, fd) ∧ fd.isStatic = true ∧ kc.statics = some a ∧ H[a]? = some ce ∧ ce.vm.isStatics = true ∧ ce.cls = k0 ∧ fd.slot < ce.slots.size ∧ kc.staticTypes[fd.slot]? = some fd.type ∧ ce.slots[fd.slot]? = some v ∧ v.isRef = true
theorem zst.go {C n d : String} {s U : State} {H H1 : Heap} (h : zst C n d s H) (hvm : s.vm.Alike U.vm) (hq : ∀ (a : Nat) (ce : Cell), H[a]? = some ce → ce.vm.isStatics = true → H1[a]? = H[a]?) : zst C n d U H1 := by
  obtain ⟨k0, kc, j, fd, a, ce, v, h1, h2, h3, h4, h5, h6, h7, h8, h9, h10, h11⟩ := h
  obtain ⟨k', hi', he⟩ := State.fieldFound?_setVm hvm h2
  exact ⟨k0, k', j, fd, a, ce, v, by rw [hvm.findClass]; exact h1, hi', h3, by rw [he]; exact h4, by rw [hq a ce h5 h6]; exact h5, h6, h7, h8, by rw [he]; exact h9, h10, h11⟩
theorem zst.of {C n d : String} {s : State} {args : Array Value} (hl : (Cond.laysStatic C n d).before args s = true) (hr : (Cond.isRef (.static C n d)).before args s = true) : zst C n d s s.heap := by
  obtain ⟨c, k, i, f, a, cell, hc, hi, hst, ha, hcell, hs, hcls, hlt, hty⟩ := Cond.laysStatic_spec hl
  cases hv : (Term.static C n d).eval args s none [] s with
  | none => simp [Cond.before, Cond.holds, Cond.value, hv] at hr
  | some w =>
    obtain ⟨hst', a', cell', ha', hcell', -, hslot⟩ := Term.static_spec hi hv
    cases ha.symm.trans ha'
    cases hcell.symm.trans hcell'
    refine ⟨c, k, i, f, a, cell, w, hc, hi, hst, ha, hcell, hs, hcls, hlt, hty, hslot, ?_⟩
    simp only [Cond.before, Cond.holds, Cond.value, hv] at hr
    cases w <;> first | rfl | simp at hr
theorem zst.lays {C n d : String} {s : State} {args : Array Value} (h : zst C n d s s.heap) : (Cond.laysStatic C n d).before args s = true := by
  obtain ⟨k0, kc, j, fd, a, ce, v, h1, h2, h3, h4, h5, h6, h7, h8, h9, h10, h11⟩ := h
  simp [Cond.before, Cond.holds, Cond.value, h1, h2, h3, h4, h5, h6, h7, h8, h9]
theorem zst.ref {C n d : String} {s : State} {args : Array Value} (h : zst C n d s s.heap) : (Cond.isRef (.static C n d)).before args s = true := by
  obtain ⟨k0, kc, j, fd, a, ce, v, h1, h2, h3, h4, h5, h6, h7, h8, h9, h10, h11⟩ := h
  have hv : (Term.static C n d).eval args s none [] s = some v := by
    simp [Term.eval, State.fieldNamed?, h2, h3, h4, h5, h6, h10]
  simp only [Cond.before, Cond.holds, Cond.value, hv]
  cases v <;> first | rfl | simp [Value.isRef] at h11
def zz (U : State) (H : Heap) : Prop := (∀ w ∈ NB, va_Nw w U) ∧ (∀ q ∈ SB, ∃ sa, vk_R q.1 q.2.1 q.2.2 sa U) ∧ zst "java/lang/Throwable" "UNASSIGNED_STACK" "[Ljava/lang/StackTraceElement;" U H ∧ zst "java/lang/Throwable" "SUPPRESSED_SENTINEL" "Ljava/util/List;" U H
theorem zn {U : State} {H : Heap} (h : zz U H) {w : Cond} (hw : w ∈ NB) : va_Nw w U := h.1 w hw
theorem nb_kind : ∀ w ∈ NB, nk w = true := by decide +kernel
theorem zz.warm {s U : State} {H H1 : Heap} (h : zz s H) (hW : s.WarmedH U.vm) (hq : ∀ (a : Nat) (ce : Cell), H[a]? = some ce → ce.vm.isStatics = true → H1[a]? = H[a]?) : zz U H1 := by
  refine ⟨fun w hw => ?_, fun q hq => ?_, h.2.2.1.go hW.alike hq, h.2.2.2.go hW.alike hq⟩
  · have h1 := h.1 w hw
    have h2 := nb_kind w hw
    cases w <;> first | (simp [nk] at h2; done) | exact va_Nw.warmF hW h1 | exact va_Nw.warmM hW h1 | exact va_Nw.warmD hW h1 | exact va_Nw.warmC hW h1
  · obtain ⟨sa, h1⟩ := h.2.1 q hq
    exact ⟨sa, vk_R.warm hW h1⟩
theorem zz.same {u U : State} {H : Heap} (h : zz u H) (hv : u.vm = U.vm) : zz U H := by
  have ha : u.vm.Alike U.vm := by rw [hv]; exact Vm.Alike.refl _
  refine ⟨fun w hw => va_tabs ?_ hv (h.1 w hw), fun q hq => ?_, h.2.2.1.go ha (fun _ _ _ _ => rfl), h.2.2.2.go ha (fun _ _ _ _ => rfl)⟩
  · have h2 := nb_kind w hw
    cases w <;> first | (simp [nk] at h2; done) | rfl
  · obtain ⟨sa, h1⟩ := h.2.1 q hq
    exact ⟨sa, vk_R.same hv.symm h1⟩
/-- no cell of a world is one of statics -/
theorem ws_ns {D : va_G} {cl : List vw_C} {ws : va_W} {H : Heap} (hP : va_P D cl ws H) : ∀ (q : Nat) (ce : Cell), va_A ws H.size q → H[q]? = some ce → ce.vm.isStatics = false := by
  intro q ce h hc
  rcases h with ⟨k, e, h⟩ | h
  · have h1 := hP k (q, e) h
    cases e with
    | inl x =>
      have h2 : H[q]? = some (vp_cell x.1 x.2) := h1
      rw [h2] at hc
      cases hc
      obtain ⟨c, n, f | f | f | f | f⟩ := x <;> rfl
    | inr o =>
      obtain ⟨r, -, cell, h2, -, h3, -⟩ := h1
      rw [h2] at hc
      cases hc
      rw [h3]; rfl
  · rw [Array.getElem?_eq_none h] at hc
    cases hc
abbrev pc_ (dC : Nat → ClassId) (dI : Nat → Nat → Nat) (cI cJ cZ : ClassId) (sz : Nat) (ws : va_W) (U : State) : Prop := U.heap.size = sz ∧ va_P (dC, dI) classes ws U.heap ∧ va_K (dC, dI) classes (tysL cI cJ cZ) U ∧ va_D (fun _ => True) ws ∧ zz U U.heap
theorem pc_blind {dC : Nat → ClassId} {dI : Nat → Nat → Nat} {cI cJ cZ : ClassId} {sz : Nat} {ws : va_W} {av : List Value} : FrameBlind (va_Pc av (pc_ dC dI cI cJ cZ sz ws)) := by
  intro a U g mk q
  obtain ⟨q0, q1, qP, qK, qD, qZ⟩ := q
  exact ⟨q0, q1, qP, va_K.moved (u := U) (U := U.calling g mk a) (Vm.Alike.refl U.vm) qK, qD, qZ.same rfl⟩
/-- what holds inside a method -/
def cxM (b : ByteArray) (nL : Nat) (rt : Option FieldType) (own : String) (l : Launch) (dC : Nat → ClassId) (dI : Nat → Nat → Nat) (cI cJ cZ : ClassId) (A : Nat → Prop) (p : Program) (s : State) (m : MethodId) (args : Array Value) (meth : Method) (c : Code) : Prop :=
  l.stackTraces = false ∧ p.tables.exec = Jvm.exec ∧ c.code = b ∧ c.maxLocals = nL ∧ meth.sig.returnType = rt ∧ s.vm.findClass own = some m.cls ∧ (∀ w ∈ GB, w.before args s = true) ∧ meth.locks = false ∧ va_K (dC, dI) classes (tysL cI cJ cZ) s ∧ zz s s.heap ∧ (∀ q, s.heap.size ≤ q → A q) ∧ ∀ (q : Nat) (ce : Cell), A q → s.heap[q]? = some ce → ce.vm.isStatics = false
theorem gb_good : ∀ w ∈ GB, (w.onTables && w.keeps) = true ∨ ∃ ty, w = .arrayClass ty := fun w h => good_of_word (List.mem_filter.mp h).2
theorem gd {w0 : Cond} (h : w0 ∈ GB) : GoodIn GB (w0 :: GB) := fun w hw => (List.mem_cons.mp hw).elim (fun e => by rw [e]; exact ⟨h, gb_good _ h⟩) (fun h1 => ⟨h1, gb_good _ h1⟩)
section BQ
variable (below : List Frame) (args : Array Value) (s : State) (A : Nat → Prop) (dC : Nat → ClassId) (dI : Nat → Nat → Nat) (cI cJ cZ : ClassId) (rm : Room)
def Qi {S : Type} (post : Int32 → S → Prop) (wf : S → va_W) : State → Prop := MQ below (va_Qi post (fun u t => at_ dC dI cI cJ cZ A (wf u) t) A) args s rm.cells rm.slots A
def Ql {S : Type} (post : Int64 → S → Prop) (wf : S → va_W) : State → Prop := MQ below (va_Ql post (fun u t => at_ dC dI cI cJ cZ A (wf u) t) A) args s rm.cells rm.slots A
def Qv {S : Type} (post : S → Prop) (wf : S → va_W) : State → Prop := MQ below (va_Qv post (fun u t => at_ dC dI cI cJ cZ A (wf u) t) A) args s rm.cells rm.slots A
end BQ
section BK
variable (l : Launch) (y : MethodName) (b : ByteArray) (nL : Nat) (rt : Option FieldType) (rm : Room) (dC : Nat → ClassId) (dI : Nat → Nat → Nat) (cI cJ cZ : ClassId) (av : List Value) (ws : va_W)
/-- contracts: from the cells ws a method answers r, the cells are wf u then, and post holds of r and u -/
def Ki {S : Type} (post : Int32 → S → Prop) (wf : S → va_W) : Prop := ∀ sz : Nat, Met l y (.code y b nL rt :: GB) rm (va_Pc av (pc_ dC dI cI cJ cZ sz ws)) (va_Qi post (fun u t => at_ dC dI cI cJ cZ (va_A ws sz) (wf u) t) (va_A ws sz)) rm.cells rm.slots (va_A ws sz)
def Kl {S : Type} (post : Int64 → S → Prop) (wf : S → va_W) : Prop := ∀ sz : Nat, Met l y (.code y b nL rt :: GB) rm (va_Pc av (pc_ dC dI cI cJ cZ sz ws)) (va_Ql post (fun u t => at_ dC dI cI cJ cZ (va_A ws sz) (wf u) t) (va_A ws sz)) rm.cells rm.slots (va_A ws sz)
def Kv {S : Type} (post : S → Prop) (wf : S → va_W) : Prop := ∀ sz : Nat, Met l y (.code y b nL rt :: GB) rm (va_Pc av (pc_ dC dI cI cJ cZ sz ws)) (va_Qv post (fun u t => at_ dC dI cI cJ cZ (va_A ws sz) (wf u) t) (va_A ws sz)) rm.cells rm.slots (va_A ws sz)
end BK
section BM
variable {l : Launch} {y : MethodName} {b : ByteArray} {nL : Nat} {rt : Option FieldType} {rm : Room} {dC : Nat → ClassId} {dI : Nat → Nat → Nat} {cI cJ cZ : ClassId} {av : List Value} {ws : va_W}
theorem mki (hl9 : l.stackTraces = false) {S : Type} {post : Int32 → S → Prop} {wf : S → va_W} {own : String} (ho : y.cls = own) (hy : plainName y.cls = true)
    (body : ∀ (p : Program) (e : Env) (s : State) (m : MethodId) (args : Array Value) (below : List Frame) (meth : Method) (c : Code) (A : Nat → Prop), cxM b nL rt own l dC dI cI cJ cZ A p s m args meth c → meth.name = y.name → args = av.toArray → va_P (dC, dI) classes ws s.heap → va_D A ws →
      W p l e rm s m args below meth c s.heap [] 0 0 (Qi below args s A dC dI cI cJ cZ rm post wf) (entryFrame m args nL)) : Ki l y b nL rt rm dC dI cI cJ cZ av ws post wf := by
  intro sz
  refine Met.ofW (cc := b) (maxL := nL) (ret := rt) hy rfl ?_
  intro p e s m args below meth c s₁ B hml hv
  obtain ⟨hav, hsz, hP, hK, hD0, hZ⟩ := hv
  subst hsz
  have hts := atoms_spec (ws := Cond.code y b nL rt :: GB) B.pre
  have hown : s.vm.findClass y.cls = some m.cls := findClass_of_methodNamed B.named
  rw [ho] at hown
  exact body p e s m args below meth c (va_A ws s.heap.size) ⟨hl9, B.exec, B.bytes, hml, B.returns, hown, fun w h => hts w (List.mem_cons_of_mem _ h), B.notSynchronized, hK, hZ, fun q h => Or.inr h, ws_ns hP⟩ (name_of_methodNamed B.named B.method).1 hav hP hD0.self
theorem mkl (hl9 : l.stackTraces = false) {S : Type} {post : Int64 → S → Prop} {wf : S → va_W} {own : String} (ho : y.cls = own) (hy : plainName y.cls = true)
    (body : ∀ (p : Program) (e : Env) (s : State) (m : MethodId) (args : Array Value) (below : List Frame) (meth : Method) (c : Code) (A : Nat → Prop), cxM b nL rt own l dC dI cI cJ cZ A p s m args meth c → meth.name = y.name → args = av.toArray → va_P (dC, dI) classes ws s.heap → va_D A ws →
      W p l e rm s m args below meth c s.heap [] 0 0 (Ql below args s A dC dI cI cJ cZ rm post wf) (entryFrame m args nL)) : Kl l y b nL rt rm dC dI cI cJ cZ av ws post wf := by
  intro sz
  refine Met.ofW (cc := b) (maxL := nL) (ret := rt) hy rfl ?_
  intro p e s m args below meth c s₁ B hml hv
  obtain ⟨hav, hsz, hP, hK, hD0, hZ⟩ := hv
  subst hsz
  have hts := atoms_spec (ws := Cond.code y b nL rt :: GB) B.pre
  have hown : s.vm.findClass y.cls = some m.cls := findClass_of_methodNamed B.named
  rw [ho] at hown
  exact body p e s m args below meth c (va_A ws s.heap.size) ⟨hl9, B.exec, B.bytes, hml, B.returns, hown, fun w h => hts w (List.mem_cons_of_mem _ h), B.notSynchronized, hK, hZ, fun q h => Or.inr h, ws_ns hP⟩ (name_of_methodNamed B.named B.method).1 hav hP hD0.self
theorem mklF (hl9 : l.stackTraces = false) {S : Type} {post : Int64 → S → Prop} {wf : S → va_W} {own : String} (ho : y.cls = own) (hy : plainFor y = true)
    (body : ∀ (p : Program) (e : Env) (s : State) (m : MethodId) (args : Array Value) (below : List Frame) (meth : Method) (c : Code) (A : Nat → Prop), cxM b nL rt own l dC dI cI cJ cZ A p s m args meth c → meth.name = y.name → args = av.toArray → va_P (dC, dI) classes ws s.heap → va_D A ws →
      W p l e rm s m args below meth c s.heap [] 0 0 (Ql below args s A dC dI cI cJ cZ rm post wf) (entryFrame m args nL)) : Kl l y b nL rt rm dC dI cI cJ cZ av ws post wf := by
  intro sz
  refine va_MetF (cc := b) (maxL := nL) (ret := rt) hy rfl ?_
  intro p e s m args below meth c s₁ B hml hv
  obtain ⟨hav, hsz, hP, hK, hD0, hZ⟩ := hv
  subst hsz
  have hts := atoms_spec (ws := Cond.code y b nL rt :: GB) B.pre
  have hown : s.vm.findClass y.cls = some m.cls := findClass_of_methodNamed B.named
  rw [ho] at hown
  exact body p e s m args below meth c (va_A ws s.heap.size) ⟨hl9, B.exec, B.bytes, hml, B.returns, hown, fun w h => hts w (List.mem_cons_of_mem _ h), B.notSynchronized, hK, hZ, fun q h => Or.inr h, ws_ns hP⟩ (name_of_methodNamed B.named B.method).1 hav hP hD0.self
theorem mkv (hl9 : l.stackTraces = false) {S : Type} {post : S → Prop} {wf : S → va_W} {own : String} (ho : y.cls = own) (hy : plainName y.cls = true)
    (body : ∀ (p : Program) (e : Env) (s : State) (m : MethodId) (args : Array Value) (below : List Frame) (meth : Method) (c : Code) (A : Nat → Prop), cxM b nL rt own l dC dI cI cJ cZ A p s m args meth c → meth.name = y.name → args = av.toArray → va_P (dC, dI) classes ws s.heap → va_D A ws →
      W p l e rm s m args below meth c s.heap [] 0 0 (Qv below args s A dC dI cI cJ cZ rm post wf) (entryFrame m args nL)) : Kv l y b nL rt rm dC dI cI cJ cZ av ws post wf := by
  intro sz
  refine Met.ofW (cc := b) (maxL := nL) (ret := rt) hy rfl ?_
  intro p e s m args below meth c s₁ B hml hv
  obtain ⟨hav, hsz, hP, hK, hD0, hZ⟩ := hv
  subst hsz
  have hts := atoms_spec (ws := Cond.code y b nL rt :: GB) B.pre
  have hown : s.vm.findClass y.cls = some m.cls := findClass_of_methodNamed B.named
  rw [ho] at hown
  exact body p e s m args below meth c (va_A ws s.heap.size) ⟨hl9, B.exec, B.bytes, hml, B.returns, hown, fun w h => hts w (List.mem_cons_of_mem _ h), B.notSynchronized, hK, hZ, fun q h => Or.inr h, ws_ns hP⟩ (name_of_methodNamed B.named B.method).1 hav hP hD0.self
end BM
section BR
variable {b : ByteArray} {nL : Nat} {rt : Option FieldType} {own : String} {p : Program} {l : Launch} {e : Env} {R rm : Room} {s : State} {m : MethodId} {args : Array Value} {below : List Frame} {meth : Method} {c : Code} {H : Heap} {locs : List Loc} {cells slots : Nat} {dC : Nat → ClassId} {dI : Nat → Nat → Nat} {cI cJ cZ : ClassId} {A : Nat → Prop} {S : Type} {wf : S → va_W} {u : S} {pc : Nat} {ls : Array Slot} {ws : va_W} {px : String → Prop}
theorem rt_i {post : Int32 → S → Prop} {r : Int32} (C : cxM b nL (some .int) own l dC dI cI cJ cZ A p s m args meth c) (hw : post r u) (hP : va_P (dC, dI) classes (wf u) H) (hD : va_D A (wf u)) (hS : va_S A s.heap H locs) (hc : cells ≤ rm.cells) (hs : slots ≤ rm.slots) (hd : decode b pc = .ok (.ireturn, 1)) : W p l e R s m args below meth c H locs cells slots (Qi below args s A dC dI cI cJ cZ rm post wf) (F0 m pc ls [.int r]) := by
  obtain ⟨-, hx, hb, -, hr, -, -, hlocks, hK, -⟩ := C
  refine W.widen hc hs ?_
  exact W.iret (v := r) hx hb hr (fun t ht hW => ⟨⟨r, u, rfl, hw, by rw [ht]; exact hP, va_K.moved hW.alike hK, hD⟩, hS.F ht⟩) hS.2.2 hd
theorem rt_z {post : Int32 → S → Prop} {r : Int32} (C : cxM b nL (some .boolean) own l dC dI cI cJ cZ A p s m args meth c) (hz : narrow .boolean (.int r) = .int r) (hw : post r u) (hP : va_P (dC, dI) classes (wf u) H) (hD : va_D A (wf u)) (hS : va_S A s.heap H locs) (hc : cells ≤ rm.cells) (hs : slots ≤ rm.slots) (hd : decode b pc = .ok (.ireturn, 1)) : W p l e R s m args below meth c H locs cells slots (Qi below args s A dC dI cI cJ cZ rm post wf) (F0 m pc ls [.int r]) := by
  obtain ⟨-, hx, hb, -, hr, -, -, hlocks, hK, -⟩ := C
  refine W.widen hc hs ?_
  exact W.zret (v := r) hx hb hr hz (fun t ht hW => ⟨⟨r, u, rfl, hw, by rw [ht]; exact hP, va_K.moved hW.alike hK, hD⟩, hS.F ht⟩) hS.2.2 hd
theorem rt_l {post : Int64 → S → Prop} {r : Int64} (C : cxM b nL (some .long) own l dC dI cI cJ cZ A p s m args meth c) (hw : post r u) (hP : va_P (dC, dI) classes (wf u) H) (hD : va_D A (wf u)) (hS : va_S A s.heap H locs) (hc : cells ≤ rm.cells) (hs : slots ≤ rm.slots) (hd : decode b pc = .ok (.lreturn, 1)) : W p l e R s m args below meth c H locs cells slots (Ql below args s A dC dI cI cJ cZ rm post wf) (F0 m pc ls [.long r]) := by
  obtain ⟨-, hx, hb, -, hr, -, -, hlocks, hK, -⟩ := C
  refine W.widen hc hs ?_
  exact W.lret (v := r) hx hb hr (fun t ht hW => ⟨⟨r, u, rfl, hw, by rw [ht]; exact hP, va_K.moved hW.alike hK, hD⟩, hS.F ht⟩) hS.2.2 hd
theorem rt_v {post : S → Prop} (C : cxM b nL none own l dC dI cI cJ cZ A p s m args meth c) (hw : post u) (hP : va_P (dC, dI) classes (wf u) H) (hD : va_D A (wf u)) (hS : va_S A s.heap H locs) (hc : cells ≤ rm.cells) (hs : slots ≤ rm.slots) (hd : decode b pc = .ok (.return_, 1)) : W p l e R s m args below meth c H locs cells slots (Qv below args s A dC dI cI cJ cZ rm post wf) (F0 m pc ls []) := by
  obtain ⟨-, hx, hb, -, hr, -, -, hlocks, hK, -⟩ := C
  refine W.widen hc hs ?_
  exact W.vret hx hb hr (fun t ht hW => ⟨⟨u, rfl, hw, by rw [ht]; exact hP, va_K.moved hW.alike hK, hD⟩, hS.F ht⟩) hS.2.2 hd
theorem nar_z {r : Int32} (h : r = 0 ∨ r = 1) : narrow .boolean (.int r) = .int r := by rcases h with h | h <;> rw [h] <;> decide
end BR
theorem va_Psub {D : va_G} {cl : List vw_C} {ws ws' : va_W} {H : Heap} (h : va_P D cl ws H) (is : List Nat) (hs : is.map (fun i => ws[i]?) = ws'.map some) : va_P D cl ws' H := by
  refine h.sub is ?_
  have e : ∀ (l : List Nat) (w : va_W), l.map (fun i => ws[i]?) = w.map some → l.filterMap (fun i => ws[i]?) = w := by
    intro l
    induction l with
    | nil => intro w hw; cases w with
      | nil => rfl
      | cons a w => simp at hw
    | cons i l ih => intro w hw; cases w with
      | nil => simp at hw
      | cons a w =>
        simp only [List.map_cons, List.cons.injEq] at hw
        rw [List.filterMap_cons, hw.1]
        simp only [ih w hw.2]
  exact e is ws' hs
section BC
variable {b cb : ByteArray} {nL cL idx n9 : Nat} {rt crt : Option FieldType} {own host : String} {y : MethodName} {p : Program} {l : Launch} {e : Env} {R rm : Room} {s : State} {m : MethodId} {args : Array Value} {below : List Frame} {meth : Method} {c : Code} {H : Heap} {locs : List Loc} {cells slots : Nat} {dC : Nat → ClassId} {dI : Nat → Nat → Nat} {cI cJ cZ : ClassId} {A : Nat → Prop} {pc : Nat} {ls : Array Slot} {ws wc : va_W} {As rest st : List Value} {q ci N9 : Nat} {fs : List Value} {T9 : u_T} {Qc : Array Value → State → Outcome → State → Prop} {XC : String → State → State → Prop} {fr : Addr → Prop} {Q : State → Prop}
theorem ru_V (C : cxM b nL rt own l dC dI cI cJ cZ A p s m args meth c) (hM : Met l y (.code y cb cL crt :: GB) rm (va_Pc (.ref q :: As) (pc_ dC dI cI cJ cZ H.size wc)) Qc rm.cells rm.slots fr) (kc : Cond.code y cb cL crt ∈ GB) (kl : Cond.methodLink own idx y ∈ GB) (ki : Cond.instanceMethod y ∈ GB) (ks : Cond.selects y.cls y y ∈ GB) (kn : Cond.initialized y.cls ∈ GB) (hd : y.cls ≠ "java/lang/invoke/MethodHandle" ∧ y.cls ≠ "java/lang/invoke/VarHandle" ∧ (parseMethodDescriptor y.desc).map (fun d => d.parameters.length) = some n9) (hln : As.length = n9) (hci : classes[ci]? = some (y.cls, T9, N9)) (h0 : wc[0]? = some (q, .inr (ci, fs)))
    (hR : rm.frames + 1 ≤ R.frames ∧ 8 + (cL + 11) + rm.locals ≤ R.locals) (hP : va_P (dC, dI) classes ws H) (hD : va_D A ws) (hS : va_S A s.heap H locs) (isC : List Nat) (hC : isC.map (fun i => ws[i]?) = wc.map some) (hnd : va_nd isC = true) (hsz : ls.size = nL) (hst : st = As.reverse ++ .ref q :: rest) (hcat : (rest.map fun v => v.category).sum ≤ 8) (hdg : decode b pc = .ok (.invokevirtual idx, 3)) (hf : cells + rm.cells ≤ R.cells ∧ slots + rm.slots ≤ R.slots) :
    va_Run p l e R s m args below meth c H locs cells slots rm.cells rm.slots (F0 m pc ls st) rest (Qc (Value.ref q :: As).toArray) fr := by
  obtain ⟨-, hx, hb, hml, -, hown, hts, -, hK, hZ, hA, hNS⟩ := C
  have hPc : va_P (dC, dI) classes wc H := va_Psub hP isC hC
  have hDc := hD.sub isC hnd hC
  have hFc := va_free hD hS hA isC hC
  have hpre : ∀ U : State, U.heap = H → s.WarmedH U.vm → va_Pc (.ref q :: As) (pc_ dC dI cI cJ cZ H.size wc) (Value.ref q :: As).toArray U := fun U hU hW => ⟨rfl, by rw [hU], by rw [hU]; exact hPc, va_K.moved hW.alike hK, hDc.weaken (fun _ _ _ _ => trivial), by rw [hU]; exact hZ.warm hW (fun a ce h1 h2 => hS.2.1 a (Array.getElem?_eq_some_iff.mp h1).1 (fun h3 => by rw [hNS a ce h3 h1] at h2; cases h2))⟩
  exact va_runV (Ts := GB) (own := own) (As := As) (rest := rest) ⟨hx, hb, hml, hown, hts⟩ hM ⟨callB_of n9 hts (gd kc) rfl rfl rfl (hts _ kn) (hts _ kl) hd hR, hts _ ki, hts _ ks⟩ ⟨pc_blind, va_recv hK hPc hci h0, hpre⟩ rfl hln hsz hst (lv_room hcat) hdg hf
theorem ru_VN (C : cxM b nL rt own l dC dI cI cJ cZ A p s m args meth c) (hM : Met l y (.code y cb cL crt :: GB) rm (va_Pc (.ref q :: As) (pc_ dC dI cI cJ cZ H.size wc)) Qc rm.cells rm.slots fr) (kc : Cond.code y cb cL crt ∈ GB) (kl : va_Nw (.methodLinkNest own idx y host) s) (ki : Cond.instanceMethod y ∈ GB) (ks : Cond.selects y.cls y y ∈ GB) (kn : Cond.initialized y.cls ∈ GB) (hd : y.cls ≠ "java/lang/invoke/MethodHandle" ∧ y.cls ≠ "java/lang/invoke/VarHandle" ∧ (parseMethodDescriptor y.desc).map (fun d => d.parameters.length) = some n9) (hln : As.length = n9) (hci : classes[ci]? = some (y.cls, T9, N9)) (h0 : wc[0]? = some (q, .inr (ci, fs)))
    (hR : rm.frames + 1 ≤ R.frames ∧ 8 + (cL + 11) + rm.locals ≤ R.locals) (hP : va_P (dC, dI) classes ws H) (hD : va_D A ws) (hS : va_S A s.heap H locs) (isC : List Nat) (hC : isC.map (fun i => ws[i]?) = wc.map some) (hnd : va_nd isC = true) (hsz : ls.size = nL) (hst : st = As.reverse ++ .ref q :: rest) (hcat : (rest.map fun v => v.category).sum ≤ 8) (hdg : decode b pc = .ok (.invokevirtual idx, 3)) (hf : cells + rm.cells ≤ R.cells ∧ slots + rm.slots ≤ R.slots) :
    va_Run p l e R s m args below meth c H locs cells slots rm.cells rm.slots (F0 m pc ls st) rest (Qc (Value.ref q :: As).toArray) fr := by
  obtain ⟨-, hx, hb, hml, -, hown, hts, -, hK, hZ, hA, hNS⟩ := C
  have hPc : va_P (dC, dI) classes wc H := va_Psub hP isC hC
  have hDc := hD.sub isC hnd hC
  have hFc := va_free hD hS hA isC hC
  have hpre : ∀ U : State, U.heap = H → s.WarmedH U.vm → va_Pc (.ref q :: As) (pc_ dC dI cI cJ cZ H.size wc) (Value.ref q :: As).toArray U := fun U hU hW => ⟨rfl, by rw [hU], by rw [hU]; exact hPc, va_K.moved hW.alike hK, hDc.weaken (fun _ _ _ _ => trivial), by rw [hU]; exact hZ.warm hW (fun a ce h1 h2 => hS.2.1 a (Array.getElem?_eq_some_iff.mp h1).1 (fun h3 => by rw [hNS a ce h3 h1] at h2; cases h2))⟩
  exact va_runVN (Ts := GB) (own := own) (As := As) (rest := rest) ⟨hx, hb, hml, hown, hts⟩ hM ⟨va_cnB n9 hts (gd kc) rfl rfl rfl kl (hts _ kn) hd hR, hts _ ki, hts _ ks⟩ ⟨pc_blind, va_recv hK hPc hci h0, hpre⟩ rfl hln hsz hst (lv_room hcat) hdg hf
theorem ru_S (C : cxM b nL rt own l dC dI cI cJ cZ A p s m args meth c) (hM : Met l y (.code y cb cL crt :: GB) rm (va_Pc As (pc_ dC dI cI cJ cZ H.size wc)) Qc rm.cells rm.slots fr) (kc : Cond.code y cb cL crt ∈ GB) (kl : Cond.methodLink own idx y ∈ GB) (ki : Cond.static y ∈ GB) (kn : Cond.initialized y.cls ∈ GB) (hd : y.cls ≠ "java/lang/invoke/MethodHandle" ∧ y.cls ≠ "java/lang/invoke/VarHandle" ∧ (parseMethodDescriptor y.desc).map (fun d => d.parameters.length) = some n9) (hln : As.length = n9)
    (hR : rm.frames + 1 ≤ R.frames ∧ 8 + (cL + 11) + rm.locals ≤ R.locals) (hP : va_P (dC, dI) classes ws H) (hD : va_D A ws) (hS : va_S A s.heap H locs) (isC : List Nat) (hC : isC.map (fun i => ws[i]?) = wc.map some) (hnd : va_nd isC = true) (hsz : ls.size = nL) (hst : st = As.reverse ++ rest) (hcat : (rest.map fun v => v.category).sum ≤ 8) (hdg : decode b pc = .ok (.invokestatic idx, 3)) (hf : cells + rm.cells ≤ R.cells ∧ slots + rm.slots ≤ R.slots) :
    va_Run p l e R s m args below meth c H locs cells slots rm.cells rm.slots (F0 m pc ls st) rest (Qc As.toArray) fr := by
  obtain ⟨-, hx, hb, hml, -, hown, hts, -, hK, hZ, hA, hNS⟩ := C
  have hPc : va_P (dC, dI) classes wc H := va_Psub hP isC hC
  have hDc := hD.sub isC hnd hC
  have hFc := va_free hD hS hA isC hC
  have hpre : ∀ U : State, U.heap = H → s.WarmedH U.vm → va_Pc As (pc_ dC dI cI cJ cZ H.size wc) As.toArray U := fun U hU hW => ⟨rfl, by rw [hU], by rw [hU]; exact hPc, va_K.moved hW.alike hK, hDc.weaken (fun _ _ _ _ => trivial), by rw [hU]; exact hZ.warm hW (fun a ce h1 h2 => hS.2.1 a (Array.getElem?_eq_some_iff.mp h1).1 (fun h3 => by rw [hNS a ce h3 h1] at h2; cases h2))⟩
  exact va_runS (Ts := GB) (own := own) (As := As) (rest := rest) ⟨hx, hb, hml, hown, hts⟩ hM ⟨callB_of n9 hts (gd kc) rfl rfl rfl (hts _ kn) (hts _ kl) hd hR, hts _ ki⟩ ⟨pc_blind, hpre⟩ rfl hln hsz hst (lv_room hcat) hdg hf
theorem ru_SN (C : cxM b nL rt own l dC dI cI cJ cZ A p s m args meth c) (hM : Met l y (.code y cb cL crt :: GB) rm (va_Pc As (pc_ dC dI cI cJ cZ H.size wc)) Qc rm.cells rm.slots fr) (kc : Cond.code y cb cL crt ∈ GB) (kl : va_Nw (.methodLinkNest own idx y host) s) (ki : Cond.static y ∈ GB) (kn : Cond.initialized y.cls ∈ GB) (hd : y.cls ≠ "java/lang/invoke/MethodHandle" ∧ y.cls ≠ "java/lang/invoke/VarHandle" ∧ (parseMethodDescriptor y.desc).map (fun d => d.parameters.length) = some n9) (hln : As.length = n9)
    (hR : rm.frames + 1 ≤ R.frames ∧ 8 + (cL + 11) + rm.locals ≤ R.locals) (hP : va_P (dC, dI) classes ws H) (hD : va_D A ws) (hS : va_S A s.heap H locs) (isC : List Nat) (hC : isC.map (fun i => ws[i]?) = wc.map some) (hnd : va_nd isC = true) (hsz : ls.size = nL) (hst : st = As.reverse ++ rest) (hcat : (rest.map fun v => v.category).sum ≤ 8) (hdg : decode b pc = .ok (.invokestatic idx, 3)) (hf : cells + rm.cells ≤ R.cells ∧ slots + rm.slots ≤ R.slots) :
    va_Run p l e R s m args below meth c H locs cells slots rm.cells rm.slots (F0 m pc ls st) rest (Qc As.toArray) fr := by
  obtain ⟨-, hx, hb, hml, -, hown, hts, -, hK, hZ, hA, hNS⟩ := C
  have hPc : va_P (dC, dI) classes wc H := va_Psub hP isC hC
  have hDc := hD.sub isC hnd hC
  have hFc := va_free hD hS hA isC hC
  have hpre : ∀ U : State, U.heap = H → s.WarmedH U.vm → va_Pc As (pc_ dC dI cI cJ cZ H.size wc) As.toArray U := fun U hU hW => ⟨rfl, by rw [hU], by rw [hU]; exact hPc, va_K.moved hW.alike hK, hDc.weaken (fun _ _ _ _ => trivial), by rw [hU]; exact hZ.warm hW (fun a ce h1 h2 => hS.2.1 a (Array.getElem?_eq_some_iff.mp h1).1 (fun h3 => by rw [hNS a ce h3 h1] at h2; cases h2))⟩
  exact va_runSN (Ts := GB) (own := own) (As := As) (rest := rest) ⟨hx, hb, hml, hown, hts⟩ hM ⟨va_cnB n9 hts (gd kc) rfl rfl rfl kl (hts _ kn) hd hR, hts _ ki, trivial⟩ ⟨pc_blind, hpre⟩ rfl hln hsz hst (lv_room hcat) hdg hf
theorem ru_SO (C : cxM b nL rt own l dC dI cI cJ cZ A p s m args meth c) (hM : Met l y (.code y cb cL crt :: GB) rm (va_Pc As (pc_ dC dI cI cJ cZ H.size wc)) Qc rm.cells rm.slots fr) (kc : Cond.code y cb cL crt ∈ GB) (kl : Cond.methodLink own idx y ∈ GB) (ki : Cond.static y ∈ GB) (kn : Cond.initialized y.cls ∈ GB) (hd : y.cls ≠ "java/lang/invoke/MethodHandle" ∧ y.cls ≠ "java/lang/invoke/VarHandle" ∧ (parseMethodDescriptor y.desc).map (fun d => d.parameters.length) = some n9) (hln : As.length = n9)
    (hR : rm.frames + 1 ≤ R.frames ∧ 8 + (cL + 11) + rm.locals ≤ R.locals) (hP : va_P (dC, dI) classes ws H) (hD : va_D A ws) (hS : va_S A s.heap H locs) (isC : List Nat) (hC : isC.map (fun i => ws[i]?) = wc.map some) (hnd : va_nd isC = true) (hsz : ls.size = nL) (hst : st = As.reverse ++ rest) (hcat : (rest.map fun v => v.category).sum ≤ 8) (hdg : decode b pc = .ok (.invokestatic idx, 3)) (hf : cells + rm.cells ≤ R.cells ∧ slots + rm.slots ≤ R.slots) :
    va_Run p l e R s m args below meth c H locs cells slots rm.cells rm.slots (F0 m pc ls st) rest (Qc As.toArray) fr := by
  obtain ⟨-, hx, hb, hml, -, hown, hts, -, hK, hZ, hA, hNS⟩ := C
  have hPc : va_P (dC, dI) classes wc H := va_Psub hP isC hC
  have hDc := hD.sub isC hnd hC
  have hFc := va_free hD hS hA isC hC
  have hpre : ∀ U : State, U.heap = H → s.WarmedH U.vm → va_Pc As (pc_ dC dI cI cJ cZ H.size wc) As.toArray U := fun U hU hW => ⟨rfl, by rw [hU], by rw [hU]; exact hPc, va_K.moved hW.alike hK, hDc.weaken (fun _ _ _ _ => trivial), by rw [hU]; exact hZ.warm hW (fun a ce h1 h2 => hS.2.1 a (Array.getElem?_eq_some_iff.mp h1).1 (fun h3 => by rw [hNS a ce h3 h1] at h2; cases h2))⟩
  exact va_runS (Ts := GB) (own := own) (As := As) (rest := rest) ⟨hx, hb, hml, hown, hts⟩ hM ⟨callB_of n9 hts (gd kc) rfl rfl rfl (hts _ kn) (hts _ kl) hd hR, hts _ ki⟩ ⟨pc_blind, hpre⟩ rfl hln hsz hst (lv_room hcat) hdg hf
theorem ru_I (C : cxM b nL rt own l dC dI cI cJ cZ A p s m args meth c) (hM : Met l y (.code y cb cL none :: GB) rm (va_Pc (.ref q :: As) (pc_ dC dI cI cJ cZ H.size wc)) Qc rm.cells rm.slots fr) (kc : Cond.code y cb cL none ∈ GB) (kl : Cond.methodLink own idx y ∈ GB) (ki : Cond.instanceMethod y ∈ GB) (kn : Cond.initialized y.cls ∈ GB) (hd : y.cls ≠ "java/lang/invoke/MethodHandle" ∧ y.cls ≠ "java/lang/invoke/VarHandle" ∧ (parseMethodDescriptor y.desc).map (fun d => d.parameters.length) = some n9) (hln : As.length = n9) (hnm : y.name = "<init>")
    (hR : rm.frames + 1 ≤ R.frames ∧ 8 + (cL + 11) + rm.locals ≤ R.locals) (hP : va_P (dC, dI) classes ws H) (hD : va_D A ws) (hS : va_S A s.heap H locs) (isC : List Nat) (hC : isC.map (fun i => ws[i]?) = wc.map some) (hnd : va_nd isC = true) (hsz : ls.size = nL) (hst : st = As.reverse ++ .ref q :: rest) (hcat : (rest.map fun v => v.category).sum ≤ 8) (hdg : decode b pc = .ok (.invokespecial idx, 3)) (hf : cells + rm.cells ≤ R.cells ∧ slots + rm.slots ≤ R.slots) :
    va_Run p l e R s m args below meth c H locs cells slots rm.cells rm.slots (F0 m pc ls st) rest (Qc (Value.ref q :: As).toArray) fr := by
  obtain ⟨-, hx, hb, hml, -, hown, hts, -, hK, hZ, hA, hNS⟩ := C
  have hPc : va_P (dC, dI) classes wc H := va_Psub hP isC hC
  have hDc := hD.sub isC hnd hC
  have hFc := va_free hD hS hA isC hC
  have hpre : ∀ U : State, U.heap = H → s.WarmedH U.vm → va_Pc (.ref q :: As) (pc_ dC dI cI cJ cZ H.size wc) (Value.ref q :: As).toArray U := fun U hU hW => ⟨rfl, by rw [hU], by rw [hU]; exact hPc, va_K.moved hW.alike hK, hDc.weaken (fun _ _ _ _ => trivial), by rw [hU]; exact hZ.warm hW (fun a ce h1 h2 => hS.2.1 a (Array.getElem?_eq_some_iff.mp h1).1 (fun h3 => by rw [hNS a ce h3 h1] at h2; cases h2))⟩
  exact va_runI (Ts := GB) (own := own) (As := As) (rest := rest) ⟨hx, hb, hml, hown, hts⟩ hM ⟨callB_of n9 hts (gd kc) rfl rfl rfl (hts _ kn) (hts _ kl) hd hR, hnm, hts _ ki⟩ ⟨pc_blind, hpre⟩ rfl hln hsz hst (lv_room hcat) hdg hf
theorem ru_IN (C : cxM b nL rt own l dC dI cI cJ cZ A p s m args meth c) (hM : Met l y (.code y cb cL none :: GB) rm (va_Pc (.ref q :: As) (pc_ dC dI cI cJ cZ H.size wc)) Qc rm.cells rm.slots fr) (kc : Cond.code y cb cL none ∈ GB) (kl : va_Nw (.methodLinkNest own idx y host) s) (ki : Cond.instanceMethod y ∈ GB) (kn : Cond.initialized y.cls ∈ GB) (hd : y.cls ≠ "java/lang/invoke/MethodHandle" ∧ y.cls ≠ "java/lang/invoke/VarHandle" ∧ (parseMethodDescriptor y.desc).map (fun d => d.parameters.length) = some n9) (hln : As.length = n9) (hnm : y.name = "<init>")
    (hR : rm.frames + 1 ≤ R.frames ∧ 8 + (cL + 11) + rm.locals ≤ R.locals) (hP : va_P (dC, dI) classes ws H) (hD : va_D A ws) (hS : va_S A s.heap H locs) (isC : List Nat) (hC : isC.map (fun i => ws[i]?) = wc.map some) (hnd : va_nd isC = true) (hsz : ls.size = nL) (hst : st = As.reverse ++ .ref q :: rest) (hcat : (rest.map fun v => v.category).sum ≤ 8) (hdg : decode b pc = .ok (.invokespecial idx, 3)) (hf : cells + rm.cells ≤ R.cells ∧ slots + rm.slots ≤ R.slots) :
    va_Run p l e R s m args below meth c H locs cells slots rm.cells rm.slots (F0 m pc ls st) rest (Qc (Value.ref q :: As).toArray) fr := by
  obtain ⟨-, hx, hb, hml, -, hown, hts, -, hK, hZ, hA, hNS⟩ := C
  have hPc : va_P (dC, dI) classes wc H := va_Psub hP isC hC
  have hDc := hD.sub isC hnd hC
  have hFc := va_free hD hS hA isC hC
  have hpre : ∀ U : State, U.heap = H → s.WarmedH U.vm → va_Pc (.ref q :: As) (pc_ dC dI cI cJ cZ H.size wc) (Value.ref q :: As).toArray U := fun U hU hW => ⟨rfl, by rw [hU], by rw [hU]; exact hPc, va_K.moved hW.alike hK, hDc.weaken (fun _ _ _ _ => trivial), by rw [hU]; exact hZ.warm hW (fun a ce h1 h2 => hS.2.1 a (Array.getElem?_eq_some_iff.mp h1).1 (fun h3 => by rw [hNS a ce h3 h1] at h2; cases h2))⟩
  exact va_runIN (Ts := GB) (own := own) (As := As) (rest := rest) ⟨hx, hb, hml, hown, hts⟩ hM ⟨va_cnB n9 hts (gd kc) rfl rfl rfl kl (hts _ kn) hd hR, hnm, hts _ ki⟩ ⟨pc_blind, hpre⟩ rfl hln hsz hst (lv_room hcat) hdg hf
theorem jn_i {S : Type} {post : Int32 → S → Prop} {wf : S → va_W} {mc ms : Nat} {a : Array Value} (C : cxM b nL rt own l dC dI cI cJ cZ A p s m args meth c) (hP : va_P (dC, dI) classes ws H) (hD : va_D A ws) (hS : va_S A s.heap H locs) (isC isR : List Nat) (hrun : va_Run p l e R s m args below meth c H locs cells slots mc ms (F0 m pc ls st) rest (va_Qi post (fun u t => at_ dC dI cI cJ cZ (va_A wc H.size) (wf u) t) (va_A wc H.size) a) (va_A wc H.size))
    (hC : isC.map (fun i => ws[i]?) = wc.map some) (hRr : isR.map (fun i => ws[i]?) = (isR.filterMap (fun i => ws[i]?)).map some) (hn : va_nd isR = true) (hdis : ∀ i ∈ isR, i ∉ isC)
    (kk : ∀ (r : Int32) (u : S) (H1 : Heap) (locs1 : List Loc), post r u → va_P (dC, dI) classes (isR.filterMap (fun i => ws[i]?) ++ wf u) H1 → va_D A (isR.filterMap (fun i => ws[i]?) ++ wf u) → va_S A s.heap H1 locs1 → W p l e R s m args below meth c H1 locs1 (cells + mc) (slots + ms) Q (F0 m (pc + 3) ls (.int r :: rest))) : W p l e R s m args below meth c H locs cells slots Q (F0 m pc ls st) := by
  have hA : ∀ q, s.heap.size ≤ q → A q := C.2.2.2.2.2.2.2.2.2.2.1
  have hFc := va_free hD hS hA isC hC
  refine va_calli hrun hS (fun q _ h => hFc q h) hFc (fun r u t H1 locs1 ht hvm hw hB hz1 hk1 hS1 => ?_)
  obtain ⟨hP1, hK1, hD1⟩ := hB
  rw [ht] at hP1
  obtain ⟨hP2, hD2⟩ := va_join hP hD isC isR hC hRr hn hdis hk1 hFc hP1 hD1
  exact kk r u H1 locs1 hw hP2 hD2 hS1
theorem jn_l {S : Type} {post : Int64 → S → Prop} {wf : S → va_W} {mc ms : Nat} {a : Array Value} (C : cxM b nL rt own l dC dI cI cJ cZ A p s m args meth c) (hP : va_P (dC, dI) classes ws H) (hD : va_D A ws) (hS : va_S A s.heap H locs) (isC isR : List Nat) (hrun : va_Run p l e R s m args below meth c H locs cells slots mc ms (F0 m pc ls st) rest (va_Ql post (fun u t => at_ dC dI cI cJ cZ (va_A wc H.size) (wf u) t) (va_A wc H.size) a) (va_A wc H.size))
    (hC : isC.map (fun i => ws[i]?) = wc.map some) (hRr : isR.map (fun i => ws[i]?) = (isR.filterMap (fun i => ws[i]?)).map some) (hn : va_nd isR = true) (hdis : ∀ i ∈ isR, i ∉ isC)
    (kk : ∀ (r : Int64) (u : S) (H1 : Heap) (locs1 : List Loc), post r u → va_P (dC, dI) classes (isR.filterMap (fun i => ws[i]?) ++ wf u) H1 → va_D A (isR.filterMap (fun i => ws[i]?) ++ wf u) → va_S A s.heap H1 locs1 → W p l e R s m args below meth c H1 locs1 (cells + mc) (slots + ms) Q (F0 m (pc + 3) ls (.long r :: rest))) : W p l e R s m args below meth c H locs cells slots Q (F0 m pc ls st) := by
  have hA : ∀ q, s.heap.size ≤ q → A q := C.2.2.2.2.2.2.2.2.2.2.1
  have hFc := va_free hD hS hA isC hC
  refine va_calll hrun hS (fun q _ h => hFc q h) hFc (fun r u t H1 locs1 ht hvm hw hB hz1 hk1 hS1 => ?_)
  obtain ⟨hP1, hK1, hD1⟩ := hB
  rw [ht] at hP1
  obtain ⟨hP2, hD2⟩ := va_join hP hD isC isR hC hRr hn hdis hk1 hFc hP1 hD1
  exact kk r u H1 locs1 hw hP2 hD2 hS1
theorem jn_v {S : Type} {post : S → Prop} {wf : S → va_W} {mc ms : Nat} {a : Array Value} (C : cxM b nL rt own l dC dI cI cJ cZ A p s m args meth c) (hP : va_P (dC, dI) classes ws H) (hD : va_D A ws) (hS : va_S A s.heap H locs) (isC isR : List Nat) (hrun : va_Run p l e R s m args below meth c H locs cells slots mc ms (F0 m pc ls st) rest (va_Qv post (fun u t => at_ dC dI cI cJ cZ (va_A wc H.size) (wf u) t) (va_A wc H.size) a) (va_A wc H.size))
    (hC : isC.map (fun i => ws[i]?) = wc.map some) (hRr : isR.map (fun i => ws[i]?) = (isR.filterMap (fun i => ws[i]?)).map some) (hn : va_nd isR = true) (hdis : ∀ i ∈ isR, i ∉ isC)
    (kk : ∀ (u : S) (H1 : Heap) (locs1 : List Loc), post u → va_P (dC, dI) classes (isR.filterMap (fun i => ws[i]?) ++ wf u) H1 → va_D A (isR.filterMap (fun i => ws[i]?) ++ wf u) → va_S A s.heap H1 locs1 → W p l e R s m args below meth c H1 locs1 (cells + mc) (slots + ms) Q (F0 m (pc + 3) ls (rest))) : W p l e R s m args below meth c H locs cells slots Q (F0 m pc ls st) := by
  have hA : ∀ q, s.heap.size ≤ q → A q := C.2.2.2.2.2.2.2.2.2.2.1
  have hFc := va_free hD hS hA isC hC
  refine va_callv hrun hS (fun q _ h => hFc q h) hFc (fun u t H1 locs1 ht hvm hw hB hz1 hk1 hS1 => ?_)
  obtain ⟨hP1, hK1, hD1⟩ := hB
  rw [ht] at hP1
  obtain ⟨hP2, hD2⟩ := va_join hP hD isC isR hC hRr hn hdis hk1 hFc hP1 hD1
  exact kk u H1 locs1 hw hP2 hD2 hS1
end BC
section BN
variable {b : ByteArray} {nL : Nat} {rt : Option FieldType} {own : String} {p : Program} {l : Launch} {e : Env} {R rm : Room} {s : State} {m : MethodId} {args : Array Value} {below : List Frame} {meth : Method} {c : Code} {H : Heap} {locs : List Loc} {cells slots : Nat} {dC : Nat → ClassId} {dI : Nat → Nat → Nat} {cI cJ cZ : ClassId} {A : Nat → Prop} {pc : Nat} {ls : Array Slot} {ws : va_W} {rest : List Value} {Q : State → Prop} {n : Int32} {N9 : Nat}
/-- an array is made: its class is the one that the tables have for it -/
theorem nwaI (C : cxM b nL rt own l dC dI cI cJ cZ A p s m args meth c) (ka : Cond.arrayClass .int ∈ GB) (hP : va_P (dC, dI) classes ws H) (hD : va_D A ws) (hS : va_S A s.heap H locs) (hn : ¬ n < 0) (hN : n.toNatClampNeg = N9) (hby : N9 * componentBytes .int ≤ 536870912) (hc : cells + 1 ≤ R.cells) (hs : slots + N9 ≤ R.slots) (hd : decode b pc = .ok (.newarray .int, 2))
    (kk : ∀ (q : Nat) (H1 : Heap), va_P (dC, dI) classes (ws ++ [(q, .inl (cI, N9, .inl (fun _ => 0)))]) H1 → va_D A (ws ++ [(q, .inl (cI, N9, .inl (fun _ => 0)))]) → va_S A s.heap H1 locs → W p l e R s m args below meth c H1 locs (cells + 1) (slots + N9) Q (F0 m (pc + 2) ls (.ref q :: rest))) : W p l e R s m args below meth c H locs cells slots Q (F0 m pc ls (.int n :: rest)) := by
  obtain ⟨-, hx, hb, -, -, -, hts, -, hK, -, hA, -⟩ := C
  refine va_newa (atype := .int) (ty := .int) (a0 := (N9, .inl (fun _ => 0))) hx hb (hts _ ka) rfl hK hP hD hS hA (fun _ => rfl) hn hN hby hc hs hd (fun q cA H1 hK1 hP1 hD1 hS1 => ?_)
  have h1 : s.vm.findClass ("[" ++ FieldType.int.toString) = some cA := (hK1.2 3 (cA, .int) rfl).2
  have h2 : s.vm.findClass ("[" ++ FieldType.int.toString) = some cI := (hK.2 0 (cI, .int) rfl).2
  obtain rfl : cA = cI := Option.some.inj (h1.symm.trans h2)
  exact kk q H1 hP1 hD1 hS1
theorem nwaJ (C : cxM b nL rt own l dC dI cI cJ cZ A p s m args meth c) (ka : Cond.arrayClass .long ∈ GB) (hP : va_P (dC, dI) classes ws H) (hD : va_D A ws) (hS : va_S A s.heap H locs) (hn : ¬ n < 0) (hN : n.toNatClampNeg = N9) (hby : N9 * componentBytes .long ≤ 536870912) (hc : cells + 1 ≤ R.cells) (hs : slots + N9 ≤ R.slots) (hd : decode b pc = .ok (.newarray .long, 2))
    (kk : ∀ (q : Nat) (H1 : Heap), va_P (dC, dI) classes (ws ++ [(q, .inl (cJ, N9, .inr (.inl (fun _ => 0))))]) H1 → va_D A (ws ++ [(q, .inl (cJ, N9, .inr (.inl (fun _ => 0))))]) → va_S A s.heap H1 locs → W p l e R s m args below meth c H1 locs (cells + 1) (slots + N9) Q (F0 m (pc + 2) ls (.ref q :: rest))) : W p l e R s m args below meth c H locs cells slots Q (F0 m pc ls (.int n :: rest)) := by
  obtain ⟨-, hx, hb, -, -, -, hts, -, hK, -, hA, -⟩ := C
  refine va_newa (atype := .long) (ty := .long) (a0 := (N9, .inr (.inl (fun _ => 0)))) hx hb (hts _ ka) rfl hK hP hD hS hA (fun _ => rfl) hn hN hby hc hs hd (fun q cA H1 hK1 hP1 hD1 hS1 => ?_)
  have h1 : s.vm.findClass ("[" ++ FieldType.long.toString) = some cA := (hK1.2 3 (cA, .long) rfl).2
  have h2 : s.vm.findClass ("[" ++ FieldType.long.toString) = some cJ := (hK.2 1 (cJ, .long) rfl).2
  obtain rfl : cA = cJ := Option.some.inj (h1.symm.trans h2)
  exact kk q H1 hP1 hD1 hS1
theorem nwaZ (C : cxM b nL rt own l dC dI cI cJ cZ A p s m args meth c) (ka : Cond.arrayClass .boolean ∈ GB) (hP : va_P (dC, dI) classes ws H) (hD : va_D A ws) (hS : va_S A s.heap H locs) (hn : ¬ n < 0) (hN : n.toNatClampNeg = N9) (hby : N9 * componentBytes .boolean ≤ 536870912) (hc : cells + 1 ≤ R.cells) (hs : slots + N9 ≤ R.slots) (hd : decode b pc = .ok (.newarray .boolean, 2))
    (kk : ∀ (q : Nat) (H1 : Heap), va_P (dC, dI) classes (ws ++ [(q, .inl (cZ, N9, .inl (fun _ => 0)))]) H1 → va_D A (ws ++ [(q, .inl (cZ, N9, .inl (fun _ => 0)))]) → va_S A s.heap H1 locs → W p l e R s m args below meth c H1 locs (cells + 1) (slots + N9) Q (F0 m (pc + 2) ls (.ref q :: rest))) : W p l e R s m args below meth c H locs cells slots Q (F0 m pc ls (.int n :: rest)) := by
  obtain ⟨-, hx, hb, -, -, -, hts, -, hK, -, hA, -⟩ := C
  refine va_newa (atype := .boolean) (ty := .boolean) (a0 := (N9, .inl (fun _ => 0))) hx hb (hts _ ka) rfl hK hP hD hS hA (fun _ => rfl) hn hN hby hc hs hd (fun q cA H1 hK1 hP1 hD1 hS1 => ?_)
  have h1 : s.vm.findClass ("[" ++ FieldType.boolean.toString) = some cA := (hK1.2 3 (cA, .boolean) rfl).2
  have h2 : s.vm.findClass ("[" ++ FieldType.boolean.toString) = some cZ := (hK.2 2 (cZ, .boolean) rfl).2
  obtain rfl : cA = cZ := Option.some.inj (h1.symm.trans h2)
  exact kk q H1 hP1 hD1 hS1
end BN
theorem nb_use {U : State} {H : Heap} (h : zz U H) (args : Array Value) : ∀ w ∈ NB, w.before args U = true := fun w hw => va_Nw.use (by
  have h2 := nb_kind w hw
  cases w <;> first | (simp [nk] at h2; done) | rfl) (h.1 w hw)
section BT
variable {b : ByteArray} {nL : Nat} {rt : Option FieldType} {own : String} {p : Program} {l : Launch} {e : Env} {R rm : Room} {s : State} {m : MethodId} {args : Array Value} {below : List Frame} {meth : Method} {c : Code} {H : Heap} {locs : List Loc} {cells slots : Nat} {dC : Nat → ClassId} {dI : Nat → Nat → Nat} {cI cJ cZ : ClassId} {A : Nat → Prop} {S : Type} {wf : S → va_W} {pc : Nat} {ls : Array Slot} {ws : va_W} {px : String → Prop} {rest : List Value} {cls text : String} {names : List String} {ik is ic : Nat}
end BT

