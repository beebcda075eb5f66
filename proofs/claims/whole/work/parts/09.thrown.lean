/-- what 'throw new cls(text)' needs of the tables -/
def thw (w : Cond) : Bool := decide (w = .isRef (.static "java/lang/Throwable" "UNASSIGNED_STACK" "[Ljava/lang/StackTraceElement;")) || decide (w = .isRef (.static "java/lang/Throwable" "SUPPRESSED_SENTINEL" "Ljava/util/List;")) || decide (w = .laysStatic "java/lang/Throwable" "UNASSIGNED_STACK" "[Ljava/lang/StackTraceElement;") || decide (w = .laysStatic "java/lang/Throwable" "SUPPRESSED_SENTINEL" "Ljava/util/List;")
def tha (own : String) (ik ic : Nat) (cls : String) (names : List String) : Prop := (Bundle.fit cls = true ∧ ∀ n ∈ names, Bundle.fit n = true) ∧ Cond.classLink own ik cls ∈ GB ∧ Cond.instantiable cls 6 ∈ GB ∧ Cond.initialized cls ∈ GB ∧ ∀ w ∈ Bundle.ownAtoms own ic cls names, w ∈ GB ∨ w ∈ NB ∨ thw w = true
theorem tha_words {own cls : String} {ik ic : Nat} {names : List String} {s : State} {args : Array Value} (T : tha own ik ic cls names) (hts : ∀ w ∈ GB, w.before args s = true) (hZ : zz s s.heap) : ∀ w ∈ Bundle.ownAtoms own ic cls names, w.before args s = true := by
  intro w hw
  rcases T.2.2.2.2 w hw with h | h | h
  · exact hts w h
  · exact nb_use hZ args w h
  · simp only [thw, Bool.or_eq_true, decide_eq_true_eq] at h
    rcases h with ((h | h) | h) | h
    · rw [h]; exact hZ.2.2.1.ref
    · rw [h]; exact hZ.2.2.2.ref
    · rw [h]; exact hZ.2.2.1.lays
    · rw [h]; exact hZ.2.2.2.lays
section XT
variable {b : ByteArray} {nL : Nat} {rt : Option FieldType} {own : String} {p : Program} {l : Launch} {e : Env} {rm : Room} {s : State} {m : MethodId} {args : Array Value} {below : List Frame} {meth : Method} {c : Code} {H : Heap} {locs : List Loc} {cells slots : Nat} {dC : Nat → ClassId} {dI : Nat → Nat → Nat} {cI cJ cZ : ClassId} {A fr : Nat → Prop} {S : Type} {wf : S → va_W} {pc : Nat} {ls : Array Slot} {ws : va_W} {px : String → Prop} {rest : List Value} {cls text : String} {names : List String} {ik is ic : Nat}
set_option maxHeartbeats 2000000 in
theorem thS_i {post : Int32 → S → Prop} (C : cxM b nL rt own l dC dI cI cJ cZ A p s m args meth c) (hEx : ∀ x ∈ c.exceptionTable.toList, False) (T0 : tha own ik ic cls names) (hsb : (own, is, text) ∈ SB) (hw : px cls) (hP0 : va_P (dC, dI) classes ws s.heap) (hD : va_D A ws) (hN : ∀ q ∈ locs, s.heap.size ≤ q.base) (hF : ∀ q ∈ locs, fr q.base) (hsz : ls.size = nL) (hf : names.length + 3 < rm.frames) (hL : (rest.map fun v => v.category).sum + (13 * (names.length + 1) + 43) ≤ rm.locals) (hc : cells + 1 ≤ rm.cells) (hs : slots + 6 ≤ rm.slots)
    (d0 : decode b pc = .ok (.new ik, 3)) (d3 : decode b (pc + 3) = .ok (.dup, 1)) (d4 : decode b (pc + 4) = .ok (.ldc is, 2)) (d6 : decode b (pc + 6) = .ok (.invokespecial ic, 3)) (d9 : decode b (pc + 9) = .ok (.athrow, 1)) : W p l e rm s m args below meth c H locs cells slots (Qix below args s A dC dI cI cJ cZ rm fr ws px post wf) (F0 m pc ls rest) := by
  obtain ⟨hl9, hx, hb, hml, hr, hown, hts, hlocks, hK, hZ, hA, hNS⟩ := C
  subst hb
  obtain ⟨sa, hstr⟩ := hZ.2.1 _ hsb
  intro T hT X0
  have X := stand_widen X0 (show cells ≤ rm.cells - 1 by omega) (show slots ≤ rm.slots - 6 by omega)
  have htr : e.platform.stackTraces = false := (show e.platform.stackTraces = l.stackTraces by rw [X.admits.platform]).trans hl9
  obtain ⟨vm₁, cX, kX, hfX, hkX, -, -, X₁, st1⟩ := X.newCold hx (own := own) (C := cls) (index := ik) (n := 6) hown (hts _ T0.2.1) (hts _ T0.2.2.1) (hts _ T0.2.2.2.1) (g := F0 m pc ls rest) rfl d0 (by omega) (by omega)
  generalize hT2 : (T.setVm vm₁).pushCell { cls := cX, slots := kX.instanceTypes.map defaultValue, vm := .none } = T2 at X₁ st1
  have hcellA : T2.heap[T.heap.size]? = some (freshCell cX kX) := by rw [← hT2]; exact State.heap_pushCell_size _ _
  have hnew : s.heap.size ≤ T.heap.size := X.same.2.1
  obtain ⟨U, hsteps, hrun, hend, hW, hsame, ce, hce, K⟩ := X₁.ctorThrowS hx htr (own := own) (cls := cls) (names := names) (ic := ic) hown T0.1.1 T0.1.2 (tha_words T0 hts hZ) (fun x hx cell h => absurd (Array.getElem?_eq_some_iff.mp h).1 (Nat.not_lt.mpr (hN x hx))) hfX hkX hcellA hnew (msg := .ref sa) rfl
    (g := F0 m (pc + 6) ls (.ref sa :: .ref T.heap.size :: .ref T.heap.size :: rest)) rfl (hsz.trans hml.symm) rfl rfl (rest := rest) rfl d6 d9 (fun x hx => (hEx x hx).elim) hf (by show 2 * 0 + (1 + (rest.map fun v => v.category).sum) + (13 * (names.length + 1) + 42) ≤ rm.locals; omega) hlocks
  have e1 : rm.cells - 1 + 1 = rm.cells := by omega
  have e2 : rm.slots - 6 + 6 = rm.slots := by omega
  rw [e1, e2] at hsame
  have hs0 : s.sameButNew ({ U with vm := s.vm } : State) [] rm.cells rm.slots := hsame.weaken (fun x hx h => absurd h (Nat.not_lt.mpr (hN x hx))) (Nat.le_refl _) (Nat.le_refl _)
  have hold : ∀ (q : Nat) (cl : Cell), s.heap[q]? = some cl → U.heap[q]? = some cl := fun q cl h => hs0.old_cell h
  refine ⟨U, ?_, .threw T.heap.size, hrun, hend, Or.inr ⟨T.heap.size, rfl, cls, ce, locs, ⟨hw, ⟨hP0.kept (fun k q hq => ?_), va_K.moved hW.alike hK, hD⟩, hs0.2.1, fun q h1 _ => ?_⟩, hce, K.vm, K.cls, hW, hsame, hF⟩⟩
  · refine st1 _ ?_
    show Steps p.tables e below (T2.setTop (F0 m (pc + 3) ls (.ref T.heap.size :: rest))) U
    jvm_step X₁.here [X₁.here.top, hx, d3, Value.category]
    refine X₁.ldcString hx hown (by have h9 := hstr.1; simpa only [Cond.before, Cond.holds, Cond.value] using h9) (by simpa only [Term.eval] using hstr.2) (g := F0 m (pc + 4) ls (.ref T.heap.size :: .ref T.heap.size :: rest)) rfl d4 _ ?_
    exact hsteps
  · have h9 := (hP0 k q hq).lt
    rw [Array.getElem?_eq_getElem h9]
    exact hold q.1 _ (Array.getElem?_eq_getElem h9)
  · rw [Array.getElem?_eq_getElem h1]
    exact hold q _ (Array.getElem?_eq_getElem h1)
set_option maxHeartbeats 2000000 in
theorem thS_v {post : S → Prop} (C : cxM b nL rt own l dC dI cI cJ cZ A p s m args meth c) (hEx : ∀ x ∈ c.exceptionTable.toList, False) (T0 : tha own ik ic cls names) (hsb : (own, is, text) ∈ SB) (hw : px cls) (hP0 : va_P (dC, dI) classes ws s.heap) (hD : va_D A ws) (hN : ∀ q ∈ locs, s.heap.size ≤ q.base) (hF : ∀ q ∈ locs, fr q.base) (hsz : ls.size = nL) (hf : names.length + 3 < rm.frames) (hL : (rest.map fun v => v.category).sum + (13 * (names.length + 1) + 43) ≤ rm.locals) (hc : cells + 1 ≤ rm.cells) (hs : slots + 6 ≤ rm.slots)
    (d0 : decode b pc = .ok (.new ik, 3)) (d3 : decode b (pc + 3) = .ok (.dup, 1)) (d4 : decode b (pc + 4) = .ok (.ldc is, 2)) (d6 : decode b (pc + 6) = .ok (.invokespecial ic, 3)) (d9 : decode b (pc + 9) = .ok (.athrow, 1)) : W p l e rm s m args below meth c H locs cells slots (Qvx below args s A dC dI cI cJ cZ rm fr ws px post wf) (F0 m pc ls rest) := by
  obtain ⟨hl9, hx, hb, hml, hr, hown, hts, hlocks, hK, hZ, hA, hNS⟩ := C
  subst hb
  obtain ⟨sa, hstr⟩ := hZ.2.1 _ hsb
  intro T hT X0
  have X := stand_widen X0 (show cells ≤ rm.cells - 1 by omega) (show slots ≤ rm.slots - 6 by omega)
  have htr : e.platform.stackTraces = false := (show e.platform.stackTraces = l.stackTraces by rw [X.admits.platform]).trans hl9
  obtain ⟨vm₁, cX, kX, hfX, hkX, -, -, X₁, st1⟩ := X.newCold hx (own := own) (C := cls) (index := ik) (n := 6) hown (hts _ T0.2.1) (hts _ T0.2.2.1) (hts _ T0.2.2.2.1) (g := F0 m pc ls rest) rfl d0 (by omega) (by omega)
  generalize hT2 : (T.setVm vm₁).pushCell { cls := cX, slots := kX.instanceTypes.map defaultValue, vm := .none } = T2 at X₁ st1
  have hcellA : T2.heap[T.heap.size]? = some (freshCell cX kX) := by rw [← hT2]; exact State.heap_pushCell_size _ _
  have hnew : s.heap.size ≤ T.heap.size := X.same.2.1
  obtain ⟨U, hsteps, hrun, hend, hW, hsame, ce, hce, K⟩ := X₁.ctorThrowS hx htr (own := own) (cls := cls) (names := names) (ic := ic) hown T0.1.1 T0.1.2 (tha_words T0 hts hZ) (fun x hx cell h => absurd (Array.getElem?_eq_some_iff.mp h).1 (Nat.not_lt.mpr (hN x hx))) hfX hkX hcellA hnew (msg := .ref sa) rfl
    (g := F0 m (pc + 6) ls (.ref sa :: .ref T.heap.size :: .ref T.heap.size :: rest)) rfl (hsz.trans hml.symm) rfl rfl (rest := rest) rfl d6 d9 (fun x hx => (hEx x hx).elim) hf (by show 2 * 0 + (1 + (rest.map fun v => v.category).sum) + (13 * (names.length + 1) + 42) ≤ rm.locals; omega) hlocks
  have e1 : rm.cells - 1 + 1 = rm.cells := by omega
  have e2 : rm.slots - 6 + 6 = rm.slots := by omega
  rw [e1, e2] at hsame
  have hs0 : s.sameButNew ({ U with vm := s.vm } : State) [] rm.cells rm.slots := hsame.weaken (fun x hx h => absurd h (Nat.not_lt.mpr (hN x hx))) (Nat.le_refl _) (Nat.le_refl _)
  have hold : ∀ (q : Nat) (cl : Cell), s.heap[q]? = some cl → U.heap[q]? = some cl := fun q cl h => hs0.old_cell h
  refine ⟨U, ?_, .threw T.heap.size, hrun, hend, Or.inr ⟨T.heap.size, rfl, cls, ce, locs, ⟨hw, ⟨hP0.kept (fun k q hq => ?_), va_K.moved hW.alike hK, hD⟩, hs0.2.1, fun q h1 _ => ?_⟩, hce, K.vm, K.cls, hW, hsame, hF⟩⟩
  · refine st1 _ ?_
    show Steps p.tables e below (T2.setTop (F0 m (pc + 3) ls (.ref T.heap.size :: rest))) U
    jvm_step X₁.here [X₁.here.top, hx, d3, Value.category]
    refine X₁.ldcString hx hown (by have h9 := hstr.1; simpa only [Cond.before, Cond.holds, Cond.value] using h9) (by simpa only [Term.eval] using hstr.2) (g := F0 m (pc + 4) ls (.ref T.heap.size :: .ref T.heap.size :: rest)) rfl d4 _ ?_
    exact hsteps
  · have h9 := (hP0 k q hq).lt
    rw [Array.getElem?_eq_getElem h9]
    exact hold q.1 _ (Array.getElem?_eq_getElem h9)
  · rw [Array.getElem?_eq_getElem h1]
    exact hold q _ (Array.getElem?_eq_getElem h1)
set_option maxHeartbeats 2000000 in
theorem thSW_i {post : Int32 → S → Prop} (C : cxM b nL rt own l dC dI cI cJ cZ A p s m args meth c) (hEx : ∀ x ∈ c.exceptionTable.toList, False) (T0 : tha own ik ic cls names) (hsb : (own, is, text) ∈ SB) (hw : px cls) (hP0 : va_P (dC, dI) classes ws s.heap) (hD : va_D A ws) (hN : ∀ q ∈ locs, s.heap.size ≤ q.base) (hF : ∀ q ∈ locs, fr q.base) (hsz : ls.size = nL) (hf : names.length + 3 < rm.frames) (hL : (rest.map fun v => v.category).sum + (13 * (names.length + 1) + 43) ≤ rm.locals) (hc : cells + 1 ≤ rm.cells) (hs : slots + 6 ≤ rm.slots)
    (d0 : decode b pc = .ok (.new ik, 3)) (d3 : decode b (pc + 3) = .ok (.dup, 1)) (d4 : decode b (pc + 4) = .ok (.ldc_w is, 3)) (d6 : decode b (pc + 7) = .ok (.invokespecial ic, 3)) (d9 : decode b (pc + 10) = .ok (.athrow, 1)) : W p l e rm s m args below meth c H locs cells slots (Qix below args s A dC dI cI cJ cZ rm fr ws px post wf) (F0 m pc ls rest) := by
  obtain ⟨hl9, hx, hb, hml, hr, hown, hts, hlocks, hK, hZ, hA, hNS⟩ := C
  subst hb
  obtain ⟨sa, hstr⟩ := hZ.2.1 _ hsb
  intro T hT X0
  have X := stand_widen X0 (show cells ≤ rm.cells - 1 by omega) (show slots ≤ rm.slots - 6 by omega)
  have htr : e.platform.stackTraces = false := (show e.platform.stackTraces = l.stackTraces by rw [X.admits.platform]).trans hl9
  obtain ⟨vm₁, cX, kX, hfX, hkX, -, -, X₁, st1⟩ := X.newCold hx (own := own) (C := cls) (index := ik) (n := 6) hown (hts _ T0.2.1) (hts _ T0.2.2.1) (hts _ T0.2.2.2.1) (g := F0 m pc ls rest) rfl d0 (by omega) (by omega)
  generalize hT2 : (T.setVm vm₁).pushCell { cls := cX, slots := kX.instanceTypes.map defaultValue, vm := .none } = T2 at X₁ st1
  have hcellA : T2.heap[T.heap.size]? = some (freshCell cX kX) := by rw [← hT2]; exact State.heap_pushCell_size _ _
  have hnew : s.heap.size ≤ T.heap.size := X.same.2.1
  obtain ⟨U, hsteps, hrun, hend, hW, hsame, ce, hce, K⟩ := X₁.ctorThrowS hx htr (own := own) (cls := cls) (names := names) (ic := ic) hown T0.1.1 T0.1.2 (tha_words T0 hts hZ) (fun x hx cell h => absurd (Array.getElem?_eq_some_iff.mp h).1 (Nat.not_lt.mpr (hN x hx))) hfX hkX hcellA hnew (msg := .ref sa) rfl
    (g := F0 m (pc + 7) ls (.ref sa :: .ref T.heap.size :: .ref T.heap.size :: rest)) rfl (hsz.trans hml.symm) rfl rfl (rest := rest) rfl d6 d9 (fun x hx => (hEx x hx).elim) hf (by show 2 * 0 + (1 + (rest.map fun v => v.category).sum) + (13 * (names.length + 1) + 42) ≤ rm.locals; omega) hlocks
  have e1 : rm.cells - 1 + 1 = rm.cells := by omega
  have e2 : rm.slots - 6 + 6 = rm.slots := by omega
  rw [e1, e2] at hsame
  have hs0 : s.sameButNew ({ U with vm := s.vm } : State) [] rm.cells rm.slots := hsame.weaken (fun x hx h => absurd h (Nat.not_lt.mpr (hN x hx))) (Nat.le_refl _) (Nat.le_refl _)
  have hold : ∀ (q : Nat) (cl : Cell), s.heap[q]? = some cl → U.heap[q]? = some cl := fun q cl h => hs0.old_cell h
  refine ⟨U, ?_, .threw T.heap.size, hrun, hend, Or.inr ⟨T.heap.size, rfl, cls, ce, locs, ⟨hw, ⟨hP0.kept (fun k q hq => ?_), va_K.moved hW.alike hK, hD⟩, hs0.2.1, fun q h1 _ => ?_⟩, hce, K.vm, K.cls, hW, hsame, hF⟩⟩
  · refine st1 _ ?_
    show Steps p.tables e below (T2.setTop (F0 m (pc + 3) ls (.ref T.heap.size :: rest))) U
    jvm_step X₁.here [X₁.here.top, hx, d3, Value.category]
    refine X₁.ldcStringW hx hown (by have h9 := hstr.1; simpa only [Cond.before, Cond.holds, Cond.value] using h9) (by simpa only [Term.eval] using hstr.2) (g := F0 m (pc + 4) ls (.ref T.heap.size :: .ref T.heap.size :: rest)) rfl d4 _ ?_
    exact hsteps
  · have h9 := (hP0 k q hq).lt
    rw [Array.getElem?_eq_getElem h9]
    exact hold q.1 _ (Array.getElem?_eq_getElem h9)
  · rw [Array.getElem?_eq_getElem h1]
    exact hold q _ (Array.getElem?_eq_getElem h1)
set_option maxHeartbeats 2000000 in
theorem thSW_v {post : S → Prop} (C : cxM b nL rt own l dC dI cI cJ cZ A p s m args meth c) (hEx : ∀ x ∈ c.exceptionTable.toList, False) (T0 : tha own ik ic cls names) (hsb : (own, is, text) ∈ SB) (hw : px cls) (hP0 : va_P (dC, dI) classes ws s.heap) (hD : va_D A ws) (hN : ∀ q ∈ locs, s.heap.size ≤ q.base) (hF : ∀ q ∈ locs, fr q.base) (hsz : ls.size = nL) (hf : names.length + 3 < rm.frames) (hL : (rest.map fun v => v.category).sum + (13 * (names.length + 1) + 43) ≤ rm.locals) (hc : cells + 1 ≤ rm.cells) (hs : slots + 6 ≤ rm.slots)
    (d0 : decode b pc = .ok (.new ik, 3)) (d3 : decode b (pc + 3) = .ok (.dup, 1)) (d4 : decode b (pc + 4) = .ok (.ldc_w is, 3)) (d6 : decode b (pc + 7) = .ok (.invokespecial ic, 3)) (d9 : decode b (pc + 10) = .ok (.athrow, 1)) : W p l e rm s m args below meth c H locs cells slots (Qvx below args s A dC dI cI cJ cZ rm fr ws px post wf) (F0 m pc ls rest) := by
  obtain ⟨hl9, hx, hb, hml, hr, hown, hts, hlocks, hK, hZ, hA, hNS⟩ := C
  subst hb
  obtain ⟨sa, hstr⟩ := hZ.2.1 _ hsb
  intro T hT X0
  have X := stand_widen X0 (show cells ≤ rm.cells - 1 by omega) (show slots ≤ rm.slots - 6 by omega)
  have htr : e.platform.stackTraces = false := (show e.platform.stackTraces = l.stackTraces by rw [X.admits.platform]).trans hl9
  obtain ⟨vm₁, cX, kX, hfX, hkX, -, -, X₁, st1⟩ := X.newCold hx (own := own) (C := cls) (index := ik) (n := 6) hown (hts _ T0.2.1) (hts _ T0.2.2.1) (hts _ T0.2.2.2.1) (g := F0 m pc ls rest) rfl d0 (by omega) (by omega)
  generalize hT2 : (T.setVm vm₁).pushCell { cls := cX, slots := kX.instanceTypes.map defaultValue, vm := .none } = T2 at X₁ st1
  have hcellA : T2.heap[T.heap.size]? = some (freshCell cX kX) := by rw [← hT2]; exact State.heap_pushCell_size _ _
  have hnew : s.heap.size ≤ T.heap.size := X.same.2.1
  obtain ⟨U, hsteps, hrun, hend, hW, hsame, ce, hce, K⟩ := X₁.ctorThrowS hx htr (own := own) (cls := cls) (names := names) (ic := ic) hown T0.1.1 T0.1.2 (tha_words T0 hts hZ) (fun x hx cell h => absurd (Array.getElem?_eq_some_iff.mp h).1 (Nat.not_lt.mpr (hN x hx))) hfX hkX hcellA hnew (msg := .ref sa) rfl
    (g := F0 m (pc + 7) ls (.ref sa :: .ref T.heap.size :: .ref T.heap.size :: rest)) rfl (hsz.trans hml.symm) rfl rfl (rest := rest) rfl d6 d9 (fun x hx => (hEx x hx).elim) hf (by show 2 * 0 + (1 + (rest.map fun v => v.category).sum) + (13 * (names.length + 1) + 42) ≤ rm.locals; omega) hlocks
  have e1 : rm.cells - 1 + 1 = rm.cells := by omega
  have e2 : rm.slots - 6 + 6 = rm.slots := by omega
  rw [e1, e2] at hsame
  have hs0 : s.sameButNew ({ U with vm := s.vm } : State) [] rm.cells rm.slots := hsame.weaken (fun x hx h => absurd h (Nat.not_lt.mpr (hN x hx))) (Nat.le_refl _) (Nat.le_refl _)
  have hold : ∀ (q : Nat) (cl : Cell), s.heap[q]? = some cl → U.heap[q]? = some cl := fun q cl h => hs0.old_cell h
  refine ⟨U, ?_, .threw T.heap.size, hrun, hend, Or.inr ⟨T.heap.size, rfl, cls, ce, locs, ⟨hw, ⟨hP0.kept (fun k q hq => ?_), va_K.moved hW.alike hK, hD⟩, hs0.2.1, fun q h1 _ => ?_⟩, hce, K.vm, K.cls, hW, hsame, hF⟩⟩
  · refine st1 _ ?_
    show Steps p.tables e below (T2.setTop (F0 m (pc + 3) ls (.ref T.heap.size :: rest))) U
    jvm_step X₁.here [X₁.here.top, hx, d3, Value.category]
    refine X₁.ldcStringW hx hown (by have h9 := hstr.1; simpa only [Cond.before, Cond.holds, Cond.value] using h9) (by simpa only [Term.eval] using hstr.2) (g := F0 m (pc + 4) ls (.ref T.heap.size :: .ref T.heap.size :: rest)) rfl d4 _ ?_
    exact hsteps
  · have h9 := (hP0 k q hq).lt
    rw [Array.getElem?_eq_getElem h9]
    exact hold q.1 _ (Array.getElem?_eq_getElem h9)
  · rw [Array.getElem?_eq_getElem h1]
    exact hold q _ (Array.getElem?_eq_getElem h1)
end XT
