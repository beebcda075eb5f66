-- calls of methods that catch all that comes; the law's counter
section LW
variable {b cb : ByteArray} {nL cL idx n9 : Nat} {rt crt : Option FieldType} {hh : List (Nat × Nat × Nat × Nat)} {own : String} {y : MethodName} {p : Program} {l : Launch} {e : Env} {R rm : Room} {s : State} {m : MethodId} {args : Array Value} {below : List Frame} {meth : Method} {c : Code} {H : Heap} {locs : List Loc} {cells slots : Nat} {dC : Nat → ClassId} {dI : Nat → Nat → Nat} {cI cJ cZ : ClassId} {A : Nat → Prop} {pc : Nat} {ls : Array Slot} {ws wc : va_W} {As rest st : List Value} {Qc : Array Value → State → Outcome → State → Prop} {XC : String → State → State → Prop} {fr : Addr → Prop} {Q : State → Prop} {mr sr : Nat}
theorem pcW_blind {sz : Nat} {av : List Value} : FrameBlind (va_Pc av (pcW dC dI cI cJ cZ sz ws)) := by
  intro a U g mk q
  obtain ⟨q0, ⟨q1, qP, qK, qD, qZ⟩, qN⟩ := q
  exact ⟨q0, ⟨q1, qP, va_K.moved (u := U) (U := U.calling g mk a) (Vm.Alike.refl U.vm) qK, qD, qZ.same rfl⟩, qN.moved (u := U) (U := U.calling g mk a) (Vm.Alike.refl U.vm)⟩
theorem ru_SW (C : cxM b nL rt own l dC dI cI cJ cZ A p s m args meth c) (hNc : ncs s) (hM : xMet l y (.codeWith y cb cL crt hh :: GB) rm (va_Pc As (pcW dC dI cI cJ cZ H.size wc)) Qc XC mr sr rm.cells rm.slots fr) (kc : Cond.codeWith y cb cL crt hh ∈ GB) (kl : Cond.methodLink own idx y ∈ GB) (ki : Cond.static y ∈ GB) (kn : Cond.initialized y.cls ∈ GB)
    (hd : y.cls ≠ "java/lang/invoke/MethodHandle" ∧ y.cls ≠ "java/lang/invoke/VarHandle" ∧ (parseMethodDescriptor y.desc).map (fun d => d.parameters.length) = some n9) (hln : As.length = n9)
    (hR : rm.frames + 1 ≤ R.frames ∧ 8 + (cL + 11) + rm.locals ≤ R.locals) (hP : va_P (dC, dI) classes ws H) (hD : va_D A ws) (hS : va_S A s.heap H locs) (isC : List Nat) (hC : isC.map (fun i => ws[i]?) = wc.map some) (hnd : va_nd isC = true) (hsz : ls.size = nL) (hst : st = As.reverse ++ rest) (hcat : (rest.map fun v => v.category).sum ≤ 8) (hdg : decode b pc = .ok (.invokestatic idx, 3)) (hf : cells + rm.cells ≤ R.cells ∧ slots + rm.slots ≤ R.slots) :
    xRun p l e R s m args below meth c H locs cells slots mr sr rm.cells rm.slots (F0 m pc ls st) rest (Qc As.toArray) XC fr := by
  obtain ⟨-, hx, hb, hml, -, hown, hts, -, hK, hZ, hA, hNS⟩ := C
  have hPc : va_P (dC, dI) classes wc H := va_Psub hP isC hC
  have hDc := hD.sub isC hnd hC
  have hpre : ∀ U : State, U.heap = H → s.WarmedH U.vm → va_Pc As (pcW dC dI cI cJ cZ H.size wc) As.toArray U := fun U hU hW => ⟨rfl, ⟨by rw [hU], by rw [hU]; exact hPc, va_K.moved hW.alike hK, hDc.weaken (fun _ _ _ _ => trivial), by rw [hU]; exact hZ.warm hW (fun a ce h1 h2 => hS.2.1 a (Array.getElem?_eq_some_iff.mp h1).1 (fun h3 => by rw [hNS a ce h3 h1] at h2; cases h2))⟩, hNc.moved hW.alike⟩
  have hws : ∀ w ∈ Cond.codeWith y cb cL crt hh :: GB, ∀ (a' : Array Value) (U : State), s.WarmedH U.vm → w.before a' U = true := pay_in hts (gd kc)
  intro T hT X
  subst hb
  obtain ⟨mk, methM, cM, hnamed, hmethM, -, -, -, -, -, -, hsigM⟩ := Cond.codeWith_spec (hts _ kc)
  have hstatic : methM.isStatic = true := Cond.static_spec hnamed hmethM (hts _ ki)
  obtain ⟨kP, hkP, -⟩ := className_of_methodNamed hnamed
  have hinitP : kP.init = .initialized := Cond.initialized_spec (findClass_of_methodNamed hnamed) hkP (hts _ kn)
  have hlen : As.length = methM.sig.parameters.length := by
    have h2 := hd.2.2
    rw [hsigM] at h2
    exact hln.trans (Option.some.inj h2).symm
  obtain ⟨vm₁, X₁, hstep₁⟩ := X.invokestatic hx hown (hts _ kl) hnamed hmethM hstatic hkP hinitP ⟨hd.1, hd.2.1⟩ (g := F0 m pc ls st) rfl (argsL := As) (rest := rest) hlen hst hdg
  have hcd : ∀ (a' : Array Value) (U : State) (mk : MethodId), s.WarmedH U.vm → U.methodNamed? y = some mk → ∃ meth9 c9, U.vm.method? mk = some meth9 ∧ meth9.code = some c9 ∧ c9.maxLocals = cL := by
    intro a' U mk hW hn
    obtain ⟨m9, meth9, c9, h0, h1, h2, -, h4, -⟩ := Cond.codeWith_spec (hws _ List.mem_cons_self a' U hW)
    cases hn.symm.trans h0
    exact ⟨meth9, c9, h1, h2, h4⟩
  rcases x_core X₁ hM rfl rfl hR.1 hR.2 hws hcd (fun a' U hW => word_at hW (Or.inl (by first | rfl | simp [Cond.onTables, Cond.keeps, Cond.steady])) (hts _ kn)) (g := { F0 m pc ls st with stack := rest }) (ig := .invokestatic idx) (mk := mk) (a := As.toArray) rfl (hsz.trans hml.symm) hdg (lv_room hcat) (X₁.named hnamed) hf.1 hf.2 (pcW_blind _ _ _ _ (hpre (T.setVm vm₁) hT X₁.warmed)) with ⟨v, t, L, h1, h2, h3, h4⟩ | ⟨q, t, L, E, ce, h1, h2, h3, h4, h5, h6, h7⟩
  · exact Or.inl ⟨v, (T.setVm vm₁).calling { F0 m pc ls st with stack := rest } mk As.toArray, t, _, L, hT, h3, h2, rfl, rfl, h1, fun target h => hstep₁ _ fun acts => by rw [doInvoke_state]; exact h4.trans h⟩
  · exact Or.inr ⟨q, (T.setVm vm₁).calling { F0 m pc ls st with stack := rest } mk As.toArray, t, _, L, E, ce, hT, h6, h5, rfl, rfl, h1, h2, h3, by rw [← X₁.warmed.alike.findClass]; exact h4, fun target h => hstep₁ _ fun acts => by rw [doInvoke_state]; exact h7.trans h⟩
theorem jw_i {S : Type} {post : Int32 → S → Prop} {wf : S → va_W} {mc ms : Nat} {a : Array Value} (C : cxM b nL rt own l dC dI cI cJ cZ A p s m args meth c) (hP : va_P (dC, dI) classes ws H) (hD : va_D A ws) (hS : va_S A s.heap H locs) (isC isR : List Nat) (hrun : xRun p l e R s m args below meth c H locs cells slots mr sr mc ms (F0 m pc ls st) rest (va_Qi post (fun u t => at_ dC dI cI cJ cZ (va_A wc H.size) (wf u) t) (va_A wc H.size) a) (fun _ _ _ => False) (va_A wc H.size))
    (hC : isC.map (fun i => ws[i]?) = wc.map some) (hRr : isR.map (fun i => ws[i]?) = (isR.filterMap (fun i => ws[i]?)).map some) (hn : va_nd isR = true) (hdis : ∀ i ∈ isR, i ∉ isC)
    (kk : ∀ (r : Int32) (u : S) (H1 : Heap) (locs1 : List Loc), post r u → va_P (dC, dI) classes (isR.filterMap (fun i => ws[i]?) ++ wf u) H1 → va_D A (isR.filterMap (fun i => ws[i]?) ++ wf u) → va_S A s.heap H1 locs1 → W p l e R s m args below meth c H1 locs1 (cells + mr) (slots + sr) Q (F0 m (pc + 3) ls (.int r :: rest))) : W p l e R s m args below meth c H locs cells slots Q (F0 m pc ls st) := by
  have hA : ∀ q, s.heap.size ≤ q → A q := C.2.2.2.2.2.2.2.2.2.2.1
  have hFc := va_free hD hS hA isC hC
  intro T hT X
  rcases hrun T hT X with ⟨v, st₀, t, T', L, h0, X', hL, e1, e2, ⟨⟨r, u, hv, hp, hb⟩, hF⟩, st9⟩ | ⟨q, st₀, t, T', L, E, ce, h0, X', hL, e1, e2, hw, -⟩
  · cases hv
    obtain ⟨f1, f2⟩ := hF
    rw [h0] at f1 f2
    have k2 : ∀ q : Nat, q < H.size → ¬ va_A wc H.size q → T'.heap[q]? = H[q]? := fun q g1 g2 => by rw [e1]; exact f2 q g1 g2
    have k3 : va_S A s.heap T'.heap (locs ++ L) := by
      refine ⟨Nat.le_trans hS.1 (by rw [e1]; exact f1), fun q g1 g2 => ?_, fun z hz => ?_⟩
      · rw [k2 q (Nat.lt_of_lt_of_le g1 hS.1) (fun w => g2 (hFc q w))]
        exact hS.2.1 q g1 g2
      · rcases List.mem_append.mp hz with w | w
        · exact hS.2.2 z w
        · exact hFc _ (hL z w)
    obtain ⟨hP1, hK1, hD1⟩ := hb
    rw [← e1] at hP1
    obtain ⟨hP2, hD2⟩ := va_join hP hD isC isR hC hRr hn hdis k2 hFc hP1 hD1
    obtain ⟨t2, a1, b1⟩ := kk r u T'.heap (locs ++ L) hp hP2 hD2 k3 T' rfl X'
    exact ⟨t2, st9 t2 a1, b1⟩
  · exact hw.elim
end LW
/-- the law's counter: six ints a turn -/
theorem law_idx {L j : Nat} {i : Int32} (hL : L ≤ 3072) (h6 : 6 * j ≤ L) (ei : i = nI (6 * j)) (h : ¬ (Int32.ofNat L - (6 : Int32) < i)) : 6 * j + 6 ≤ L := by
  rw [ei, Int32.lt_iff_toInt_lt] at h
  have e1 : (nI (6 * j)).toInt = ((6 * j : Nat) : Int) := nI_toInt (by omega)
  have e2 : (Int32.ofNat L - (6 : Int32)).toInt = (L : Int) - 6 := by
    have := pk_sub_toInt (a := L) (b := 6) (by omega) (by omega)
    exact this
  rw [e1, e2] at h
  omega
theorem law_next {j : Nat} {i x : Int32} (ei : i = nI (6 * j)) (ex : x = i + (6 : Int32)) : x = nI (6 * (j + 1)) := by
  rw [ex, ei]
  exact nI_add (6 * j) 6
