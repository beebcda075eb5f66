theorem st_arr {s : State} {args : Array Value} {ty : FieldType} (h : (Cond.arrayClass ty).before args s = true) : ∃ cA, ArrOfT s cA ty ∧ s.vm.findClass ("[" ++ ty.toString) = some cA := by
  obtain ⟨cA, kA, comp, h1, h2, h3⟩ := Cond.arrayClass_spec h
  exact ⟨cA, fun n z => ⟨fun k h => (by cases h), kA, h2, comp, h3⟩, h1⟩
theorem nb_in : ∀ w ∈ NB, w ∈ lw_tbl := by decide +kernel
theorem sb_in : ∀ q ∈ SB, Cond.stringRef q.1 q.2.1 q.2.2 ∈ lw_tbl ∧ q.1 = R_X := by decide +kernel
theorem ls_in : Cond.laysStatic "java/lang/Throwable" "UNASSIGNED_STACK" "[Ljava/lang/StackTraceElement;" ∈ lw_tbl ∧ Cond.laysStatic "java/lang/Throwable" "SUPPRESSED_SENTINEL" "Ljava/util/List;" ∈ lw_tbl := by decide +kernel
set_option maxHeartbeats 4000000 in
set_option maxRecDepth 100000 in
/-- the law from its entry, out of the pure proposition of its whole walk -/
theorem whole_of {p : Program} {e : Env} {s : State} {m : MethodId} {below : List Frame} {meth : Method} {c : Code} (l : Launch) (hl9 : l.stackTraces = false) {b L : Nat} {xs : Nat → Int32} (hL : L ≤ 3072) (C0 : lw_At p s m meth c b L xs) (hw : wp_L_law L xs) : W p l e room_1 s m #[Value.ref b] below meth c s.heap [] 0 0 (lw_Z below #[Value.ref b] s) (entryFrame m ([Value.ref b] : List Value).toArray 7) := by
  obtain ⟨hx, hb, hr, hml, hown, hts, hX, hbl, hlocks, hgv⟩ := id C0
  have hgb : ∀ w ∈ GB, w.before #[Value.ref b] s = true := fun w h => hts w (List.mem_filter.mp h).1
  have hgl := flat_of_before _ hgv
  obtain ⟨c0, iS0, hKn0⟩ := u_known (C := R_X) (T := F_X) (N := 6) (n := 6) hgb i_X (hgb _ k_479)
  obtain ⟨c1, iS1, hKn1⟩ := u_known (C := R_XS) (T := F_XS) (N := 6) (n := 6) hgb i_XS (hgb _ k_4)
  obtain ⟨c2, iS2, hKn2⟩ := u_known (C := R_XT) (T := F_XT) (N := 5) (n := 5) hgb i_XT (hgb _ k_17)
  obtain ⟨c3, iS3, hKn3⟩ := u_known (C := R_XR) (T := F_XR) (N := 6) (n := 6) hgb i_XR (hgb _ k_29)
  obtain ⟨c4, iS4, hKn4⟩ := u_known (C := R_XC) (T := F_XC) (N := 1) (n := 1) hgb i_XC (hgb _ k_40)
  obtain ⟨c5, iS5, hKn5⟩ := u_known (C := R_XF) (T := F_XF) (N := 12) (n := 12) hgb i_XF (hgb _ k_49)
  obtain ⟨c6, iS6, hKn6⟩ := u_known (C := R_XD) (T := F_XD) (N := 6) (n := 6) hgb i_XD (hgb _ k_61)
  obtain ⟨c7, iS7, hKn7⟩ := u_known (C := R_M) (T := F_M) (N := 35) (n := 35) hgb i_M (hgb _ k_484)
  obtain ⟨dC, dI, hKc⟩ : ∃ (dC : Nat → ClassId) (dI : Nat → Nat → Nat), ∀ (k : Nat) (q : vw_C), classes[k]? = some q → u_Kn s q.1 q.2.1 q.2.2 (dC k) (dI k) := by
    refine ⟨fun k => match k with | 0 => c0 | 1 => c1 | 2 => c2 | 3 => c3 | 4 => c4 | 5 => c5 | 6 => c6 | _ => c7, fun k => match k with | 0 => iS0 | 1 => iS1 | 2 => iS2 | 3 => iS3 | 4 => iS4 | 5 => iS5 | 6 => iS6 | _ => iS7, ?_⟩
    intro k q hq
    match k, hq with
    | 0, hq => cases hq; exact hKn0
    | 1, hq => cases hq; exact hKn1
    | 2, hq => cases hq; exact hKn2
    | 3, hq => cases hq; exact hKn3
    | 4, hq => cases hq; exact hKn4
    | 5, hq => cases hq; exact hKn5
    | 6, hq => cases hq; exact hKn6
    | 7, hq => cases hq; exact hKn7
    | k + 8, hq => simp [classes] at hq
  obtain ⟨cI, aI, fI⟩ := st_arr (hgb _ k_7)
  obtain ⟨cJ, aJ, fJ⟩ := st_arr (hgb _ k_43)
  obtain ⟨cZ, aZ, fZ⟩ := st_arr (hgb _ k_23)
  have hK : va_K (dC, dI) classes (tysL cI cJ cZ) s := by
    refine ⟨hKc, fun k q h => ?_⟩
    match k, h with
    | 0, h => cases h; exact ⟨aI, fI⟩
    | 1, h => cases h; exact ⟨aJ, fJ⟩
    | 2, h => cases h; exact ⟨aZ, fZ⟩
    | k + 3, h => simp [tysL] at h
  have hZ : zz s s.heap := by
    refine ⟨fun w hw => va_Nw.of ?_ (hts w (nb_in w hw)), fun q hq => ?_, zst.of (hts _ ls_in.1) (hgl _ (by decide +kernel)), zst.of (hts _ ls_in.2) (hgl _ (by decide +kernel))⟩
    · have h2 := nb_kind w hw
      cases w <;> first | (simp [nk] at h2; done) | rfl
    · obtain ⟨h1, h2⟩ := sb_in q hq
      have hX0 : s.vm.findClass q.1 = some c0 := by rw [h2]; exact hKn0.2.1
      obtain ⟨k, cf, i, a, -, -, -, -, -, hev⟩ := Cond.stringRef_spec hX0 (hts _ h1)
      exact ⟨a, vk_R.of (hts _ h1) hev⟩
  have hNc : ncs s := ⟨va_Nc.of (hgl _ (by decide +kernel)), va_Nc.of (hgl _ (by decide +kernel)), va_Nc.of (hgl _ (by decide +kernel))⟩
  exact t_L_law (A := fun q => s.heap.size ≤ q) ⟨hX, hbl, hL, hNc, fun q h => h⟩ ⟨hl9, hx, hb, hml, hr, hown, hgb, hlocks, hK, hZ, fun _ h => h, fun q ce h hc => absurd (Array.getElem?_eq_some_iff.mp hc).1 (Nat.not_lt.mpr h)⟩ hw
