-- the start
set_option maxHeartbeats 4000000 in
theorem sm_init249 {post : ((Nat) × (Nat) × (Nat) × (Nat) × (Nat) × (Nat) × (Nat) × (Nat) × (Nat) × (Nat) × (Nat) × (Nat) × (Nat) × (Nat) × (Nat) × (Nat) × (Nat) × (Nat) × (Nat) × (Nat) × (Nat) × (Nat) × (Nat) × (Nat) × (Nat) × (Nat) × (Nat) × (Int32) × (Int32) × (Nat → Int32) × (Nat → Int32) × (Nat → Int32) × (Nat → Int32) × (Nat → Int32) × (Int32) × (Nat → Int32) × (Nat → Int32) × (Nat → Int32) × (Nat → Int32) × (Nat → Int32) × (Int32) × (Nat → Int32) × (Nat → Int32) × (Nat → Int32) × (Nat → Int32) × (Int32) × (Nat → Int32) × (Int32) × (Nat → Int32) × (Nat → Int32) × (Nat → Int32) × (Int32) × (Nat → Int32) × (Nat → Int32) × (Nat → Int32) × (Nat → Int32) × (Nat → Int32) × (Int32) × (Nat → Int32) × (Nat → Int32) × (Nat → Int32) × (Nat → Int32)) → Prop} {q_places : Nat} {q_aboves : Nat} {q_belows : Nat} {q_riskAboves : Nat} {q_riskBelows : Nat} {q_slotOf : Nat} {q_guests : Nat} {q_kinds : Nat} {q_returned : Nat} {q_outs : Nat} {q_requestSlots : Nat} {q_requestGuests : Nat} {q_requestKinds : Nat} {q_givens : Nat} {q_text : Nat} {q_sorts : Nat} {q_ones : Nat} {q_twos : Nat} {q_readSorts : Nat} {q_readOnes : Nat} {q_readTwos : Nat} {q_seconds : Nat} {q_firsts : Nat} {q_doubleTickets : Nat} {q_doubleReaders : Nat} {q_doubleSeconds : Nat} {q_digits : Nat} {v_thrown : Int32} {v_slots : Int32} {v_places : Nat → Int32} {v_aboves : Nat → Int32} {v_belows : Nat → Int32} {v_riskAboves : Nat → Int32} {v_riskBelows : Nat → Int32} {v_tickets : Int32} {v_slotOf : Nat → Int32} {v_guests : Nat → Int32} {v_kinds : Nat → Int32} {v_returned : Nat → Int32} {v_requests : Int32} {v_requestSlots : Nat → Int32} {v_requestGuests : Nat → Int32} {v_requestKinds : Nat → Int32} {v_givens : Nat → Int32} {v_length : Int32} {v_text : Nat → Int32} {v_clauses : Int32} {v_sorts : Nat → Int32} {v_ones : Nat → Int32} {v_twos : Nat → Int32} {v_found : Int32} {v_readSorts : Nat → Int32} {v_readOnes : Nat → Int32} {v_readTwos : Nat → Int32} {v_doubles : Int32} {v_doubleTickets : Nat → Int32} {v_doubleReaders : Nat → Int32} {v_doubleSeconds : Nat → Int32} {v_digits : Nat → Int32} {v_seconds : Nat → Int32} (h : ∀ v_firsts v_outs : Nat → Int32, (∀ t, t < 60 → v_firsts t = -1 ∧ v_outs t = -1) → post (q_places, q_aboves, q_belows, q_riskAboves, q_riskBelows, q_slotOf, q_guests, q_kinds, q_returned, q_outs, q_requestSlots, q_requestGuests, q_requestKinds, q_givens, q_text, q_sorts, q_ones, q_twos, q_readSorts, q_readOnes, q_readTwos, q_seconds, q_firsts, q_doubleTickets, q_doubleReaders, q_doubleSeconds, q_digits, v_thrown, v_slots, v_places, v_aboves, v_belows, v_riskAboves, v_riskBelows, v_tickets, v_slotOf, v_guests, v_kinds, v_returned, v_outs, v_requests, v_requestSlots, v_requestGuests, v_requestKinds, v_givens, v_length, v_text, v_clauses, v_sorts, v_ones, v_twos, v_found, v_readSorts, v_readOnes, v_readTwos, v_seconds, v_firsts, v_doubles, v_doubleTickets, v_doubleReaders, v_doubleSeconds, v_digits)) : ∀ (d i : Nat) (v_firsts v_outs : Nat → Int32), i + d = 60 → (∀ t, t < i → v_firsts t = -1 ∧ v_outs t = -1) → wp_M_init_249 post (d + 1) (nI i) q_places q_aboves q_belows q_riskAboves q_riskBelows q_slotOf q_guests q_kinds q_returned q_outs q_requestSlots q_requestGuests q_requestKinds q_givens q_text q_sorts q_ones q_twos q_readSorts q_readOnes q_readTwos q_seconds q_firsts q_doubleTickets q_doubleReaders q_doubleSeconds q_digits v_thrown v_slots v_places v_aboves v_belows v_riskAboves v_riskBelows v_tickets v_slotOf v_guests v_kinds v_returned v_outs v_requests v_requestSlots v_requestGuests v_requestKinds v_givens v_length v_text v_clauses v_sorts v_ones v_twos v_found v_readSorts v_readOnes v_readTwos v_seconds v_firsts v_doubles v_doubleTickets v_doubleReaders v_doubleSeconds v_digits := by
  intro d
  induction d with
  | zero =>
    intro i v_firsts v_outs hi h1
    obtain rfl : i = 60 := by omega
    exact go_y (by decide) (h v_firsts v_outs h1)
  | succ d ih =>
    intro i v_firsts v_outs hi h1
    have hv : vp_in (nI i) 60 := vin (by omega) (by omega)
    refine go_n (nI_ge (b := 60) (by omega) (by omega)) ⟨hv, fun f ef => ⟨hv, fun g eg x ex => ?_⟩⟩
    rw [ef, eg, ex, nI_1, cl (by omega)]
    refine ih (i + 1) _ _ (by omega) (fun t ht => ?_)
    by_cases e : t = i
    · rw [e, upd_s, upd_s]; exact ⟨rfl, rfl⟩
    · rw [upd_n e, upd_n e]; exact h1 t (by omega)
set_option maxHeartbeats 4000000 in
theorem sm_init227 {post : ((Nat) × (Nat) × (Nat) × (Nat) × (Nat) × (Nat) × (Nat) × (Nat) × (Nat) × (Nat) × (Nat) × (Nat) × (Nat) × (Nat) × (Nat) × (Nat) × (Nat) × (Nat) × (Nat) × (Nat) × (Nat) × (Nat) × (Nat) × (Nat) × (Nat) × (Nat) × (Nat) × (Int32) × (Int32) × (Nat → Int32) × (Nat → Int32) × (Nat → Int32) × (Nat → Int32) × (Nat → Int32) × (Int32) × (Nat → Int32) × (Nat → Int32) × (Nat → Int32) × (Nat → Int32) × (Nat → Int32) × (Int32) × (Nat → Int32) × (Nat → Int32) × (Nat → Int32) × (Nat → Int32) × (Int32) × (Nat → Int32) × (Int32) × (Nat → Int32) × (Nat → Int32) × (Nat → Int32) × (Int32) × (Nat → Int32) × (Nat → Int32) × (Nat → Int32) × (Nat → Int32) × (Nat → Int32) × (Int32) × (Nat → Int32) × (Nat → Int32) × (Nat → Int32) × (Nat → Int32)) → Prop} {q_places : Nat} {q_aboves : Nat} {q_belows : Nat} {q_riskAboves : Nat} {q_riskBelows : Nat} {q_slotOf : Nat} {q_guests : Nat} {q_kinds : Nat} {q_returned : Nat} {q_outs : Nat} {q_requestSlots : Nat} {q_requestGuests : Nat} {q_requestKinds : Nat} {q_givens : Nat} {q_text : Nat} {q_sorts : Nat} {q_ones : Nat} {q_twos : Nat} {q_readSorts : Nat} {q_readOnes : Nat} {q_readTwos : Nat} {q_seconds : Nat} {q_firsts : Nat} {q_doubleTickets : Nat} {q_doubleReaders : Nat} {q_doubleSeconds : Nat} {q_digits : Nat} {v_thrown : Int32} {v_slots : Int32} {v_places : Nat → Int32} {v_aboves : Nat → Int32} {v_belows : Nat → Int32} {v_riskAboves : Nat → Int32} {v_riskBelows : Nat → Int32} {v_tickets : Int32} {v_slotOf : Nat → Int32} {v_guests : Nat → Int32} {v_kinds : Nat → Int32} {v_returned : Nat → Int32} {v_requests : Int32} {v_requestSlots : Nat → Int32} {v_requestGuests : Nat → Int32} {v_requestKinds : Nat → Int32} {v_givens : Nat → Int32} {v_length : Int32} {v_text : Nat → Int32} {v_clauses : Int32} {v_sorts : Nat → Int32} {v_ones : Nat → Int32} {v_twos : Nat → Int32} {v_found : Int32} {v_readSorts : Nat → Int32} {v_readOnes : Nat → Int32} {v_readTwos : Nat → Int32} {v_doubles : Int32} {v_doubleTickets : Nat → Int32} {v_doubleReaders : Nat → Int32} {v_doubleSeconds : Nat → Int32} {v_digits : Nat → Int32} {v_outs v_firsts : Nat → Int32} (h : ∀ v_seconds v_firsts v_outs : Nat → Int32, (∀ q, q < 360 → v_seconds q = -1) → (∀ t, t < 60 → v_firsts t = -1 ∧ v_outs t = -1) → post (q_places, q_aboves, q_belows, q_riskAboves, q_riskBelows, q_slotOf, q_guests, q_kinds, q_returned, q_outs, q_requestSlots, q_requestGuests, q_requestKinds, q_givens, q_text, q_sorts, q_ones, q_twos, q_readSorts, q_readOnes, q_readTwos, q_seconds, q_firsts, q_doubleTickets, q_doubleReaders, q_doubleSeconds, q_digits, v_thrown, v_slots, v_places, v_aboves, v_belows, v_riskAboves, v_riskBelows, v_tickets, v_slotOf, v_guests, v_kinds, v_returned, v_outs, v_requests, v_requestSlots, v_requestGuests, v_requestKinds, v_givens, v_length, v_text, v_clauses, v_sorts, v_ones, v_twos, v_found, v_readSorts, v_readOnes, v_readTwos, v_seconds, v_firsts, v_doubles, v_doubleTickets, v_doubleReaders, v_doubleSeconds, v_digits)) : ∀ (d i : Nat) (v_seconds : Nat → Int32), i + d = 360 → (∀ q, q < i → v_seconds q = -1) → wp_M_init_227 post (d + 1) (nI i) q_places q_aboves q_belows q_riskAboves q_riskBelows q_slotOf q_guests q_kinds q_returned q_outs q_requestSlots q_requestGuests q_requestKinds q_givens q_text q_sorts q_ones q_twos q_readSorts q_readOnes q_readTwos q_seconds q_firsts q_doubleTickets q_doubleReaders q_doubleSeconds q_digits v_thrown v_slots v_places v_aboves v_belows v_riskAboves v_riskBelows v_tickets v_slotOf v_guests v_kinds v_returned v_outs v_requests v_requestSlots v_requestGuests v_requestKinds v_givens v_length v_text v_clauses v_sorts v_ones v_twos v_found v_readSorts v_readOnes v_readTwos v_seconds v_firsts v_doubles v_doubleTickets v_doubleReaders v_doubleSeconds v_digits := by
  intro d
  induction d with
  | zero =>
    intro i v_seconds hi h1
    obtain rfl : i = 360 := by omega
    exact go_y (by decide) ⟨61, sm_init249 (fun v_firsts v_outs h2 => h v_seconds v_firsts v_outs h1 h2) 60 0 v_firsts v_outs (by omega) (fun t ht => by omega)⟩
  | succ d ih =>
    intro i v_seconds hi h1
    have hv : vp_in (nI i) 360 := vin (by omega) (by omega)
    refine go_n (nI_ge (b := 360) (by omega) (by omega)) ⟨hv, fun f ef x ex => ?_⟩
    rw [ef, ex, nI_1, cl (by omega)]
    refine ih (i + 1) _ (by omega) (fun t ht => ?_)
    by_cases e : t = i
    · rw [e, upd_s]
    · rw [upd_n e]; exact h1 t (by omega)
set_option maxHeartbeats 4000000 in
theorem law_pure (L : Nat) (xs : Nat → Int32) (hL : L ≤ 3072) : wp_L_law L xs := by
  intro q_1
  unfold wp_X_init wp_XS_init wp_XT_init wp_XR_init wp_XC_init wp_XF_init wp_XD_init
  intro a0 a1 a2 a3 a4 a5 a6 a7 a8 a9 a10 a11 a12 a13 a14 a15 a16 a17 a18 a19 a20 a21 a22 a23 a24 a25 a26 a27 a28 a29
  refine sx_fill (n := 360) (by omega) (fun f6 h6 => sx_fill (n := 60) (by omega) (fun f7 h7 => sx_fill (n := 60) (by omega) (fun f8 h8 => ?_)))
  intro q_68
  unfold wp_M_init
  intro b0 b1 b2 b3 b4 b5 b6 b7 b8 b9 b10 b11 b12 b13 b14 b15 b16 b17 b18 b19 b20 b21 b22 b23 b24 b25 b26
  refine ⟨361, sm_init227 (fun se fi ou g1 g2 => ?_) 360 0 _ (by omega) (fun q hq => by omega)⟩
  intro q_131
  refine ⟨L + 1, law_loop hL L 0 _ _ _ _ _ _ _ _ _ _ _ _ _ _ _ _ _ _ _ _ _ _ _ _ _ _ _ _ _ _ _ _ _ _ _ _ _ _ _ _ _ _ _ _ _ _ _ _ _ _ _ _ _ _ _ _ _ _ _ _ _ _ _ _ _ _ _ _ _ _ _ _ (by omega) (by omega) ?_⟩
  refine ⟨0, 0, 0, fun _ => 0, fun _ => 0, fun _ => 0, fun _ => 0, ⟨by omega, rfl, rfl, fun k hk => by omega, fun k _ _ => rfl⟩, ⟨by omega, rfl, rfl, fun t ht => by omega, fun t _ => ⟨Nat.zero_le 1, rfl, rfl⟩, fun _ _ => rfl⟩, ⟨fun k hk => by omega, fun k _ _ => rfl⟩, ⟨by omega, rfl, rfl, fun r hr => by omega, rfl⟩, ⟨0, by omega, rfl, rfl, fun i hi => by omega⟩, ⟨0, by omega, rfl, rfl, fun k _ => rfl, fun g _ _ => rfl, fun k hk => by omega⟩, ?_⟩
  refine ⟨fun t r ht hr => ?_, fun t r _ ht hr => g1 _ (by omega), fun t ht => ?_, fun t ht _ => (g2 t ht).1, fun t ht => ?_, 0, by omega, rfl, rfl, fun k hk => by omega⟩
  · rw [h6 _ (by omega), g1 _ (by omega)]
    exact ⟨rfl, Or.inl rfl⟩
  · rw [h7 _ ht, (g2 t ht).1]
    exact ⟨rfl, Or.inl rfl⟩
  · rw [h8 _ ht, (g2 t ht).2]
    exact ⟨rfl, Or.inl rfl⟩
