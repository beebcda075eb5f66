-- about
theorem out0 : vp_in (0 : Int32) 1 := (show ¬ ((0 : Int32) < 0 ∨ 1 ≤ (0 : Int32).toNatClampNeg) by decide)
theorem four {b : Int32} (h0 : ¬ b < 0) (h1 : ¬ (3 : Int32) < b) : b = 0 ∨ b = 1 ∨ b = 2 ∨ b = 3 := by
  rw [tI] at h0 h1
  have e0 : (0 : Int32).toInt = 0 := by decide
  have e1 : (1 : Int32).toInt = 1 := by decide
  have e2 : (2 : Int32).toInt = 2 := by decide
  have e3 : (3 : Int32).toInt = 3 := by decide
  rw [tE, tE, tE, tE, e0, e1, e2, e3]
  omega
theorem three {b : Int32} (h0 : ¬ b < 0) (h1 : ¬ (2 : Int32) < b) : b = 0 ∨ b = 1 ∨ b = 2 := by
  rcases four h0 (fun h => h1 (by rw [tI] at h ⊢; have e2 : (2 : Int32).toInt = 2 := by decide
                                  have e3 : (3 : Int32).toInt = 3 := by decide
                                  omega)) with h | h | h | h
  · exact Or.inl h
  · exact Or.inr (Or.inl h)
  · exact Or.inr (Or.inr h)
  · rw [h] at h1; exact absurd (by decide) h1
theorem re01 {v : Int32} {r : Nat} {A B : Prop} (hr : r ≤ 1) (e : v = nI r) (h0 : r = 0 → A) (h1 : r = 1 → B) : (v = 0 → A) ∧ (¬ (v = 0) → B) := by
  subst e
  rcases (show r = 0 ∨ r = 1 by omega) with q | q <;> subst q
  · exact ⟨fun _ => h0 rfl, fun q => absurd rfl q⟩
  · exact ⟨fun q => absurd q (by decide), fun _ => h1 rfl⟩
/-- what about() tells -/
def abt (s g k r : Nat → Int32) (t : Nat) (b : Int32) : Int32 := if b = 0 then s t else if b = 1 then g t else if b = 2 then k t else r t
theorem sx_about {post : Int32 → Unit → Prop} {px : String → Prop} {a b v : Int32} {s g k r : Nat → Int32} {n : Nat} (hn : n ≤ 60) (e : v = nI n) (hr : ∀ t, t < n → r t = 0 ∨ r t = 1) (h0 : bad a n → px "java/lang/IndexOutOfBoundsException") (h1 : (b < 0 ∨ (3 : Int32) < b) → px "java/lang/IndexOutOfBoundsException") (h2 : ∀ t, t < n → a = nI t → ¬ b < 0 → ¬ (3 : Int32) < b → post (abt s g k r t b) ()) : wp_X_about post px a b s g k r v := by
  refine sx_needTicket (by omega) e h0 (fun t ht et => ?_)
  subst et
  refine ⟨fun q => h1 (Or.inl q), fun q => ⟨fun q2 => h1 (Or.inr q2), fun q2 => ?_⟩⟩
  have hv : vp_in (nI t) 60 := vin (by omega) (by omega)
  have hc : (nI t).toNatClampNeg = t := cl (by omega)
  have h := h2 t ht rfl q q2
  rw [hc]
  rcases four q q2 with e | e | e | e <;> subst e
  · exact ⟨fun _ => ⟨hv, h⟩, fun z => absurd rfl z⟩
  · exact ⟨fun z => absurd z (by decide), fun _ => ⟨fun _ => ⟨hv, h⟩, fun z => absurd rfl z⟩⟩
  · exact ⟨fun z => absurd z (by decide), fun _ => ⟨fun z => absurd z (by decide), fun _ => ⟨fun _ => ⟨hv, h⟩, fun z => absurd rfl z⟩⟩⟩
  · refine ⟨fun z => absurd z (by decide), fun _ => ⟨fun z => absurd z (by decide), fun _ => ⟨fun z => absurd z (by decide), fun _ => ⟨fun _ => ⟨hv, ?_⟩, fun z => absurd rfl z⟩⟩⟩⟩
    have h' : post (r t) () := h
    rcases hr t ht with z | z <;> rw [z] at h' ⊢
    · exact ⟨fun _ => h', fun z => absurd rfl z⟩
    · exact ⟨fun z => absurd z (by decide), fun _ => h'⟩
theorem sm_about22 {post : Int32 → Int32 → Prop} {a b th v : Int32} {s g k r : Nat → Int32} (h : post 0 1) : wp_M_about_22 post v s g k r a b th := by
  unfold wp_M_about_22 wp_M_about_23
  exact sm_goes1 ⟨fun _ => h, fun z => absurd rfl z⟩
theorem sm_about {post : Int32 → Int32 → Prop} {a b th v : Int32} {s g k r : Nat → Int32} {n : Nat} (hn : n ≤ 60) (e : v = nI n) (hr : ∀ t, t < n → r t = 0 ∨ r t = 1) (h0 : bad a n → post 0 1) (h1 : (b < 0 ∨ (3 : Int32) < b) → post 0 1) (h2 : ∀ t, t < n → a = nI t → ¬ b < 0 → ¬ (3 : Int32) < b → post (abt s g k r t b) 0) : wp_M_about post a b th v s g k r := by
  refine sm_isTicket (by omega) e (fun h => ⟨fun _ => sm_about22 (h0 h), fun z => absurd rfl z⟩) (fun t ht et => ⟨fun z => absurd z (by decide), fun _ => ?_⟩)
  subst et
  refine sm_within (fun h => ⟨fun _ => sm_about22 (h1 h), fun z => absurd rfl z⟩) (fun q q2 => ⟨fun z => absurd z (by decide), fun _ => sm_goes0 ⟨fun z => absurd z (by decide), fun _ => ?_⟩⟩)
  have hv : vp_in (nI t) 60 := vin (by omega) (by omega)
  have hc : (nI t).toNatClampNeg = t := cl (by omega)
  have h := h2 t ht rfl q q2
  rw [hc]
  rcases four q q2 with e | e | e | e <;> subst e
  · exact ⟨fun _ => ⟨hv, h⟩, fun z => absurd rfl z⟩
  · exact ⟨fun z => absurd z (by decide), fun _ => ⟨fun _ => ⟨hv, h⟩, fun z => absurd rfl z⟩⟩
  · exact ⟨fun z => absurd z (by decide), fun _ => ⟨fun z => absurd z (by decide), fun _ => ⟨fun _ => ⟨hv, h⟩, fun z => absurd rfl z⟩⟩⟩
  · refine ⟨fun z => absurd z (by decide), fun _ => ⟨fun z => absurd z (by decide), fun _ => ⟨fun z => absurd z (by decide), fun _ => ⟨hv, ?_⟩⟩⟩⟩
    have h' : post (r t) 0 := h
    rcases hr t ht with z | z <;> rw [z] at h' ⊢
    · exact ⟨fun _ => h', fun z => absurd rfl z⟩
    · exact ⟨fun z => absurd z (by decide), fun _ => h'⟩
theorem IT_r {nS nT : Nat} {sl gu ki re : Nat → Nat} {xs xg xk xr : Nat → Int32} {xn mn : Int32} {ms mg mk mr : Nat → Int32} (h : IT nS nT sl gu ki re xs xg xk xr xn mn ms mg mk mr) : (∀ t, t < nT → xr t = 0 ∨ xr t = 1) ∧ (∀ t, t < nT → mr t = 0 ∨ mr t = 1) ∧ ∀ t, t < nT → xr t = mr t := by
  obtain ⟨h1, -, -, -, h5, -⟩ := h
  have key : ∀ r : Nat, r ≤ 1 → nI r = 0 ∨ nI r = 1 := by
    intro r hr
    rcases (show r = 0 ∨ r = 1 by omega) with q | q <;> subst q
    · exact Or.inl rfl
    · exact Or.inr rfl
  exact ⟨fun t ht => by obtain ⟨a, b, c⟩ := h5 t (by omega); rw [b]; exact key _ a, fun t ht => by obtain ⟨a, b, c⟩ := h5 t (by omega); rw [c]; exact key _ a, fun t ht => by obtain ⟨a, b, c⟩ := h5 t (by omega); rw [b, c]⟩
set_option maxHeartbeats 1000000 in
theorem case_809 {L j : Nat} {xs : Nat → Int32} {k_ : Int32 → (Nat → Int32) → (Nat → Int32) → (Nat → Int32) → (Nat → Int32) → (Nat → Int32) → Int32 → (Nat → Int32) → (Nat → Int32) → (Nat → Int32) → (Nat → Int32) → Int32 → (Nat → Int32) → (Nat → Int32) → (Nat → Int32) → (Nat → Int32) → Int32 → Int32 → (Nat → Int64) → (Nat → Int32) → Int32 → (Nat → Int32) → (Nat → Int32) → Int32 → (Nat → Int32) → (Nat → Int32) → Int32 → Int32 → Int32 → Int32 → Int32 → (Nat → Int32) → (Nat → Int32) → (Nat → Int32) → (Nat → Int32) → Int32 → (Nat → Int32) → Int32 → Int32 → (Nat → Int32) → (Nat → Int32) → (Nat → Int32) → (Nat → Int32) → (Nat → Int32) → Int32 → (Nat → Int32) → (Nat → Int32) → (Nat → Int32) → (Nat → Int32) → (Nat → Int32) → Int32 → (Nat → Int32) → (Nat → Int32) → (Nat → Int32) → (Nat → Int32) → Int32 → (Nat → Int32) → Int32 → (Nat → Int32) → (Nat → Int32) → (Nat → Int32) → Int32 → (Nat → Int32) → (Nat → Int32) → (Nat → Int32) → (Nat → Int32) → (Nat → Int32) → Int32 → (Nat → Int32) → (Nat → Int32) → (Nat → Int32) → (Nat → Int32) → (Nat → Int64) → Prop} {l_4 : Int32} {x_slots_places : Nat → Int32} {x_slots_above : Nat → Int32} {x_slots_below : Nat → Int32} {x_slots_most : Nat → Int32} {x_slots_sold : Nat → Int32} {x_slots_made : Int32} {x_tickets_slot : Nat → Int32} {x_tickets_guests : Nat → Int32} {x_tickets_kind : Nat → Int32} {x_tickets_returned : Nat → Int32} {x_tickets_made : Int32} {x_requests_slot : Nat → Int32} {x_requests_guests : Nat → Int32} {x_requests_kind : Nat → Int32} {x_requests_ticket : Nat → Int32} {x_requests_made : Int32} {x_requests_served : Int32} {x_chances_ways : Nat → Int64} {x_tariff_text : Nat → Int32} {x_tariff_length : Int32} {x_tariff_prices : Nat → Int32} {x_tariff_percents : Nat → Int32} {x_tariff_clauses : Int32} {x_tariff_newPrices : Nat → Int32} {x_tariff_newPercents : Nat → Int32} {x_tariff_newClauses : Int32} {x_tariff_state : Int32} {x_tariff_subject : Int32} {x_tariff_number : Int32} {x_tariff_digits : Int32} {x_doors_seconds : Nat → Int32} {x_doors_order : Nat → Int32} {x_doors_firstIn : Nat → Int32} {x_doors_doubles : Nat → Int32} {x_doors_found : Int32} {x_doors_goneOut : Nat → Int32} {m_thrown : Int32} {m_slots : Int32} {m_places : Nat → Int32} {m_aboves : Nat → Int32} {m_belows : Nat → Int32} {m_riskAboves : Nat → Int32} {m_riskBelows : Nat → Int32} {m_tickets : Int32} {m_slotOf : Nat → Int32} {m_guests : Nat → Int32} {m_kinds : Nat → Int32} {m_returned : Nat → Int32} {m_outs : Nat → Int32} {m_requests : Int32} {m_requestSlots : Nat → Int32} {m_requestGuests : Nat → Int32} {m_requestKinds : Nat → Int32} {m_givens : Nat → Int32} {m_length : Int32} {m_text : Nat → Int32} {m_clauses : Int32} {m_sorts : Nat → Int32} {m_ones : Nat → Int32} {m_twos : Nat → Int32} {m_found : Int32} {m_readSorts : Nat → Int32} {m_readOnes : Nat → Int32} {m_readTwos : Nat → Int32} {m_seconds : Nat → Int32} {m_firsts : Nat → Int32} {m_doubles : Int32} {m_doubleTickets : Nat → Int32} {m_doubleReaders : Nat → Int32} {m_doubleSeconds : Nat → Int32} {m_digits : Nat → Int32} {o_ : Nat → Int64} (hL : L ≤ 3072) (hj : 6 * j + 6 ≤ L) (e4 : l_4 = nI (6 * j)) (hI : INV x_slots_places x_slots_above x_slots_below x_slots_most x_slots_sold x_slots_made x_tickets_slot x_tickets_guests x_tickets_kind x_tickets_returned x_tickets_made x_requests_slot x_requests_guests x_requests_kind x_requests_ticket x_requests_made x_requests_served x_chances_ways x_tariff_text x_tariff_length x_tariff_prices x_tariff_percents x_tariff_clauses x_tariff_newPrices x_tariff_newPercents x_tariff_newClauses x_tariff_state x_tariff_subject x_tariff_number x_tariff_digits x_doors_seconds x_doors_order x_doors_firstIn x_doors_doubles x_doors_found x_doors_goneOut m_thrown m_slots m_places m_aboves m_belows m_riskAboves m_riskBelows m_tickets m_slotOf m_guests m_kinds m_returned m_outs m_requests m_requestSlots m_requestGuests m_requestKinds m_givens m_length m_text m_clauses m_sorts m_ones m_twos m_found m_readSorts m_readOnes m_readTwos m_seconds m_firsts m_doubles m_doubleTickets m_doubleReaders m_doubleSeconds m_digits o_) (hk : ∀ (x_slots_places : Nat → Int32) (x_slots_above : Nat → Int32) (x_slots_below : Nat → Int32) (x_slots_most : Nat → Int32) (x_slots_sold : Nat → Int32) (x_slots_made : Int32) (x_tickets_slot : Nat → Int32) (x_tickets_guests : Nat → Int32) (x_tickets_kind : Nat → Int32) (x_tickets_returned : Nat → Int32) (x_tickets_made : Int32) (x_requests_slot : Nat → Int32) (x_requests_guests : Nat → Int32) (x_requests_kind : Nat → Int32) (x_requests_ticket : Nat → Int32) (x_requests_made : Int32) (x_requests_served : Int32) (x_chances_ways : Nat → Int64) (x_tariff_text : Nat → Int32) (x_tariff_length : Int32) (x_tariff_prices : Nat → Int32) (x_tariff_percents : Nat → Int32) (x_tariff_clauses : Int32) (x_tariff_newPrices : Nat → Int32) (x_tariff_newPercents : Nat → Int32) (x_tariff_newClauses : Int32) (x_tariff_state : Int32) (x_tariff_subject : Int32) (x_tariff_number : Int32) (x_tariff_digits : Int32) (x_doors_seconds : Nat → Int32) (x_doors_order : Nat → Int32) (x_doors_firstIn : Nat → Int32) (x_doors_doubles : Nat → Int32) (x_doors_found : Int32) (x_doors_goneOut : Nat → Int32) (m_thrown : Int32) (m_slots : Int32) (m_places : Nat → Int32) (m_aboves : Nat → Int32) (m_belows : Nat → Int32) (m_riskAboves : Nat → Int32) (m_riskBelows : Nat → Int32) (m_tickets : Int32) (m_slotOf : Nat → Int32) (m_guests : Nat → Int32) (m_kinds : Nat → Int32) (m_returned : Nat → Int32) (m_outs : Nat → Int32) (m_requests : Int32) (m_requestSlots : Nat → Int32) (m_requestGuests : Nat → Int32) (m_requestKinds : Nat → Int32) (m_givens : Nat → Int32) (m_length : Int32) (m_text : Nat → Int32) (m_clauses : Int32) (m_sorts : Nat → Int32) (m_ones : Nat → Int32) (m_twos : Nat → Int32) (m_found : Int32) (m_readSorts : Nat → Int32) (m_readOnes : Nat → Int32) (m_readTwos : Nat → Int32) (m_seconds : Nat → Int32) (m_firsts : Nat → Int32) (m_doubles : Int32) (m_doubleTickets : Nat → Int32) (m_doubleReaders : Nat → Int32) (m_doubleSeconds : Nat → Int32) (m_digits : Nat → Int32) (o_ : Nat → Int64), INV x_slots_places x_slots_above x_slots_below x_slots_most x_slots_sold x_slots_made x_tickets_slot x_tickets_guests x_tickets_kind x_tickets_returned x_tickets_made x_requests_slot x_requests_guests x_requests_kind x_requests_ticket x_requests_made x_requests_served x_chances_ways x_tariff_text x_tariff_length x_tariff_prices x_tariff_percents x_tariff_clauses x_tariff_newPrices x_tariff_newPercents x_tariff_newClauses x_tariff_state x_tariff_subject x_tariff_number x_tariff_digits x_doors_seconds x_doors_order x_doors_firstIn x_doors_doubles x_doors_found x_doors_goneOut m_thrown m_slots m_places m_aboves m_belows m_riskAboves m_riskBelows m_tickets m_slotOf m_guests m_kinds m_returned m_outs m_requests m_requestSlots m_requestGuests m_requestKinds m_givens m_length m_text m_clauses m_sorts m_ones m_twos m_found m_readSorts m_readOnes m_readTwos m_seconds m_firsts m_doubles m_doubleTickets m_doubleReaders m_doubleSeconds m_digits o_ → k_ (l_4 + (6 : Int32)) x_slots_places x_slots_above x_slots_below x_slots_most x_slots_sold x_slots_made x_tickets_slot x_tickets_guests x_tickets_kind x_tickets_returned x_tickets_made x_requests_slot x_requests_guests x_requests_kind x_requests_ticket x_requests_made x_requests_served x_chances_ways x_tariff_text x_tariff_length x_tariff_prices x_tariff_percents x_tariff_clauses x_tariff_newPrices x_tariff_newPercents x_tariff_newClauses x_tariff_state x_tariff_subject x_tariff_number x_tariff_digits x_doors_seconds x_doors_order x_doors_firstIn x_doors_doubles x_doors_found x_doors_goneOut m_thrown m_slots m_places m_aboves m_belows m_riskAboves m_riskBelows m_tickets m_slotOf m_guests m_kinds m_returned m_outs m_requests m_requestSlots m_requestGuests m_requestKinds m_givens m_length m_text m_clauses m_sorts m_ones m_twos m_found m_readSorts m_readOnes m_readTwos m_seconds m_firsts m_doubles m_doubleTickets m_doubleReaders m_doubleSeconds m_digits o_) : wp_L_law_809 L xs k_ l_4 x_slots_places x_slots_above x_slots_below x_slots_most x_slots_sold x_slots_made x_tickets_slot x_tickets_guests x_tickets_kind x_tickets_returned x_tickets_made x_requests_slot x_requests_guests x_requests_kind x_requests_ticket x_requests_made x_requests_served x_chances_ways x_tariff_text x_tariff_length x_tariff_prices x_tariff_percents x_tariff_clauses x_tariff_newPrices x_tariff_newPercents x_tariff_newClauses x_tariff_state x_tariff_subject x_tariff_number x_tariff_digits x_doors_seconds x_doors_order x_doors_firstIn x_doors_doubles x_doors_found x_doors_goneOut m_thrown m_slots m_places m_aboves m_belows m_riskAboves m_riskBelows m_tickets m_slotOf m_guests m_kinds m_returned m_outs m_requests m_requestSlots m_requestGuests m_requestKinds m_givens m_length m_text m_clauses m_sorts m_ones m_twos m_found m_readSorts m_readOnes m_readTwos m_seconds m_firsts m_doubles m_doubleTickets m_doubleReaders m_doubleSeconds m_digits o_ := by
  obtain ⟨nS, nT, nR, sl, gu, ki, re, hS, hT, hSo, hR, hX, hU, hD⟩ := hI
  obtain ⟨v0, v1, v2, v3, v4, v5⟩ := script_in hL hj e4
  obtain ⟨t1, t2, t3, t4, t5, t6⟩ := id hT
  obtain ⟨q1, q2, q3⟩ := IT_r hT
  have fx : ∀ x : Int32, x = l_4 + (6 : Int32) → k_ x x_slots_places x_slots_above x_slots_below x_slots_most x_slots_sold x_slots_made x_tickets_slot x_tickets_guests x_tickets_kind x_tickets_returned x_tickets_made x_requests_slot x_requests_guests x_requests_kind x_requests_ticket x_requests_made x_requests_served x_chances_ways x_tariff_text x_tariff_length x_tariff_prices x_tariff_percents x_tariff_clauses x_tariff_newPrices x_tariff_newPercents x_tariff_newClauses x_tariff_state x_tariff_subject x_tariff_number x_tariff_digits x_doors_seconds x_doors_order x_doors_firstIn x_doors_doubles x_doors_found x_doors_goneOut 1 m_slots m_places m_aboves m_belows m_riskAboves m_riskBelows m_tickets m_slotOf m_guests m_kinds m_returned m_outs m_requests m_requestSlots m_requestGuests m_requestKinds m_givens m_length m_text m_clauses m_sorts m_ones m_twos m_found m_readSorts m_readOnes m_readTwos m_seconds m_firsts m_doubles m_doubleTickets m_doubleReaders m_doubleSeconds m_digits o_ := fun x hx => by
    subst hx
    exact hk _ _ _ _ _ _ _ _ _ _ _ _ _ _ _ _ _ _ _ _ _ _ _ _ _ _ _ _ _ _ _ _ _ _ _ _ _ _ _ _ _ _ _ _ _ _ _ _ _ _ _ _ _ _ _ _ _ _ _ _ _ _ _ _ _ _ _ _ _ _ _ _ ⟨nS, nT, nR, sl, gu, ki, re, hS, hT, hSo, hR, hX, hU, hD⟩
  have nb : ∀ {n t : Nat} {a : Int32}, bad a n → t < n → n ≤ 60 → a = nI t → False := fun hb ht hn et => nbad ht (by omega) (by rw [← et]; exact hb)
  refine ⟨v1, v2, sx_about t1 t2 q1 (fun hb => ⟨rfl, v1, v2, sm_about t1 t3 q2 (fun _ => fin_x (by decide) fx) (fun _ => fin_x (by decide) fx) (fun t ht et => (nb hb ht t1 et).elim)⟩) (fun hb => ⟨rfl, v1, v2, sm_about t1 t3 q2 (fun _ => fin_x (by decide) fx) (fun _ => fin_x (by decide) fx) (fun t ht et p1 p2 => (hb.elim p1 p2).elim)⟩) (fun t ht et p1 p2 => ⟨out0, fun f ef => ⟨v1, v2, sm_about t1 t3 q2 (fun hb => (nb hb ht t1 et).elim) (fun hb => (hb.elim p1 p2).elim) (fun t' ht' et' _ _ => ?_)⟩⟩)⟩
  obtain rfl : t = t' := (nI_eq (by omega) (by omega)).mp (et.symm.trans et')
  subst ef
  refine fin_0 (fin_o ?_ (fun x hx => ?_))
  · obtain ⟨-, -, -, -, a1, a2, a3, a4, a5, a6⟩ := t4 t ht
    unfold abt
    rw [a1, a2, a3, a4, a5, a6, q3 t ht]
  · subst hx
    exact hk _ _ _ _ _ _ _ _ _ _ _ _ _ _ _ _ _ _ _ _ _ _ _ _ _ _ _ _ _ _ _ _ _ _ _ _ _ _ _ _ _ _ _ _ _ _ _ _ _ _ _ _ _ _ _ _ _ _ _ _ _ _ _ _ _ _ _ _ _ _ _ _ ⟨nS, nT, nR, sl, gu, ki, re, hS, hT, hSo, hR, hX, hU, hD⟩
