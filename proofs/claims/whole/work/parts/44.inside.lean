-- inside
theorem sx_needSecond {post : Unit → Prop} {px : String → Prop} {a : Int32} (h0 : (a < 0 ∨ (100000 : Int32) < a) → px "java/lang/IllegalArgumentException") (h1 : ¬ a < 0 → ¬ (100000 : Int32) < a → post ()) : wp_X_needSecond post px a :=
  ⟨fun h => h0 (Or.inl h), fun h => ⟨fun g => h1 h (fun q => by rw [tI] at q; rw [tL] at g; omega), fun g => h0 (Or.inr (nle_lt.mp g))⟩⟩
/-- a ticket is inside at a second -/
def hld (fi go : Nat → Int32) (s : Int32) (t : Nat) : Prop := ¬ fi t = -1 ∧ ¬ s < fi t ∧ (go t = -1 ∨ ¬ go t ≤ s)
noncomputable def insI (fi go gu : Nat → Int32) (s : Int32) : Nat → Int32
  | 0 => 0
  | t + 1 => haveI := Classical.propDecidable (hld fi go s t); if hld fi go s t then insI fi go gu s t + gu t else insI fi go gu s t
theorem insI_y {fi go gu : Nat → Int32} {s : Int32} {t : Nat} (h : hld fi go s t) : insI fi go gu s (t + 1) = insI fi go gu s t + gu t := by rw [insI]; exact if_pos h
theorem insI_n {fi go gu : Nat → Int32} {s : Int32} {t : Nat} (h : ¬ hld fi go s t) : insI fi go gu s (t + 1) = insI fi go gu s t := by rw [insI]; exact if_neg h
theorem insI_eq {fi go gu fi' go' gu' : Nat → Int32} {s : Int32} {n : Nat} (h : ∀ t, t < n → fi t = fi' t ∧ go t = go' t ∧ gu t = gu' t) : insI fi go gu s n = insI fi' go' gu' s n := by
  induction n with
  | zero => rfl
  | succ n ih =>
    obtain ⟨a, b, c⟩ := h n (by omega)
    have e := ih (fun t ht => h t (by omega))
    by_cases q : hld fi go s n
    · rw [insI_y q, insI_y (by unfold hld at q ⊢; rw [← a, ← b]; exact q), e, c]
    · rw [insI_n q, insI_n (by unfold hld at q ⊢; rw [← a, ← b]; exact q), e]
theorem sx_isIn {post : Int32 → Unit → Prop} {s : Int32} {fi : Nat → Int32} {t : Nat} (ht : t < 60) (h1 : ¬ fi t = -1 → ¬ s < fi t → post 1 ()) (h0 : (fi t = -1 ∨ s < fi t) → post 0 ()) : wp_XD_isIn post (nI t) s fi := by
  have hv : vp_in (nI t) 60 := vin ht (by omega)
  unfold wp_XD_isIn
  rw [cl (by omega)]
  exact ⟨hv, fun q => h0 (Or.inl q), fun q => ⟨hv, fun g => h0 (Or.inr g), fun g => h1 q g⟩⟩
theorem sx_holds {post : Int32 → Unit → Prop} {s : Int32} {fi go : Nat → Int32} {t : Nat} (ht : t < 60) (h1 : hld fi go s t → post 1 ()) (h0 : ¬ hld fi go s t → post 0 ()) : wp_XD_holds post (nI t) s fi go := by
  have hv : vp_in (nI t) 60 := vin ht (by omega)
  refine sx_isIn ht (fun q g => ⟨fun z => absurd z (by decide), fun _ => ⟨hv, ?_⟩⟩) (fun q => ⟨fun _ => h0 (fun z => q.elim z.1 z.2.1), fun z => absurd rfl z⟩)
  rw [cl (by omega)]
  exact ⟨fun z => h1 ⟨q, g, Or.inl z⟩, fun z => ⟨hv, fun w => h0 (fun y => y.2.2.elim z (fun k => k w)), fun w => h1 ⟨q, g, Or.inr w⟩⟩⟩
theorem sx_insideL {post : Int32 → Unit → Prop} {px : String → Prop} {s : Int32} {fi go gu : Nat → Int32} {n : Nat} (hn : n ≤ 60) (h : post (insI fi go gu s n) ()) : ∀ (m t : Nat), t + m = n → wp_X_inside_8 post px gu (nI n) fi go (m + 1) s (insI fi go gu s t) (nI t) := by
  intro m
  induction m with
  | zero =>
    intro t ht
    obtain rfl : t = n := by omega
    exact ⟨fun _ => h, fun q => absurd (nI_le (Nat.le_refl _) (by omega)) q⟩
  | succ m ih =>
    intro t ht
    have hv : vp_in (nI t) 60 := vin (by omega) (by omega)
    refine ⟨fun q => absurd q (nI_ge (by omega) (by omega)), fun _ => sx_holds (by omega) (fun q => ⟨fun z => absurd z (by decide), fun _ => ⟨hv, fun x ex y ey => ?_⟩⟩) (fun q => ⟨fun _ y ey => ?_, fun z => absurd rfl z⟩)⟩
    · rw [cl (by omega), ← insI_y q] at ex
      rw [ex, ey, nI_1]
      exact ih (t + 1) (by omega)
    · rw [ey, nI_1, ← insI_n (gu := gu) q]
      exact ih (t + 1) (by omega)
theorem sx_inside {post : Int32 → Unit → Prop} {px : String → Prop} {a v : Int32} {fi go gu : Nat → Int32} {n : Nat} (hn : n ≤ 60) (e : v = nI n) (h0 : (a < 0 ∨ (100000 : Int32) < a) → px "java/lang/IllegalArgumentException") (h1 : ¬ a < 0 → ¬ (100000 : Int32) < a → post (insI fi go gu a n) ()) : wp_X_inside post px a gu v fi go := by
  subst e
  exact sx_needSecond h0 (fun p q => ⟨n + 1, sx_insideL hn (h1 p q) n 0 (by omega)⟩)
theorem sm_insideL {post : Int32 → Int32 → Prop} {s th : Int32} {fi go gu : Nat → Int32} {n : Nat} (hn : n ≤ 60) (h : post (insI fi go gu s n) th) : ∀ (m t : Nat), t + m = n → wp_M_inside_19 post (nI n) gu go fi (m + 1) s (insI fi go gu s t) (nI t) th := by
  intro m
  induction m with
  | zero =>
    intro t ht
    obtain rfl : t = n := by omega
    exact ⟨fun _ => h, fun q => absurd (nI_le (Nat.le_refl _) (by omega)) q⟩
  | succ m ih =>
    intro t ht
    have hv : vp_in (nI t) 60 := vin (by omega) (by omega)
    have no : ¬ hld fi go s t → wp_M_inside_71 post (nI n) gu go fi (wp_M_inside_19 post (nI n) gu go fi (m + 1)) s (insI fi go gu s t) (nI t) th := by
      intro q
      unfold wp_M_inside_71 wp_M_inside_72
      refine ⟨fun _ y ey => ?_, fun z => absurd rfl z⟩
      rw [ey, nI_1, ← insI_n (gu := gu) q]
      exact ih (t + 1) (by omega)
    have yes : hld fi go s t → wp_M_inside_67 post (nI n) gu go fi (wp_M_inside_19 post (nI n) gu go fi (m + 1)) s (insI fi go gu s t) (nI t) th := by
      intro q
      unfold wp_M_inside_67 wp_M_inside_72
      refine ⟨fun z => absurd z (by decide), fun _ => ⟨hv, fun x ex y ey => ?_⟩⟩
      rw [cl (by omega), ← insI_y q] at ex
      rw [ex, ey, nI_1]
      exact ih (t + 1) (by omega)
    refine ⟨fun q => absurd q (nI_ge (by omega) (by omega)), fun _ => ?_⟩
    rw [cl (by omega)]
    exact ⟨hv, fun q => no (fun z => z.1 q), fun q => ⟨hv, fun g => no (fun z => z.2.1 g), fun g => ⟨hv, fun z => yes ⟨q, g, Or.inl z⟩, fun z => ⟨hv, fun w => no (fun y => y.2.2.elim z (fun k => k w)), fun w => yes ⟨q, g, Or.inr w⟩⟩⟩⟩⟩
theorem sm_inside {post : Int32 → Int32 → Prop} {a t v : Int32} {fi go gu : Nat → Int32} {n : Nat} (hn : n ≤ 60) (e : v = nI n) (h0 : (a < 0 ∨ (100000 : Int32) < a) → post 0 1) (h1 : ¬ a < 0 → ¬ (100000 : Int32) < a → post (insI fi go gu a n) 0) : wp_M_inside post a t v gu go fi := by
  subst e
  exact sm_isSecond (fun q => sm_goes1 ⟨fun _ => h0 q, fun z => absurd rfl z⟩) (fun p q => sm_goes0 ⟨fun z => absurd z (by decide), fun _ => ⟨n + 1, sm_insideL hn (h1 p q) n 0 (by omega)⟩⟩)
set_option maxHeartbeats 1000000 in
theorem case_1206 {L j : Nat} {xs : Nat → Int32} {k_ : Int32 → (Nat → Int32) → (Nat → Int32) → (Nat → Int32) → (Nat → Int32) → (Nat → Int32) → Int32 → (Nat → Int32) → (Nat → Int32) → (Nat → Int32) → (Nat → Int32) → Int32 → (Nat → Int32) → (Nat → Int32) → (Nat → Int32) → (Nat → Int32) → Int32 → Int32 → (Nat → Int64) → (Nat → Int32) → Int32 → (Nat → Int32) → (Nat → Int32) → Int32 → (Nat → Int32) → (Nat → Int32) → Int32 → Int32 → Int32 → Int32 → Int32 → (Nat → Int32) → (Nat → Int32) → (Nat → Int32) → (Nat → Int32) → Int32 → (Nat → Int32) → Int32 → Int32 → (Nat → Int32) → (Nat → Int32) → (Nat → Int32) → (Nat → Int32) → (Nat → Int32) → Int32 → (Nat → Int32) → (Nat → Int32) → (Nat → Int32) → (Nat → Int32) → (Nat → Int32) → Int32 → (Nat → Int32) → (Nat → Int32) → (Nat → Int32) → (Nat → Int32) → Int32 → (Nat → Int32) → Int32 → (Nat → Int32) → (Nat → Int32) → (Nat → Int32) → Int32 → (Nat → Int32) → (Nat → Int32) → (Nat → Int32) → (Nat → Int32) → (Nat → Int32) → Int32 → (Nat → Int32) → (Nat → Int32) → (Nat → Int32) → (Nat → Int32) → (Nat → Int64) → Prop} {l_4 : Int32} {x_slots_places : Nat → Int32} {x_slots_above : Nat → Int32} {x_slots_below : Nat → Int32} {x_slots_most : Nat → Int32} {x_slots_sold : Nat → Int32} {x_slots_made : Int32} {x_tickets_slot : Nat → Int32} {x_tickets_guests : Nat → Int32} {x_tickets_kind : Nat → Int32} {x_tickets_returned : Nat → Int32} {x_tickets_made : Int32} {x_requests_slot : Nat → Int32} {x_requests_guests : Nat → Int32} {x_requests_kind : Nat → Int32} {x_requests_ticket : Nat → Int32} {x_requests_made : Int32} {x_requests_served : Int32} {x_chances_ways : Nat → Int64} {x_tariff_text : Nat → Int32} {x_tariff_length : Int32} {x_tariff_prices : Nat → Int32} {x_tariff_percents : Nat → Int32} {x_tariff_clauses : Int32} {x_tariff_newPrices : Nat → Int32} {x_tariff_newPercents : Nat → Int32} {x_tariff_newClauses : Int32} {x_tariff_state : Int32} {x_tariff_subject : Int32} {x_tariff_number : Int32} {x_tariff_digits : Int32} {x_doors_seconds : Nat → Int32} {x_doors_order : Nat → Int32} {x_doors_firstIn : Nat → Int32} {x_doors_doubles : Nat → Int32} {x_doors_found : Int32} {x_doors_goneOut : Nat → Int32} {m_thrown : Int32} {m_slots : Int32} {m_places : Nat → Int32} {m_aboves : Nat → Int32} {m_belows : Nat → Int32} {m_riskAboves : Nat → Int32} {m_riskBelows : Nat → Int32} {m_tickets : Int32} {m_slotOf : Nat → Int32} {m_guests : Nat → Int32} {m_kinds : Nat → Int32} {m_returned : Nat → Int32} {m_outs : Nat → Int32} {m_requests : Int32} {m_requestSlots : Nat → Int32} {m_requestGuests : Nat → Int32} {m_requestKinds : Nat → Int32} {m_givens : Nat → Int32} {m_length : Int32} {m_text : Nat → Int32} {m_clauses : Int32} {m_sorts : Nat → Int32} {m_ones : Nat → Int32} {m_twos : Nat → Int32} {m_found : Int32} {m_readSorts : Nat → Int32} {m_readOnes : Nat → Int32} {m_readTwos : Nat → Int32} {m_seconds : Nat → Int32} {m_firsts : Nat → Int32} {m_doubles : Int32} {m_doubleTickets : Nat → Int32} {m_doubleReaders : Nat → Int32} {m_doubleSeconds : Nat → Int32} {m_digits : Nat → Int32} {o_ : Nat → Int64} (hL : L ≤ 3072) (hj : 6 * j + 6 ≤ L) (e4 : l_4 = nI (6 * j)) (hI : INV x_slots_places x_slots_above x_slots_below x_slots_most x_slots_sold x_slots_made x_tickets_slot x_tickets_guests x_tickets_kind x_tickets_returned x_tickets_made x_requests_slot x_requests_guests x_requests_kind x_requests_ticket x_requests_made x_requests_served x_chances_ways x_tariff_text x_tariff_length x_tariff_prices x_tariff_percents x_tariff_clauses x_tariff_newPrices x_tariff_newPercents x_tariff_newClauses x_tariff_state x_tariff_subject x_tariff_number x_tariff_digits x_doors_seconds x_doors_order x_doors_firstIn x_doors_doubles x_doors_found x_doors_goneOut m_thrown m_slots m_places m_aboves m_belows m_riskAboves m_riskBelows m_tickets m_slotOf m_guests m_kinds m_returned m_outs m_requests m_requestSlots m_requestGuests m_requestKinds m_givens m_length m_text m_clauses m_sorts m_ones m_twos m_found m_readSorts m_readOnes m_readTwos m_seconds m_firsts m_doubles m_doubleTickets m_doubleReaders m_doubleSeconds m_digits o_) (hk : ∀ (x_slots_places : Nat → Int32) (x_slots_above : Nat → Int32) (x_slots_below : Nat → Int32) (x_slots_most : Nat → Int32) (x_slots_sold : Nat → Int32) (x_slots_made : Int32) (x_tickets_slot : Nat → Int32) (x_tickets_guests : Nat → Int32) (x_tickets_kind : Nat → Int32) (x_tickets_returned : Nat → Int32) (x_tickets_made : Int32) (x_requests_slot : Nat → Int32) (x_requests_guests : Nat → Int32) (x_requests_kind : Nat → Int32) (x_requests_ticket : Nat → Int32) (x_requests_made : Int32) (x_requests_served : Int32) (x_chances_ways : Nat → Int64) (x_tariff_text : Nat → Int32) (x_tariff_length : Int32) (x_tariff_prices : Nat → Int32) (x_tariff_percents : Nat → Int32) (x_tariff_clauses : Int32) (x_tariff_newPrices : Nat → Int32) (x_tariff_newPercents : Nat → Int32) (x_tariff_newClauses : Int32) (x_tariff_state : Int32) (x_tariff_subject : Int32) (x_tariff_number : Int32) (x_tariff_digits : Int32) (x_doors_seconds : Nat → Int32) (x_doors_order : Nat → Int32) (x_doors_firstIn : Nat → Int32) (x_doors_doubles : Nat → Int32) (x_doors_found : Int32) (x_doors_goneOut : Nat → Int32) (m_thrown : Int32) (m_slots : Int32) (m_places : Nat → Int32) (m_aboves : Nat → Int32) (m_belows : Nat → Int32) (m_riskAboves : Nat → Int32) (m_riskBelows : Nat → Int32) (m_tickets : Int32) (m_slotOf : Nat → Int32) (m_guests : Nat → Int32) (m_kinds : Nat → Int32) (m_returned : Nat → Int32) (m_outs : Nat → Int32) (m_requests : Int32) (m_requestSlots : Nat → Int32) (m_requestGuests : Nat → Int32) (m_requestKinds : Nat → Int32) (m_givens : Nat → Int32) (m_length : Int32) (m_text : Nat → Int32) (m_clauses : Int32) (m_sorts : Nat → Int32) (m_ones : Nat → Int32) (m_twos : Nat → Int32) (m_found : Int32) (m_readSorts : Nat → Int32) (m_readOnes : Nat → Int32) (m_readTwos : Nat → Int32) (m_seconds : Nat → Int32) (m_firsts : Nat → Int32) (m_doubles : Int32) (m_doubleTickets : Nat → Int32) (m_doubleReaders : Nat → Int32) (m_doubleSeconds : Nat → Int32) (m_digits : Nat → Int32) (o_ : Nat → Int64), INV x_slots_places x_slots_above x_slots_below x_slots_most x_slots_sold x_slots_made x_tickets_slot x_tickets_guests x_tickets_kind x_tickets_returned x_tickets_made x_requests_slot x_requests_guests x_requests_kind x_requests_ticket x_requests_made x_requests_served x_chances_ways x_tariff_text x_tariff_length x_tariff_prices x_tariff_percents x_tariff_clauses x_tariff_newPrices x_tariff_newPercents x_tariff_newClauses x_tariff_state x_tariff_subject x_tariff_number x_tariff_digits x_doors_seconds x_doors_order x_doors_firstIn x_doors_doubles x_doors_found x_doors_goneOut m_thrown m_slots m_places m_aboves m_belows m_riskAboves m_riskBelows m_tickets m_slotOf m_guests m_kinds m_returned m_outs m_requests m_requestSlots m_requestGuests m_requestKinds m_givens m_length m_text m_clauses m_sorts m_ones m_twos m_found m_readSorts m_readOnes m_readTwos m_seconds m_firsts m_doubles m_doubleTickets m_doubleReaders m_doubleSeconds m_digits o_ → k_ (l_4 + (6 : Int32)) x_slots_places x_slots_above x_slots_below x_slots_most x_slots_sold x_slots_made x_tickets_slot x_tickets_guests x_tickets_kind x_tickets_returned x_tickets_made x_requests_slot x_requests_guests x_requests_kind x_requests_ticket x_requests_made x_requests_served x_chances_ways x_tariff_text x_tariff_length x_tariff_prices x_tariff_percents x_tariff_clauses x_tariff_newPrices x_tariff_newPercents x_tariff_newClauses x_tariff_state x_tariff_subject x_tariff_number x_tariff_digits x_doors_seconds x_doors_order x_doors_firstIn x_doors_doubles x_doors_found x_doors_goneOut m_thrown m_slots m_places m_aboves m_belows m_riskAboves m_riskBelows m_tickets m_slotOf m_guests m_kinds m_returned m_outs m_requests m_requestSlots m_requestGuests m_requestKinds m_givens m_length m_text m_clauses m_sorts m_ones m_twos m_found m_readSorts m_readOnes m_readTwos m_seconds m_firsts m_doubles m_doubleTickets m_doubleReaders m_doubleSeconds m_digits o_) : wp_L_law_1206 L xs k_ l_4 x_slots_places x_slots_above x_slots_below x_slots_most x_slots_sold x_slots_made x_tickets_slot x_tickets_guests x_tickets_kind x_tickets_returned x_tickets_made x_requests_slot x_requests_guests x_requests_kind x_requests_ticket x_requests_made x_requests_served x_chances_ways x_tariff_text x_tariff_length x_tariff_prices x_tariff_percents x_tariff_clauses x_tariff_newPrices x_tariff_newPercents x_tariff_newClauses x_tariff_state x_tariff_subject x_tariff_number x_tariff_digits x_doors_seconds x_doors_order x_doors_firstIn x_doors_doubles x_doors_found x_doors_goneOut m_thrown m_slots m_places m_aboves m_belows m_riskAboves m_riskBelows m_tickets m_slotOf m_guests m_kinds m_returned m_outs m_requests m_requestSlots m_requestGuests m_requestKinds m_givens m_length m_text m_clauses m_sorts m_ones m_twos m_found m_readSorts m_readOnes m_readTwos m_seconds m_firsts m_doubles m_doubleTickets m_doubleReaders m_doubleSeconds m_digits o_ := by
  obtain ⟨nS, nT, nR, sl, gu, ki, re, hS, hT, hSo, hR, hX, hU, hD⟩ := hI
  obtain ⟨v0, v1, v2, v3, v4, v5⟩ := script_in hL hj e4
  obtain ⟨t1, t2, t3, t4, t5, t6⟩ := id hT
  obtain ⟨d1, d2, d3, d4, d5, d6⟩ := id hD
  refine ⟨v1, sx_inside t1 t2 (fun h => ⟨rfl, v1, sm_inside t1 t3 (fun _ => fin_x (by decide) (fun x hx => ?_)) (fun a b => (h.elim a b).elim)⟩) (fun a b => ⟨out0, fun f ef => ⟨v1, sm_inside t1 t3 (fun h => (h.elim a b).elim) (fun _ _ => ?_)⟩⟩)⟩
  · subst hx
    exact hk _ _ _ _ _ _ _ _ _ _ _ _ _ _ _ _ _ _ _ _ _ _ _ _ _ _ _ _ _ _ _ _ _ _ _ _ _ _ _ _ _ _ _ _ _ _ _ _ _ _ _ _ _ _ _ _ _ _ _ _ _ _ _ _ _ _ _ _ _ _ _ _ ⟨nS, nT, nR, sl, gu, ki, re, hS, hT, hSo, hR, hX, hU, hD⟩
  · subst ef
    refine fin_0 (fin_o (congrArg Int32.toInt64 (insI_eq (gu' := m_guests) (fun t ht => ⟨(d3 t (by omega)).1, (d5 t (by omega)).1, by obtain ⟨-, -, -, -, -, -, a3, a4, -⟩ := t4 t ht; rw [a3, a4]⟩))) (fun x hx => ?_))
    subst hx
    exact hk _ _ _ _ _ _ _ _ _ _ _ _ _ _ _ _ _ _ _ _ _ _ _ _ _ _ _ _ _ _ _ _ _ _ _ _ _ _ _ _ _ _ _ _ _ _ _ _ _ _ _ _ _ _ _ _ _ _ _ _ _ _ _ _ _ _ _ _ _ _ _ _ ⟨nS, nT, nR, sl, gu, ki, re, hS, hT, hSo, hR, hX, hU, hD⟩
