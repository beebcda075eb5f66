-- read
def rdc (q ret : Int32) (st s : Nat) : Nat := if q = -1 then (if ret = 0 then (if st ≤ s then (if s ≤ st + 900 then 1 else 4) else 3) else 2) else 0
def rda (q ret : Int32) (st s : Nat) (f : Nat → Int32) (i : Nat) (c : Int32) : Nat → Int32 := if rdc q ret st s = 1 then upd f i c else f
theorem st_nI {v : Int32} {k : Nat} (e : v = nI k) (hk : k < 8) : (3600 : Int32) * v = nI (3600 * k) := by rw [e]; exact pk_mul 3600 k
theorem ix6 {t r : Nat} : nI t * (6 : Int32) + nI r = nI (6 * t + r) := by
  rw [show nI t * (6 : Int32) = nI (t * 6) from pk_mul t 6, nI_add, Nat.mul_comm]
theorem ix60 {t r : Nat} : (60 : Int32) * nI r + nI t = nI (60 * r + t) := by
  rw [show (60 : Int32) * nI r = nI (60 * r) from pk_mul 60 r, nI_add]
theorem sx_hasLetIn {post : Int32 → Unit → Prop} {sc : Nat → Int32} {t r : Nat} (ht : t < 60) (hr : r < 6) (h0 : sc (6 * t + r) = -1 → post 0 ()) (h1 : ¬ sc (6 * t + r) = -1 → post 1 ()) : wp_XD_hasLetIn post (nI r) (nI t) sc := by
  unfold wp_XD_hasLetIn
  rw [ix6, cl (by omega)]
  exact ⟨vin (by omega) (by omega), h0, h1⟩
theorem sx_read {post : Int32 → (Nat → Int32) → Prop} {px : String → Prop} {a b c v : Int32} {sl rt sc : Nat → Int32} {n : Nat} (hn : n ≤ 60) (e : v = nI n) (hsl : ∀ t, t < n → ∃ k : Nat, k < 8 ∧ sl t = nI k) (h0 : (bad a 6 ∨ bad b n) → px "java/lang/IndexOutOfBoundsException") (h1 : ¬ bad a 6 → ¬ bad b n → (c < 0 ∨ (100000 : Int32) < c) → px "java/lang/IllegalArgumentException") (h2 : ∀ r t k s : Nat, r < 6 → t < n → k < 8 → s ≤ 100000 → a = nI r → b = nI t → sl t = nI k → c = nI s → post (nI (rdc (sc (6 * t + r)) (rt t) (3600 * k) s)) (rda (sc (6 * t + r)) (rt t) (3600 * k) s sc (6 * t + r) c)) : wp_X_read post px a b c sl rt v sc := by
  refine sx_ix (v := (6 : Int32)) (n := 6) (by omega) rfl (fun h => h0 (Or.inl h)) (fun r hr er => sx_needTicket (by omega) e (fun h => h0 (Or.inr h)) (fun t ht et => sx_needSecond (h1 (by rw [er]; exact nbad hr (by omega)) (by rw [et]; exact nbad ht (by omega))) (fun p q => ?_)))
  obtain ⟨s, hs, es⟩ := sec_of p q
  obtain ⟨k, hk, ek⟩ := hsl t ht
  have h := h2 r t k s hr ht hk hs er et ek es
  subst er; subst et; subst es
  have hv : vp_in (nI t) 60 := vin (by omega) (by omega)
  refine ⟨hv, fun x ex => ?_⟩
  rw [cl (by omega), st_nI ek hk] at ex
  subst ex
  refine sx_hasLetIn (by omega) hr (fun z => ⟨fun _ => ⟨hv, ?_⟩, fun y => absurd rfl y⟩) (fun z => ⟨fun y => absurd y (by decide), fun _ => ?_⟩)
  · rw [cl (by omega)]
    refine ⟨fun y => ⟨fun w => ⟨fun u => ?_, fun u => ?_⟩, fun w => ?_⟩, fun y => ?_⟩
    · rw [len (by omega) (by omega)] at w
      rw [pk_sub w, show (900 : Int32) = nI 900 from rfl, len (by omega) (by omega)] at u
      unfold wp_XD_letIn
      rw [ix6, cl (by omega)]
      refine ⟨vin (by omega) (by omega), fun f ef => ?_⟩
      subst ef
      (simp [rda, rdc, z, y, w, show s ≤ 3600 * k + 900 by omega] at h; exact h)
    · rw [len (by omega) (by omega)] at w
      rw [pk_sub w, show (900 : Int32) = nI 900 from rfl, len (by omega) (by omega)] at u
      (simp [rda, rdc, z, y, w, show ¬ s ≤ 3600 * k + 900 by omega] at h; exact h)
    · rw [len (by omega) (by omega)] at w
      (simp [rda, rdc, z, y, w] at h; exact h)
    · (simp [rda, rdc, z, y] at h; exact h)
  · (simp [rda, rdc, z] at h; exact h)
theorem sm_lit {post : Int32 → Unit → Prop} {a hi : Int32} (n : Nat) (hn : n < 2 ^ 30) (e : nI n - (1 : Int32) = hi) (h0 : bad a n → post 0 ()) (h1 : ∀ j, j < n → a = nI j → post 1 ()) : wp_M_within post a (0 : Int32) hi := by
  subst e
  exact sm_ix hn rfl h0 h1
theorem sm_read22 {post : Int32 → (Int32 × (Nat → Int32)) → Prop} {a b c th v : Int32} {sl rt sc : Nat → Int32} (h : post 0 (1, sc)) : wp_M_read_22 post v sl rt a b c th sc := by
  unfold wp_M_read_22 wp_M_read_23
  exact sm_isSecond (fun _ => sm_goes1 ⟨fun _ => h, fun z => absurd rfl z⟩) (fun _ _ => sm_goes1 ⟨fun _ => h, fun z => absurd rfl z⟩)
theorem sm_read {post : Int32 → (Int32 × (Nat → Int32)) → Prop} {a b c th v : Int32} {sl rt sc : Nat → Int32} {n : Nat} (hn : n ≤ 60) (e : v = nI n) (hsl : ∀ t, t < n → ∃ k : Nat, k < 8 ∧ sl t = nI k) (h0 : (bad a 6 ∨ bad b n) → post 0 (1, sc)) (h1 : ¬ bad a 6 → ¬ bad b n → (c < 0 ∨ (100000 : Int32) < c) → post 0 (2, sc)) (h2 : ∀ r t k s : Nat, r < 6 → t < n → k < 8 → s ≤ 100000 → a = nI r → b = nI t → sl t = nI k → c = nI s → post (nI (rdc (sc (60 * r + t)) (rt t) (3600 * k) s)) (0, rda (sc (60 * r + t)) (rt t) (3600 * k) s sc (60 * r + t) c)) : wp_M_read post a b c th v sl rt sc := by
  refine sm_lit 6 (by omega) (by decide) (fun h => ⟨fun _ => sm_read22 (h0 (Or.inl h)), fun z => absurd rfl z⟩) (fun r hr er => ⟨fun z => absurd z (by decide), fun _ => sm_isTicket (by omega) e (fun h => ⟨fun _ => sm_read22 (h0 (Or.inr h)), fun z => absurd rfl z⟩) (fun t ht et => ⟨fun z => absurd z (by decide), fun _ => ?_⟩)⟩)
  unfold wp_M_read_23
  refine sm_isSecond (fun h => sm_goes2 ⟨fun _ => h1 (by rw [er]; exact nbad hr (by omega)) (by rw [et]; exact nbad ht (by omega)) h, fun z => absurd rfl z⟩) (fun p q => sm_goes0 ⟨fun z => absurd z (by decide), fun _ => ?_⟩)
  obtain ⟨s, hs, es⟩ := sec_of p q
  obtain ⟨k, hk, ek⟩ := hsl t ht
  have h := h2 r t k s hr ht hk hs er et ek es
  subst er; subst et; subst es
  have hv : vp_in (nI t) 60 := vin (by omega) (by omega)
  have hw : vp_in (nI (60 * r + t)) 360 := vin (by omega) (by omega)
  refine ⟨hv, fun x ex => ?_⟩
  rw [cl (by omega), st_nI ek hk] at ex
  subst ex
  rw [ix60, cl (j := 60 * r + t) (by omega)]
  refine ⟨hw, fun z => ⟨hv, ?_⟩, fun z => ?_⟩
  · rw [cl (by omega)]
    refine ⟨fun y => ⟨fun w => ⟨fun u => ⟨hw, fun f ef => ?_⟩, fun u => ?_⟩, fun w => ?_⟩, fun y => ?_⟩
    · rw [len (by omega) (by omega)] at w
      rw [show (900 : Int32) = nI 900 from rfl, nI_add, len (by omega) (by omega)] at u
      subst ef
      (simp [rda, rdc, z, y, w, u] at h; exact h)
    · rw [len (by omega) (by omega)] at w
      rw [show (900 : Int32) = nI 900 from rfl, nI_add, len (by omega) (by omega)] at u
      (simp [rda, rdc, z, y, w, u] at h; exact h)
    · rw [len (by omega) (by omega)] at w
      (simp [rda, rdc, z, y, w] at h; exact h)
    · (simp [rda, rdc, z, y] at h; exact h)
  · (simp [rda, rdc, z] at h; exact h)
set_option maxHeartbeats 1000000 in
theorem case_970 {L j : Nat} {xs : Nat → Int32} {k_ : Int32 → (Nat → Int32) → (Nat → Int32) → (Nat → Int32) → (Nat → Int32) → (Nat → Int32) → Int32 → (Nat → Int32) → (Nat → Int32) → (Nat → Int32) → (Nat → Int32) → Int32 → (Nat → Int32) → (Nat → Int32) → (Nat → Int32) → (Nat → Int32) → Int32 → Int32 → (Nat → Int64) → (Nat → Int32) → Int32 → (Nat → Int32) → (Nat → Int32) → Int32 → (Nat → Int32) → (Nat → Int32) → Int32 → Int32 → Int32 → Int32 → Int32 → (Nat → Int32) → (Nat → Int32) → (Nat → Int32) → (Nat → Int32) → Int32 → (Nat → Int32) → Int32 → Int32 → (Nat → Int32) → (Nat → Int32) → (Nat → Int32) → (Nat → Int32) → (Nat → Int32) → Int32 → (Nat → Int32) → (Nat → Int32) → (Nat → Int32) → (Nat → Int32) → (Nat → Int32) → Int32 → (Nat → Int32) → (Nat → Int32) → (Nat → Int32) → (Nat → Int32) → Int32 → (Nat → Int32) → Int32 → (Nat → Int32) → (Nat → Int32) → (Nat → Int32) → Int32 → (Nat → Int32) → (Nat → Int32) → (Nat → Int32) → (Nat → Int32) → (Nat → Int32) → Int32 → (Nat → Int32) → (Nat → Int32) → (Nat → Int32) → (Nat → Int32) → (Nat → Int64) → Prop} {l_4 : Int32} {x_slots_places : Nat → Int32} {x_slots_above : Nat → Int32} {x_slots_below : Nat → Int32} {x_slots_most : Nat → Int32} {x_slots_sold : Nat → Int32} {x_slots_made : Int32} {x_tickets_slot : Nat → Int32} {x_tickets_guests : Nat → Int32} {x_tickets_kind : Nat → Int32} {x_tickets_returned : Nat → Int32} {x_tickets_made : Int32} {x_requests_slot : Nat → Int32} {x_requests_guests : Nat → Int32} {x_requests_kind : Nat → Int32} {x_requests_ticket : Nat → Int32} {x_requests_made : Int32} {x_requests_served : Int32} {x_chances_ways : Nat → Int64} {x_tariff_text : Nat → Int32} {x_tariff_length : Int32} {x_tariff_prices : Nat → Int32} {x_tariff_percents : Nat → Int32} {x_tariff_clauses : Int32} {x_tariff_newPrices : Nat → Int32} {x_tariff_newPercents : Nat → Int32} {x_tariff_newClauses : Int32} {x_tariff_state : Int32} {x_tariff_subject : Int32} {x_tariff_number : Int32} {x_tariff_digits : Int32} {x_doors_seconds : Nat → Int32} {x_doors_order : Nat → Int32} {x_doors_firstIn : Nat → Int32} {x_doors_doubles : Nat → Int32} {x_doors_found : Int32} {x_doors_goneOut : Nat → Int32} {m_thrown : Int32} {m_slots : Int32} {m_places : Nat → Int32} {m_aboves : Nat → Int32} {m_belows : Nat → Int32} {m_riskAboves : Nat → Int32} {m_riskBelows : Nat → Int32} {m_tickets : Int32} {m_slotOf : Nat → Int32} {m_guests : Nat → Int32} {m_kinds : Nat → Int32} {m_returned : Nat → Int32} {m_outs : Nat → Int32} {m_requests : Int32} {m_requestSlots : Nat → Int32} {m_requestGuests : Nat → Int32} {m_requestKinds : Nat → Int32} {m_givens : Nat → Int32} {m_length : Int32} {m_text : Nat → Int32} {m_clauses : Int32} {m_sorts : Nat → Int32} {m_ones : Nat → Int32} {m_twos : Nat → Int32} {m_found : Int32} {m_readSorts : Nat → Int32} {m_readOnes : Nat → Int32} {m_readTwos : Nat → Int32} {m_seconds : Nat → Int32} {m_firsts : Nat → Int32} {m_doubles : Int32} {m_doubleTickets : Nat → Int32} {m_doubleReaders : Nat → Int32} {m_doubleSeconds : Nat → Int32} {m_digits : Nat → Int32} {o_ : Nat → Int64} (hL : L ≤ 3072) (hj : 6 * j + 6 ≤ L) (e4 : l_4 = nI (6 * j)) (hI : INV x_slots_places x_slots_above x_slots_below x_slots_most x_slots_sold x_slots_made x_tickets_slot x_tickets_guests x_tickets_kind x_tickets_returned x_tickets_made x_requests_slot x_requests_guests x_requests_kind x_requests_ticket x_requests_made x_requests_served x_chances_ways x_tariff_text x_tariff_length x_tariff_prices x_tariff_percents x_tariff_clauses x_tariff_newPrices x_tariff_newPercents x_tariff_newClauses x_tariff_state x_tariff_subject x_tariff_number x_tariff_digits x_doors_seconds x_doors_order x_doors_firstIn x_doors_doubles x_doors_found x_doors_goneOut m_thrown m_slots m_places m_aboves m_belows m_riskAboves m_riskBelows m_tickets m_slotOf m_guests m_kinds m_returned m_outs m_requests m_requestSlots m_requestGuests m_requestKinds m_givens m_length m_text m_clauses m_sorts m_ones m_twos m_found m_readSorts m_readOnes m_readTwos m_seconds m_firsts m_doubles m_doubleTickets m_doubleReaders m_doubleSeconds m_digits o_) (hk : ∀ (x_slots_places : Nat → Int32) (x_slots_above : Nat → Int32) (x_slots_below : Nat → Int32) (x_slots_most : Nat → Int32) (x_slots_sold : Nat → Int32) (x_slots_made : Int32) (x_tickets_slot : Nat → Int32) (x_tickets_guests : Nat → Int32) (x_tickets_kind : Nat → Int32) (x_tickets_returned : Nat → Int32) (x_tickets_made : Int32) (x_requests_slot : Nat → Int32) (x_requests_guests : Nat → Int32) (x_requests_kind : Nat → Int32) (x_requests_ticket : Nat → Int32) (x_requests_made : Int32) (x_requests_served : Int32) (x_chances_ways : Nat → Int64) (x_tariff_text : Nat → Int32) (x_tariff_length : Int32) (x_tariff_prices : Nat → Int32) (x_tariff_percents : Nat → Int32) (x_tariff_clauses : Int32) (x_tariff_newPrices : Nat → Int32) (x_tariff_newPercents : Nat → Int32) (x_tariff_newClauses : Int32) (x_tariff_state : Int32) (x_tariff_subject : Int32) (x_tariff_number : Int32) (x_tariff_digits : Int32) (x_doors_seconds : Nat → Int32) (x_doors_order : Nat → Int32) (x_doors_firstIn : Nat → Int32) (x_doors_doubles : Nat → Int32) (x_doors_found : Int32) (x_doors_goneOut : Nat → Int32) (m_thrown : Int32) (m_slots : Int32) (m_places : Nat → Int32) (m_aboves : Nat → Int32) (m_belows : Nat → Int32) (m_riskAboves : Nat → Int32) (m_riskBelows : Nat → Int32) (m_tickets : Int32) (m_slotOf : Nat → Int32) (m_guests : Nat → Int32) (m_kinds : Nat → Int32) (m_returned : Nat → Int32) (m_outs : Nat → Int32) (m_requests : Int32) (m_requestSlots : Nat → Int32) (m_requestGuests : Nat → Int32) (m_requestKinds : Nat → Int32) (m_givens : Nat → Int32) (m_length : Int32) (m_text : Nat → Int32) (m_clauses : Int32) (m_sorts : Nat → Int32) (m_ones : Nat → Int32) (m_twos : Nat → Int32) (m_found : Int32) (m_readSorts : Nat → Int32) (m_readOnes : Nat → Int32) (m_readTwos : Nat → Int32) (m_seconds : Nat → Int32) (m_firsts : Nat → Int32) (m_doubles : Int32) (m_doubleTickets : Nat → Int32) (m_doubleReaders : Nat → Int32) (m_doubleSeconds : Nat → Int32) (m_digits : Nat → Int32) (o_ : Nat → Int64), INV x_slots_places x_slots_above x_slots_below x_slots_most x_slots_sold x_slots_made x_tickets_slot x_tickets_guests x_tickets_kind x_tickets_returned x_tickets_made x_requests_slot x_requests_guests x_requests_kind x_requests_ticket x_requests_made x_requests_served x_chances_ways x_tariff_text x_tariff_length x_tariff_prices x_tariff_percents x_tariff_clauses x_tariff_newPrices x_tariff_newPercents x_tariff_newClauses x_tariff_state x_tariff_subject x_tariff_number x_tariff_digits x_doors_seconds x_doors_order x_doors_firstIn x_doors_doubles x_doors_found x_doors_goneOut m_thrown m_slots m_places m_aboves m_belows m_riskAboves m_riskBelows m_tickets m_slotOf m_guests m_kinds m_returned m_outs m_requests m_requestSlots m_requestGuests m_requestKinds m_givens m_length m_text m_clauses m_sorts m_ones m_twos m_found m_readSorts m_readOnes m_readTwos m_seconds m_firsts m_doubles m_doubleTickets m_doubleReaders m_doubleSeconds m_digits o_ → k_ (l_4 + (6 : Int32)) x_slots_places x_slots_above x_slots_below x_slots_most x_slots_sold x_slots_made x_tickets_slot x_tickets_guests x_tickets_kind x_tickets_returned x_tickets_made x_requests_slot x_requests_guests x_requests_kind x_requests_ticket x_requests_made x_requests_served x_chances_ways x_tariff_text x_tariff_length x_tariff_prices x_tariff_percents x_tariff_clauses x_tariff_newPrices x_tariff_newPercents x_tariff_newClauses x_tariff_state x_tariff_subject x_tariff_number x_tariff_digits x_doors_seconds x_doors_order x_doors_firstIn x_doors_doubles x_doors_found x_doors_goneOut m_thrown m_slots m_places m_aboves m_belows m_riskAboves m_riskBelows m_tickets m_slotOf m_guests m_kinds m_returned m_outs m_requests m_requestSlots m_requestGuests m_requestKinds m_givens m_length m_text m_clauses m_sorts m_ones m_twos m_found m_readSorts m_readOnes m_readTwos m_seconds m_firsts m_doubles m_doubleTickets m_doubleReaders m_doubleSeconds m_digits o_) : wp_L_law_970 L xs k_ l_4 x_slots_places x_slots_above x_slots_below x_slots_most x_slots_sold x_slots_made x_tickets_slot x_tickets_guests x_tickets_kind x_tickets_returned x_tickets_made x_requests_slot x_requests_guests x_requests_kind x_requests_ticket x_requests_made x_requests_served x_chances_ways x_tariff_text x_tariff_length x_tariff_prices x_tariff_percents x_tariff_clauses x_tariff_newPrices x_tariff_newPercents x_tariff_newClauses x_tariff_state x_tariff_subject x_tariff_number x_tariff_digits x_doors_seconds x_doors_order x_doors_firstIn x_doors_doubles x_doors_found x_doors_goneOut m_thrown m_slots m_places m_aboves m_belows m_riskAboves m_riskBelows m_tickets m_slotOf m_guests m_kinds m_returned m_outs m_requests m_requestSlots m_requestGuests m_requestKinds m_givens m_length m_text m_clauses m_sorts m_ones m_twos m_found m_readSorts m_readOnes m_readTwos m_seconds m_firsts m_doubles m_doubleTickets m_doubleReaders m_doubleSeconds m_digits o_ := by
  obtain ⟨nS, nT, nR, sl, gu, ki, re, hS, hT, hSo, hR, hX, hU, hD⟩ := hI
  obtain ⟨v0, v1, v2, v3, v4, v5⟩ := script_in hL hj e4
  obtain ⟨t1, t2, t3, t4, t5, t6⟩ := id hT
  obtain ⟨d1, d2, d3, d4, d5, nD, n1, n2, n3, n4⟩ := id hD
  obtain ⟨-, -, q3⟩ := IT_r hT
  have fx1 : ∀ x : Int32, x = l_4 + (6 : Int32) → k_ x x_slots_places x_slots_above x_slots_below x_slots_most x_slots_sold x_slots_made x_tickets_slot x_tickets_guests x_tickets_kind x_tickets_returned x_tickets_made x_requests_slot x_requests_guests x_requests_kind x_requests_ticket x_requests_made x_requests_served x_chances_ways x_tariff_text x_tariff_length x_tariff_prices x_tariff_percents x_tariff_clauses x_tariff_newPrices x_tariff_newPercents x_tariff_newClauses x_tariff_state x_tariff_subject x_tariff_number x_tariff_digits x_doors_seconds x_doors_order x_doors_firstIn x_doors_doubles x_doors_found x_doors_goneOut 1 m_slots m_places m_aboves m_belows m_riskAboves m_riskBelows m_tickets m_slotOf m_guests m_kinds m_returned m_outs m_requests m_requestSlots m_requestGuests m_requestKinds m_givens m_length m_text m_clauses m_sorts m_ones m_twos m_found m_readSorts m_readOnes m_readTwos m_seconds m_firsts m_doubles m_doubleTickets m_doubleReaders m_doubleSeconds m_digits o_ := fun x hx => by
    subst hx
    exact hk _ _ _ _ _ _ _ _ _ _ _ _ _ _ _ _ _ _ _ _ _ _ _ _ _ _ _ _ _ _ _ _ _ _ _ _ _ _ _ _ _ _ _ _ _ _ _ _ _ _ _ _ _ _ _ _ _ _ _ _ _ _ _ _ _ _ _ _ _ _ _ _ ⟨nS, nT, nR, sl, gu, ki, re, hS, hT, hSo, hR, hX, hU, hD⟩
  have fx2 : ∀ x : Int32, x = l_4 + (6 : Int32) → k_ x x_slots_places x_slots_above x_slots_below x_slots_most x_slots_sold x_slots_made x_tickets_slot x_tickets_guests x_tickets_kind x_tickets_returned x_tickets_made x_requests_slot x_requests_guests x_requests_kind x_requests_ticket x_requests_made x_requests_served x_chances_ways x_tariff_text x_tariff_length x_tariff_prices x_tariff_percents x_tariff_clauses x_tariff_newPrices x_tariff_newPercents x_tariff_newClauses x_tariff_state x_tariff_subject x_tariff_number x_tariff_digits x_doors_seconds x_doors_order x_doors_firstIn x_doors_doubles x_doors_found x_doors_goneOut 2 m_slots m_places m_aboves m_belows m_riskAboves m_riskBelows m_tickets m_slotOf m_guests m_kinds m_returned m_outs m_requests m_requestSlots m_requestGuests m_requestKinds m_givens m_length m_text m_clauses m_sorts m_ones m_twos m_found m_readSorts m_readOnes m_readTwos m_seconds m_firsts m_doubles m_doubleTickets m_doubleReaders m_doubleSeconds m_digits o_ := fun x hx => by
    subst hx
    exact hk _ _ _ _ _ _ _ _ _ _ _ _ _ _ _ _ _ _ _ _ _ _ _ _ _ _ _ _ _ _ _ _ _ _ _ _ _ _ _ _ _ _ _ _ _ _ _ _ _ _ _ _ _ _ _ _ _ _ _ _ _ _ _ _ _ _ _ _ _ _ _ _ ⟨nS, nT, nR, sl, gu, ki, re, hS, hT, hSo, hR, hX, hU, hD⟩
  have slx : ∀ t, t < nT → ∃ k : Nat, k < 8 ∧ x_tickets_slot t = nI k := fun t ht => ⟨sl t, by have := (t4 t ht).1; have := hS.1; omega, (t4 t ht).2.2.2.2.1⟩
  have slm : ∀ t, t < nT → ∃ k : Nat, k < 8 ∧ m_slotOf t = nI k := fun t ht => ⟨sl t, by have := (t4 t ht).1; have := hS.1; omega, (t4 t ht).2.2.2.2.2.1⟩
  have same : ∀ {n n' : Nat} {a : Int32}, n < 2 ^ 31 → n' < 2 ^ 31 → a = nI n → a = nI n' → n = n' := fun h h' e e' => (nI_eq h h').mp (e.symm.trans e')
  have ns : ∀ {s : Nat} {a : Int32}, s ≤ 100000 → a = nI s → ¬ (a < 0 ∨ (100000 : Int32) < a) := by
    intro s a hs e h
    rcases h with h | h
    · rw [e] at h; exact nI_pos (by omega) h
    · rw [e, show (100000 : Int32) = nI 100000 from rfl, ltn (by omega) (by omega)] at h; omega
  have nbb : ∀ {r t : Nat} {a b : Int32}, (bad a 6 ∨ bad b nT) → r < 6 → t < nT → a = nI r → b = nI t → False := by
    intro r t a b h hr ht er et
    rcases h with h | h
    · rw [er] at h; exact nbad hr (by omega) h
    · rw [et] at h; exact nbad ht (by omega) h
  refine ⟨v1, v2, v3, sx_read t1 t2 slx (fun hb => Or.inr ⟨rfl, v1, v2, v3, sm_read t1 t3 slm (fun _ => fin_x (by decide) fx1) (fun a b => (hb.elim a b).elim) (fun r t k s hr ht _ _ er et => (nbb hb hr ht er et).elim)⟩) (fun a b hb => Or.inl ⟨rfl, v1, v2, v3, sm_read t1 t3 slm (fun h => (h.elim a b).elim) (fun _ _ _ => fin_x (by decide) fx2) (fun r t k s _ _ _ hs _ _ _ es => (ns hs es hb).elim)⟩) (fun r t k s hr ht hk0 hs er et ek es => ⟨out0, fun f ef => ⟨v1, v2, v3, sm_read t1 t3 slm (fun h => (nbb h hr ht er et).elim) (fun _ _ h => (ns hs es h).elim) (fun r' t' k' s' hr' ht' hk' hs' er' et' ek' es' => ?_)⟩⟩)⟩
  obtain rfl := same (by omega) (by omega) er er'
  obtain rfl := same (by omega) (by omega) et et'
  obtain rfl := same (by omega) (by omega) es es'
  obtain ⟨-, -, -, -, a1, a2, -⟩ := t4 t ht
  obtain rfl : k = sl t := same (by omega) (by have := (t4 t ht).1; have := hS.1; omega) ek a1
  obtain rfl : k' = sl t := same (by omega) (by have := (t4 t ht).1; have := hS.1; omega) ek' a2
  subst ef
  rw [← q3 t ht, ← (d1 t r (by omega) hr).1]
  refine fin_0 (fin_o rfl (fun x hx => ?_))
  subst hx
  by_cases h1 : rdc (x_doors_seconds (6 * t + r)) (x_tickets_returned t) (3600 * sl t) s = 1
  · have hq : x_doors_seconds (6 * t + r) = -1 := by
      by_cases z : x_doors_seconds (6 * t + r) = -1
      · exact z
      · simp [rdc, z] at h1
    unfold rda
    rw [if_pos h1, if_pos h1]
    refine hk _ _ _ _ _ _ _ _ _ _ _ _ _ _ _ _ _ _ _ _ _ _ _ _ _ _ _ _ _ _ _ _ _ _ _ _ _ _ _ _ _ _ _ _ _ _ _ _ _ _ _ _ _ _ _ _ _ _ _ _ _ _ _ _ _ _ _ _ _ _ _ _ ⟨nS, nT, nR, sl, gu, ki, re, hS, hT, hSo, hR, hX, hU, fun t' r' ht' hr' => ?_, fun t' r' ht' h60 hr' => ?_, d3, fun t' ht' h => d4 t' ht' (fun r' hr' => ?_), d5, nD, n1, n2, n3, fun k hk0 => ?_⟩
    · by_cases e : t' = t ∧ r' = r
      · obtain ⟨rfl, rfl⟩ := e
        rw [upd_s, upd_s]
        exact ⟨rfl, Or.inr ⟨s, hs, es⟩⟩
      · rw [upd_n (show 6 * t' + r' ≠ 6 * t + r by omega), upd_n (show 60 * r' + t' ≠ 60 * r + t by omega)]
        exact d1 t' r' ht' hr'
    · rw [upd_n (show 60 * r' + t' ≠ 60 * r + t by omega)]
      exact d2 t' r' ht' h60 hr'
    · by_cases e : 60 * r' + t' = 60 * r + t
      · rw [e, ← (d1 t r (by omega) hr).1]; exact hq
      · have := h r' hr'
        rw [upd_n e] at this
        exact this
    · obtain ⟨t', r', b1, b2, b3, b4, b5, b6, b7⟩ := n4 k hk0
      have hne : 60 * r' + t' ≠ 60 * r + t := by
        intro e
        rw [e, ← (d1 t r (by omega) hr).1] at b7
        exact b7 hq
      exact ⟨t', r', b1, b2, b3, b4, b5, by rw [upd_n hne]; exact b6, by rw [upd_n hne]; exact b7⟩
  · unfold rda
    rw [if_neg h1, if_neg h1]
    exact hk _ _ _ _ _ _ _ _ _ _ _ _ _ _ _ _ _ _ _ _ _ _ _ _ _ _ _ _ _ _ _ _ _ _ _ _ _ _ _ _ _ _ _ _ _ _ _ _ _ _ _ _ _ _ _ _ _ _ _ _ _ _ _ _ _ _ _ _ _ _ _ _ ⟨nS, nT, nR, sl, gu, ki, re, hS, hT, hSo, hR, hX, hU, hD⟩
