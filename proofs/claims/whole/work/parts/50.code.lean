theorem sx_code {post : Int32 → Unit → Prop} {px : String → Prop} {a b v : Int32} {sl : Nat → Int32} {n : Nat} (hn : n ≤ 60) (e : v = nI n) (h0 : (bad a n ∨ bad b 6) → px "java/lang/IndexOutOfBoundsException") (h1 : ∀ t i, t < n → i < 6 → a = nI t → b = nI i → ∃ s, s < 8 ∧ sl t = nI s ∧ post (nI (cod t s / 10 ^ (5 - i) % 10)) ()) : wp_X_code post px a b sl v := by
  refine sx_needTicket (by omega) e (fun h => h0 (Or.inl h)) (fun t ht et => sx_ix (v := 6) (n := 6) (by omega) rfl (fun h => h0 (Or.inr h)) (fun i hi ei => ?_))
  subst et; subst ei
  obtain ⟨s, hs, es, h⟩ := h1 t i ht hi rfl rfl
  have hc := cod_lt t s
  exact sx_codeOf (by omega) hs es (sx_digitOf (by omega) (p := 5 - i) (by omega) (nI_l (by omega)) (pk_sub (a := 5) (by omega)) h)
theorem sm_codeL {post : Int32 → Int32 → Prop} {th v : Int32} {sl : Nat → Int32} {t s i : Nat} (ht : t < 60) (hs : s < 8) (es : sl t = nI s) (hi : i ≤ 5) (h : post (nI (cod t s / 10 ^ (5 - i) % 10)) th) : ∀ (d k : Nat), k + d = 5 → i ≤ k → wp_M_code_38 post v sl (d + 1) (nI t) (nI (10 ^ (k - i))) (nI k) th := by
  intro d
  induction d with
  | zero =>
    intro k hk hik
    obtain rfl : k = 5 := by omega
    have hp : 10 ^ (5 - i) ≤ 10 ^ 5 := Nat.pow_le_pow_right (by omega) (by omega)
    have hp0 : 0 < 10 ^ (5 - i) := Nat.pow_pos (by omega)
    have hc := cod_lt t s
    refine ⟨fun _ => sm_codeOf ht hs es ⟨nI_ne0 hp0 (by omega), ?_⟩, fun q => absurd (nI_le (a := 5) (b := 5) (Nat.le_refl _) (by omega)) q⟩
    rw [pk_div (by omega) hp0 (by omega)]
    have hq : cod t s / 10 ^ (5 - i) < 2 ^ 31 := Nat.lt_of_le_of_lt (Nat.div_le_self _ _) (by omega)
    rw [show nI (cod t s / 10 ^ (5 - i)) - nI (cod t s / 10 ^ (5 - i)) / (10 : Int32) * (10 : Int32) = nI (cod t s / 10 ^ (5 - i) % 10) from pk_rem (d := 10) hq (by omega) (by omega)]
    exact h
  | succ d ih =>
    intro k hk hik
    refine ⟨fun q => absurd q (nI_ge (b := 5) (by omega) (by omega)), fun _ x ex y ey => ?_⟩
    rw [show (10 : Int32) = nI 10 from rfl, pk_mul, ← Nat.pow_succ, show (k - i).succ = k + 1 - i by omega] at ex
    rw [ex, ey, nI_1]
    exact ih (k + 1) (by omega) (by omega)
theorem sm_code22 {post : Int32 → Int32 → Prop} {a b th v : Int32} {s : Nat → Int32} (h : post 0 1) : wp_M_code_22 post v s a b th := by
  unfold wp_M_code_22 wp_M_code_23
  exact sm_goes1 ⟨fun _ => h, fun z => absurd rfl z⟩
theorem sm_code {post : Int32 → Int32 → Prop} {a b v th : Int32} {sl : Nat → Int32} {n : Nat} (hn : n ≤ 60) (e : v = nI n) (h0 : (bad a n ∨ bad b 6) → post 0 1) (h1 : ∀ t i, t < n → i < 6 → a = nI t → b = nI i → ∃ s, s < 8 ∧ sl t = nI s ∧ post (nI (cod t s / 10 ^ (5 - i) % 10)) 0) : wp_M_code post a b th v sl := by
  refine sm_isTicket (by omega) e (fun h => ⟨fun _ => sm_code22 (h0 (Or.inl h)), fun z => absurd rfl z⟩) (fun t ht et => ⟨fun z => absurd z (by decide), fun _ => sm_lit 6 (by omega) (by decide) (fun h => ⟨fun _ => sm_code22 (h0 (Or.inr h)), fun z => absurd rfl z⟩) (fun i hi ei => ⟨fun z => absurd z (by decide), fun _ => sm_goes0 ⟨fun z => absurd z (by decide), fun _ => ?_⟩⟩)⟩)
  subst et; subst ei
  obtain ⟨s, hs, es, h⟩ := h1 t i ht hi rfl rfl
  have := sm_codeL (v := v) (by omega) hs es (by omega) h (5 - i) i (by omega) (Nat.le_refl _)
  rw [Nat.sub_self] at this
  exact ⟨5 - i + 1, this⟩
set_option maxHeartbeats 1000000 in
theorem case_877 {L j : Nat} {xs : Nat → Int32} {k_ : Int32 → (Nat → Int32) → (Nat → Int32) → (Nat → Int32) → (Nat → Int32) → (Nat → Int32) → Int32 → (Nat → Int32) → (Nat → Int32) → (Nat → Int32) → (Nat → Int32) → Int32 → (Nat → Int32) → (Nat → Int32) → (Nat → Int32) → (Nat → Int32) → Int32 → Int32 → (Nat → Int64) → (Nat → Int32) → Int32 → (Nat → Int32) → (Nat → Int32) → Int32 → (Nat → Int32) → (Nat → Int32) → Int32 → Int32 → Int32 → Int32 → Int32 → (Nat → Int32) → (Nat → Int32) → (Nat → Int32) → (Nat → Int32) → Int32 → (Nat → Int32) → Int32 → Int32 → (Nat → Int32) → (Nat → Int32) → (Nat → Int32) → (Nat → Int32) → (Nat → Int32) → Int32 → (Nat → Int32) → (Nat → Int32) → (Nat → Int32) → (Nat → Int32) → (Nat → Int32) → Int32 → (Nat → Int32) → (Nat → Int32) → (Nat → Int32) → (Nat → Int32) → Int32 → (Nat → Int32) → Int32 → (Nat → Int32) → (Nat → Int32) → (Nat → Int32) → Int32 → (Nat → Int32) → (Nat → Int32) → (Nat → Int32) → (Nat → Int32) → (Nat → Int32) → Int32 → (Nat → Int32) → (Nat → Int32) → (Nat → Int32) → (Nat → Int32) → (Nat → Int64) → Prop} {l_4 : Int32} {x_slots_places : Nat → Int32} {x_slots_above : Nat → Int32} {x_slots_below : Nat → Int32} {x_slots_most : Nat → Int32} {x_slots_sold : Nat → Int32} {x_slots_made : Int32} {x_tickets_slot : Nat → Int32} {x_tickets_guests : Nat → Int32} {x_tickets_kind : Nat → Int32} {x_tickets_returned : Nat → Int32} {x_tickets_made : Int32} {x_requests_slot : Nat → Int32} {x_requests_guests : Nat → Int32} {x_requests_kind : Nat → Int32} {x_requests_ticket : Nat → Int32} {x_requests_made : Int32} {x_requests_served : Int32} {x_chances_ways : Nat → Int64} {x_tariff_text : Nat → Int32} {x_tariff_length : Int32} {x_tariff_prices : Nat → Int32} {x_tariff_percents : Nat → Int32} {x_tariff_clauses : Int32} {x_tariff_newPrices : Nat → Int32} {x_tariff_newPercents : Nat → Int32} {x_tariff_newClauses : Int32} {x_tariff_state : Int32} {x_tariff_subject : Int32} {x_tariff_number : Int32} {x_tariff_digits : Int32} {x_doors_seconds : Nat → Int32} {x_doors_order : Nat → Int32} {x_doors_firstIn : Nat → Int32} {x_doors_doubles : Nat → Int32} {x_doors_found : Int32} {x_doors_goneOut : Nat → Int32} {m_thrown : Int32} {m_slots : Int32} {m_places : Nat → Int32} {m_aboves : Nat → Int32} {m_belows : Nat → Int32} {m_riskAboves : Nat → Int32} {m_riskBelows : Nat → Int32} {m_tickets : Int32} {m_slotOf : Nat → Int32} {m_guests : Nat → Int32} {m_kinds : Nat → Int32} {m_returned : Nat → Int32} {m_outs : Nat → Int32} {m_requests : Int32} {m_requestSlots : Nat → Int32} {m_requestGuests : Nat → Int32} {m_requestKinds : Nat → Int32} {m_givens : Nat → Int32} {m_length : Int32} {m_text : Nat → Int32} {m_clauses : Int32} {m_sorts : Nat → Int32} {m_ones : Nat → Int32} {m_twos : Nat → Int32} {m_found : Int32} {m_readSorts : Nat → Int32} {m_readOnes : Nat → Int32} {m_readTwos : Nat → Int32} {m_seconds : Nat → Int32} {m_firsts : Nat → Int32} {m_doubles : Int32} {m_doubleTickets : Nat → Int32} {m_doubleReaders : Nat → Int32} {m_doubleSeconds : Nat → Int32} {m_digits : Nat → Int32} {o_ : Nat → Int64} (hL : L ≤ 3072) (hj : 6 * j + 6 ≤ L) (e4 : l_4 = nI (6 * j)) (hI : INV x_slots_places x_slots_above x_slots_below x_slots_most x_slots_sold x_slots_made x_tickets_slot x_tickets_guests x_tickets_kind x_tickets_returned x_tickets_made x_requests_slot x_requests_guests x_requests_kind x_requests_ticket x_requests_made x_requests_served x_chances_ways x_tariff_text x_tariff_length x_tariff_prices x_tariff_percents x_tariff_clauses x_tariff_newPrices x_tariff_newPercents x_tariff_newClauses x_tariff_state x_tariff_subject x_tariff_number x_tariff_digits x_doors_seconds x_doors_order x_doors_firstIn x_doors_doubles x_doors_found x_doors_goneOut m_thrown m_slots m_places m_aboves m_belows m_riskAboves m_riskBelows m_tickets m_slotOf m_guests m_kinds m_returned m_outs m_requests m_requestSlots m_requestGuests m_requestKinds m_givens m_length m_text m_clauses m_sorts m_ones m_twos m_found m_readSorts m_readOnes m_readTwos m_seconds m_firsts m_doubles m_doubleTickets m_doubleReaders m_doubleSeconds m_digits o_) (hk : ∀ (x_slots_places : Nat → Int32) (x_slots_above : Nat → Int32) (x_slots_below : Nat → Int32) (x_slots_most : Nat → Int32) (x_slots_sold : Nat → Int32) (x_slots_made : Int32) (x_tickets_slot : Nat → Int32) (x_tickets_guests : Nat → Int32) (x_tickets_kind : Nat → Int32) (x_tickets_returned : Nat → Int32) (x_tickets_made : Int32) (x_requests_slot : Nat → Int32) (x_requests_guests : Nat → Int32) (x_requests_kind : Nat → Int32) (x_requests_ticket : Nat → Int32) (x_requests_made : Int32) (x_requests_served : Int32) (x_chances_ways : Nat → Int64) (x_tariff_text : Nat → Int32) (x_tariff_length : Int32) (x_tariff_prices : Nat → Int32) (x_tariff_percents : Nat → Int32) (x_tariff_clauses : Int32) (x_tariff_newPrices : Nat → Int32) (x_tariff_newPercents : Nat → Int32) (x_tariff_newClauses : Int32) (x_tariff_state : Int32) (x_tariff_subject : Int32) (x_tariff_number : Int32) (x_tariff_digits : Int32) (x_doors_seconds : Nat → Int32) (x_doors_order : Nat → Int32) (x_doors_firstIn : Nat → Int32) (x_doors_doubles : Nat → Int32) (x_doors_found : Int32) (x_doors_goneOut : Nat → Int32) (m_thrown : Int32) (m_slots : Int32) (m_places : Nat → Int32) (m_aboves : Nat → Int32) (m_belows : Nat → Int32) (m_riskAboves : Nat → Int32) (m_riskBelows : Nat → Int32) (m_tickets : Int32) (m_slotOf : Nat → Int32) (m_guests : Nat → Int32) (m_kinds : Nat → Int32) (m_returned : Nat → Int32) (m_outs : Nat → Int32) (m_requests : Int32) (m_requestSlots : Nat → Int32) (m_requestGuests : Nat → Int32) (m_requestKinds : Nat → Int32) (m_givens : Nat → Int32) (m_length : Int32) (m_text : Nat → Int32) (m_clauses : Int32) (m_sorts : Nat → Int32) (m_ones : Nat → Int32) (m_twos : Nat → Int32) (m_found : Int32) (m_readSorts : Nat → Int32) (m_readOnes : Nat → Int32) (m_readTwos : Nat → Int32) (m_seconds : Nat → Int32) (m_firsts : Nat → Int32) (m_doubles : Int32) (m_doubleTickets : Nat → Int32) (m_doubleReaders : Nat → Int32) (m_doubleSeconds : Nat → Int32) (m_digits : Nat → Int32) (o_ : Nat → Int64), INV x_slots_places x_slots_above x_slots_below x_slots_most x_slots_sold x_slots_made x_tickets_slot x_tickets_guests x_tickets_kind x_tickets_returned x_tickets_made x_requests_slot x_requests_guests x_requests_kind x_requests_ticket x_requests_made x_requests_served x_chances_ways x_tariff_text x_tariff_length x_tariff_prices x_tariff_percents x_tariff_clauses x_tariff_newPrices x_tariff_newPercents x_tariff_newClauses x_tariff_state x_tariff_subject x_tariff_number x_tariff_digits x_doors_seconds x_doors_order x_doors_firstIn x_doors_doubles x_doors_found x_doors_goneOut m_thrown m_slots m_places m_aboves m_belows m_riskAboves m_riskBelows m_tickets m_slotOf m_guests m_kinds m_returned m_outs m_requests m_requestSlots m_requestGuests m_requestKinds m_givens m_length m_text m_clauses m_sorts m_ones m_twos m_found m_readSorts m_readOnes m_readTwos m_seconds m_firsts m_doubles m_doubleTickets m_doubleReaders m_doubleSeconds m_digits o_ → k_ (l_4 + (6 : Int32)) x_slots_places x_slots_above x_slots_below x_slots_most x_slots_sold x_slots_made x_tickets_slot x_tickets_guests x_tickets_kind x_tickets_returned x_tickets_made x_requests_slot x_requests_guests x_requests_kind x_requests_ticket x_requests_made x_requests_served x_chances_ways x_tariff_text x_tariff_length x_tariff_prices x_tariff_percents x_tariff_clauses x_tariff_newPrices x_tariff_newPercents x_tariff_newClauses x_tariff_state x_tariff_subject x_tariff_number x_tariff_digits x_doors_seconds x_doors_order x_doors_firstIn x_doors_doubles x_doors_found x_doors_goneOut m_thrown m_slots m_places m_aboves m_belows m_riskAboves m_riskBelows m_tickets m_slotOf m_guests m_kinds m_returned m_outs m_requests m_requestSlots m_requestGuests m_requestKinds m_givens m_length m_text m_clauses m_sorts m_ones m_twos m_found m_readSorts m_readOnes m_readTwos m_seconds m_firsts m_doubles m_doubleTickets m_doubleReaders m_doubleSeconds m_digits o_) : wp_L_law_877 L xs k_ l_4 x_slots_places x_slots_above x_slots_below x_slots_most x_slots_sold x_slots_made x_tickets_slot x_tickets_guests x_tickets_kind x_tickets_returned x_tickets_made x_requests_slot x_requests_guests x_requests_kind x_requests_ticket x_requests_made x_requests_served x_chances_ways x_tariff_text x_tariff_length x_tariff_prices x_tariff_percents x_tariff_clauses x_tariff_newPrices x_tariff_newPercents x_tariff_newClauses x_tariff_state x_tariff_subject x_tariff_number x_tariff_digits x_doors_seconds x_doors_order x_doors_firstIn x_doors_doubles x_doors_found x_doors_goneOut m_thrown m_slots m_places m_aboves m_belows m_riskAboves m_riskBelows m_tickets m_slotOf m_guests m_kinds m_returned m_outs m_requests m_requestSlots m_requestGuests m_requestKinds m_givens m_length m_text m_clauses m_sorts m_ones m_twos m_found m_readSorts m_readOnes m_readTwos m_seconds m_firsts m_doubles m_doubleTickets m_doubleReaders m_doubleSeconds m_digits o_ := by
  obtain ⟨nS, nT, nR, sl, gu, ki, re, hS, hT, hSo, hR, hX, hU, hD⟩ := hI
  obtain ⟨v0, v1, v2, v3, v4, v5⟩ := script_in hL hj e4
  obtain ⟨s1, -, -, -, -⟩ := id hS
  obtain ⟨t1, t2, t3, t4, t5, t6⟩ := id hT
  have fx1 : ∀ x : Int32, x = l_4 + (6 : Int32) → k_ x x_slots_places x_slots_above x_slots_below x_slots_most x_slots_sold x_slots_made x_tickets_slot x_tickets_guests x_tickets_kind x_tickets_returned x_tickets_made x_requests_slot x_requests_guests x_requests_kind x_requests_ticket x_requests_made x_requests_served x_chances_ways x_tariff_text x_tariff_length x_tariff_prices x_tariff_percents x_tariff_clauses x_tariff_newPrices x_tariff_newPercents x_tariff_newClauses x_tariff_state x_tariff_subject x_tariff_number x_tariff_digits x_doors_seconds x_doors_order x_doors_firstIn x_doors_doubles x_doors_found x_doors_goneOut 1 m_slots m_places m_aboves m_belows m_riskAboves m_riskBelows m_tickets m_slotOf m_guests m_kinds m_returned m_outs m_requests m_requestSlots m_requestGuests m_requestKinds m_givens m_length m_text m_clauses m_sorts m_ones m_twos m_found m_readSorts m_readOnes m_readTwos m_seconds m_firsts m_doubles m_doubleTickets m_doubleReaders m_doubleSeconds m_digits o_ := fun x hx => by
    subst hx
    exact hk _ _ _ _ _ _ _ _ _ _ _ _ _ _ _ _ _ _ _ _ _ _ _ _ _ _ _ _ _ _ _ _ _ _ _ _ _ _ _ _ _ _ _ _ _ _ _ _ _ _ _ _ _ _ _ _ _ _ _ _ _ _ _ _ _ _ _ _ _ _ _ _ ⟨nS, nT, nR, sl, gu, ki, re, hS, hT, hSo, hR, hX, hU, hD⟩
  have nbb : ∀ {r t : Nat} {a b : Int32}, (bad a nT ∨ bad b 6) → r < nT → t < 6 → a = nI r → b = nI t → False := by
    intro r t a b h hr ht er et
    rcases h with h | h
    · rw [er] at h; exact nbad hr (by omega) h
    · rw [et] at h; exact nbad ht (by omega) h
  refine ⟨v1, v2, sx_code t1 t2 (fun hb => ⟨rfl, v1, v2, sm_code t1 t3 (fun _ => fin_x (by decide) fx1) (fun t i ht hi et ei => (nbb hb ht hi et ei).elim)⟩) (fun t i ht hi et ei => ?_)⟩
  obtain ⟨g0, g1, g2, g3, gx, gm, g4, g5, g6, g7⟩ := t4 t ht
  refine ⟨sl t, by omega, gx, out0, fun f ef => ⟨v1, v2, sm_code t1 t3 (fun hb => (nbb hb ht hi et ei).elim) (fun t' i' ht' hi' et' ei' => ?_)⟩⟩
  obtain rfl : t = t' := (nI_eq (by omega) (by omega)).mp (et.symm.trans et')
  obtain rfl : i = i' := (nI_eq (by omega) (by omega)).mp (ei.symm.trans ei')
  refine ⟨sl t, by omega, gm, ?_⟩
  subst ef
  refine fin_0 (fin_o rfl (fun x hx => ?_))
  subst hx
  exact hk _ _ _ _ _ _ _ _ _ _ _ _ _ _ _ _ _ _ _ _ _ _ _ _ _ _ _ _ _ _ _ _ _ _ _ _ _ _ _ _ _ _ _ _ _ _ _ _ _ _ _ _ _ _ _ _ _ _ _ _ _ _ _ _ _ _ _ _ _ _ _ _ ⟨nS, nT, nR, sl, gu, ki, re, hS, hT, hSo, hR, hX, hU, hD⟩
-- whose
def lowest (cd : Nat → Nat) (c : Int32) : Nat → Nat → Int32
  | 0, _ => -1
  | d + 1, i => if nI (cd i) = c then nI i else lowest cd c d (i + 1)
theorem sx_findL {post : Int32 → Unit → Prop} {a : Int32} {xs : Nat → Int32} {sl : Nat → Nat} {n : Nat} (hn : n ≤ 60) (hs : ∀ t, t < n → sl t < 8 ∧ xs t = nI (sl t)) (h : post (lowest (fun t => cod t (sl t)) a n 0) ()) : ∀ (d i : Nat), i + d = n → lowest (fun t => cod t (sl t)) a n 0 = lowest (fun t => cod t (sl t)) a d i → wp_XT_find_2 post xs (nI n) (d + 1) a (nI i) := by
  intro d
  induction d with
  | zero =>
    intro i hi e
    obtain rfl : i = n := by omega
    refine ⟨fun _ => ?_, fun q => absurd (nI_le (Nat.le_refl _) (by omega)) q⟩
    rw [e] at h
    exact h
  | succ d ih =>
    intro i hi e
    refine ⟨fun q => absurd q (nI_ge (by omega) (by omega)), fun _ => sx_codeOf (by omega) (hs i (by omega)).1 (hs i (by omega)).2 ⟨fun q => ?_, fun q x ex => ?_⟩⟩
    · rw [e, lowest, if_pos q] at h
      exact h
    · rw [lowest, if_neg q] at e
      rw [ex, nI_1]
      exact ih (i + 1) (by omega) e
theorem low_none {cd : Nat → Nat} {c : Int32} : ∀ (d i : Nat), (∀ t, t < i + d → ¬ nI (cd t) = c) → lowest cd c d i = -1
  | 0, _, _ => rfl
  | d + 1, i, h => by rw [lowest, if_neg (h i (by omega)), low_none d (i + 1) (fun t ht => h t (by omega))]
theorem cod_chk (t s : Nat) : cod t s % 10 = chk (cod t s / 10) := by
  have := chk_lt (num t s)
  have e : cod t s / 10 = num t s := by unfold cod; omega
  rw [e]
  unfold cod; omega
theorem sx_whose {post : Int32 → Unit → Prop} {a v : Int32} {xs : Nat → Int32} {sl : Nat → Nat} {n : Nat} (hn : n ≤ 60) (e : v = nI n) (hs : ∀ t, t < n → sl t < 8 ∧ xs t = nI (sl t)) (h : post (lowest (fun t => cod t (sl t)) a n 0) ()) : wp_X_whose post a xs v := by
  subst e
  have no : (∀ t s, ¬ nI (cod t s) = a) → post (-1) () := fun q => by
    rw [low_none n 0 (fun t _ => q t (sl t))] at h
    exact h
  refine ⟨fun q => no (fun t s z => ?_), fun q => ⟨fun q2 => no (fun t s z => ?_), fun q2 => ?_⟩⟩
  · have := cod_lt t s
    rw [← z] at q
    exact nI_pos (by omega) q
  · have := cod_lt t s
    rw [← z] at q2
    exact nI_nlt (a := 999999) (b := cod t s) (by omega) (by omega) q2
  · obtain ⟨k, -, hk, ek⟩ := rng (a := a) (lo := 0) (hi := 999999) (by omega) q q2 (by omega)
    subst ek
    have e1 : nI k / (10 : Int32) = nI (k / 10) := pk_div (a := k) (d := 10) (by omega) (by omega) (by omega)
    have e2 : nI k - nI k / (10 : Int32) * (10 : Int32) = nI (k % 10) := pk_rem (a := k) (d := 10) (by omega) (by omega) (by omega)
    refine sx_checkOf (n := k / 10) (by omega) e1 ?_
    rw [e2]
    refine ⟨fun _ => ⟨n + 1, sx_findL hn hs h n 0 (by omega) rfl⟩, fun z => no (fun t s y => z ?_)⟩
    have := cod_lt t s
    obtain rfl := (nI_eq (by omega) (by omega)).mp y
    rw [cod_chk]
theorem sm_whoseL {post : Int32 → Int32 → Prop} {a th v : Int32} {ms : Nat → Int32} {sl : Nat → Nat} {n : Nat} (hn : n ≤ 60) (hs : ∀ t, t < n → sl t < 8 ∧ ms t = nI (sl t)) (h : post (lowest (fun t => cod t (sl t)) a n 0) th) : ∀ (i : Nat), i ≤ n → wp_M_whose_14 post v ms (i + 1) a (lowest (fun t => cod t (sl t)) a (n - i) i) (nI i - 1) th := by
  intro i
  induction i with
  | zero =>
    intro _
    exact ⟨fun _ => h, fun q => absurd (by decide) q⟩
  | succ i ih =>
    intro hi
    have IH := ih (by omega)
    rw [show n - i = (n - (i + 1)) + 1 by omega, lowest] at IH
    rw [nI_pred]
    refine ⟨fun q => absurd q (nI_pos (by omega)), fun _ => sm_codeOf (by omega) (hs i (by omega)).1 (hs i (by omega)).2 ⟨fun q x ex => ?_, fun q x ex => ?_⟩⟩
    · rw [if_pos q] at IH
      rw [ex, ← Int32.sub_eq_add_neg]
      exact IH
    · rw [if_neg q] at IH
      rw [ex, ← Int32.sub_eq_add_neg]
      exact IH
theorem sm_whose {post : Int32 → Int32 → Prop} {a th v : Int32} {ms : Nat → Int32} {sl : Nat → Nat} {n : Nat} (hn : n ≤ 60) (e : v = nI n) (hs : ∀ t, t < n → sl t < 8 ∧ ms t = nI (sl t)) (h : post (lowest (fun t => cod t (sl t)) a n 0) 0) : wp_M_whose post a th v ms := by
  subst e
  intro x ex
  subst ex
  have := sm_whoseL (v := nI n) hn hs h n (Nat.le_refl _)
  rw [Nat.sub_self] at this
  exact ⟨n + 1, this⟩
set_option maxHeartbeats 1000000 in
theorem case_945 {L j : Nat} {xs : Nat → Int32} {k_ : Int32 → (Nat → Int32) → (Nat → Int32) → (Nat → Int32) → (Nat → Int32) → (Nat → Int32) → Int32 → (Nat → Int32) → (Nat → Int32) → (Nat → Int32) → (Nat → Int32) → Int32 → (Nat → Int32) → (Nat → Int32) → (Nat → Int32) → (Nat → Int32) → Int32 → Int32 → (Nat → Int64) → (Nat → Int32) → Int32 → (Nat → Int32) → (Nat → Int32) → Int32 → (Nat → Int32) → (Nat → Int32) → Int32 → Int32 → Int32 → Int32 → Int32 → (Nat → Int32) → (Nat → Int32) → (Nat → Int32) → (Nat → Int32) → Int32 → (Nat → Int32) → Int32 → Int32 → (Nat → Int32) → (Nat → Int32) → (Nat → Int32) → (Nat → Int32) → (Nat → Int32) → Int32 → (Nat → Int32) → (Nat → Int32) → (Nat → Int32) → (Nat → Int32) → (Nat → Int32) → Int32 → (Nat → Int32) → (Nat → Int32) → (Nat → Int32) → (Nat → Int32) → Int32 → (Nat → Int32) → Int32 → (Nat → Int32) → (Nat → Int32) → (Nat → Int32) → Int32 → (Nat → Int32) → (Nat → Int32) → (Nat → Int32) → (Nat → Int32) → (Nat → Int32) → Int32 → (Nat → Int32) → (Nat → Int32) → (Nat → Int32) → (Nat → Int32) → (Nat → Int64) → Prop} {l_4 : Int32} {x_slots_places : Nat → Int32} {x_slots_above : Nat → Int32} {x_slots_below : Nat → Int32} {x_slots_most : Nat → Int32} {x_slots_sold : Nat → Int32} {x_slots_made : Int32} {x_tickets_slot : Nat → Int32} {x_tickets_guests : Nat → Int32} {x_tickets_kind : Nat → Int32} {x_tickets_returned : Nat → Int32} {x_tickets_made : Int32} {x_requests_slot : Nat → Int32} {x_requests_guests : Nat → Int32} {x_requests_kind : Nat → Int32} {x_requests_ticket : Nat → Int32} {x_requests_made : Int32} {x_requests_served : Int32} {x_chances_ways : Nat → Int64} {x_tariff_text : Nat → Int32} {x_tariff_length : Int32} {x_tariff_prices : Nat → Int32} {x_tariff_percents : Nat → Int32} {x_tariff_clauses : Int32} {x_tariff_newPrices : Nat → Int32} {x_tariff_newPercents : Nat → Int32} {x_tariff_newClauses : Int32} {x_tariff_state : Int32} {x_tariff_subject : Int32} {x_tariff_number : Int32} {x_tariff_digits : Int32} {x_doors_seconds : Nat → Int32} {x_doors_order : Nat → Int32} {x_doors_firstIn : Nat → Int32} {x_doors_doubles : Nat → Int32} {x_doors_found : Int32} {x_doors_goneOut : Nat → Int32} {m_thrown : Int32} {m_slots : Int32} {m_places : Nat → Int32} {m_aboves : Nat → Int32} {m_belows : Nat → Int32} {m_riskAboves : Nat → Int32} {m_riskBelows : Nat → Int32} {m_tickets : Int32} {m_slotOf : Nat → Int32} {m_guests : Nat → Int32} {m_kinds : Nat → Int32} {m_returned : Nat → Int32} {m_outs : Nat → Int32} {m_requests : Int32} {m_requestSlots : Nat → Int32} {m_requestGuests : Nat → Int32} {m_requestKinds : Nat → Int32} {m_givens : Nat → Int32} {m_length : Int32} {m_text : Nat → Int32} {m_clauses : Int32} {m_sorts : Nat → Int32} {m_ones : Nat → Int32} {m_twos : Nat → Int32} {m_found : Int32} {m_readSorts : Nat → Int32} {m_readOnes : Nat → Int32} {m_readTwos : Nat → Int32} {m_seconds : Nat → Int32} {m_firsts : Nat → Int32} {m_doubles : Int32} {m_doubleTickets : Nat → Int32} {m_doubleReaders : Nat → Int32} {m_doubleSeconds : Nat → Int32} {m_digits : Nat → Int32} {o_ : Nat → Int64} (hL : L ≤ 3072) (hj : 6 * j + 6 ≤ L) (e4 : l_4 = nI (6 * j)) (hI : INV x_slots_places x_slots_above x_slots_below x_slots_most x_slots_sold x_slots_made x_tickets_slot x_tickets_guests x_tickets_kind x_tickets_returned x_tickets_made x_requests_slot x_requests_guests x_requests_kind x_requests_ticket x_requests_made x_requests_served x_chances_ways x_tariff_text x_tariff_length x_tariff_prices x_tariff_percents x_tariff_clauses x_tariff_newPrices x_tariff_newPercents x_tariff_newClauses x_tariff_state x_tariff_subject x_tariff_number x_tariff_digits x_doors_seconds x_doors_order x_doors_firstIn x_doors_doubles x_doors_found x_doors_goneOut m_thrown m_slots m_places m_aboves m_belows m_riskAboves m_riskBelows m_tickets m_slotOf m_guests m_kinds m_returned m_outs m_requests m_requestSlots m_requestGuests m_requestKinds m_givens m_length m_text m_clauses m_sorts m_ones m_twos m_found m_readSorts m_readOnes m_readTwos m_seconds m_firsts m_doubles m_doubleTickets m_doubleReaders m_doubleSeconds m_digits o_) (hk : ∀ (x_slots_places : Nat → Int32) (x_slots_above : Nat → Int32) (x_slots_below : Nat → Int32) (x_slots_most : Nat → Int32) (x_slots_sold : Nat → Int32) (x_slots_made : Int32) (x_tickets_slot : Nat → Int32) (x_tickets_guests : Nat → Int32) (x_tickets_kind : Nat → Int32) (x_tickets_returned : Nat → Int32) (x_tickets_made : Int32) (x_requests_slot : Nat → Int32) (x_requests_guests : Nat → Int32) (x_requests_kind : Nat → Int32) (x_requests_ticket : Nat → Int32) (x_requests_made : Int32) (x_requests_served : Int32) (x_chances_ways : Nat → Int64) (x_tariff_text : Nat → Int32) (x_tariff_length : Int32) (x_tariff_prices : Nat → Int32) (x_tariff_percents : Nat → Int32) (x_tariff_clauses : Int32) (x_tariff_newPrices : Nat → Int32) (x_tariff_newPercents : Nat → Int32) (x_tariff_newClauses : Int32) (x_tariff_state : Int32) (x_tariff_subject : Int32) (x_tariff_number : Int32) (x_tariff_digits : Int32) (x_doors_seconds : Nat → Int32) (x_doors_order : Nat → Int32) (x_doors_firstIn : Nat → Int32) (x_doors_doubles : Nat → Int32) (x_doors_found : Int32) (x_doors_goneOut : Nat → Int32) (m_thrown : Int32) (m_slots : Int32) (m_places : Nat → Int32) (m_aboves : Nat → Int32) (m_belows : Nat → Int32) (m_riskAboves : Nat → Int32) (m_riskBelows : Nat → Int32) (m_tickets : Int32) (m_slotOf : Nat → Int32) (m_guests : Nat → Int32) (m_kinds : Nat → Int32) (m_returned : Nat → Int32) (m_outs : Nat → Int32) (m_requests : Int32) (m_requestSlots : Nat → Int32) (m_requestGuests : Nat → Int32) (m_requestKinds : Nat → Int32) (m_givens : Nat → Int32) (m_length : Int32) (m_text : Nat → Int32) (m_clauses : Int32) (m_sorts : Nat → Int32) (m_ones : Nat → Int32) (m_twos : Nat → Int32) (m_found : Int32) (m_readSorts : Nat → Int32) (m_readOnes : Nat → Int32) (m_readTwos : Nat → Int32) (m_seconds : Nat → Int32) (m_firsts : Nat → Int32) (m_doubles : Int32) (m_doubleTickets : Nat → Int32) (m_doubleReaders : Nat → Int32) (m_doubleSeconds : Nat → Int32) (m_digits : Nat → Int32) (o_ : Nat → Int64), INV x_slots_places x_slots_above x_slots_below x_slots_most x_slots_sold x_slots_made x_tickets_slot x_tickets_guests x_tickets_kind x_tickets_returned x_tickets_made x_requests_slot x_requests_guests x_requests_kind x_requests_ticket x_requests_made x_requests_served x_chances_ways x_tariff_text x_tariff_length x_tariff_prices x_tariff_percents x_tariff_clauses x_tariff_newPrices x_tariff_newPercents x_tariff_newClauses x_tariff_state x_tariff_subject x_tariff_number x_tariff_digits x_doors_seconds x_doors_order x_doors_firstIn x_doors_doubles x_doors_found x_doors_goneOut m_thrown m_slots m_places m_aboves m_belows m_riskAboves m_riskBelows m_tickets m_slotOf m_guests m_kinds m_returned m_outs m_requests m_requestSlots m_requestGuests m_requestKinds m_givens m_length m_text m_clauses m_sorts m_ones m_twos m_found m_readSorts m_readOnes m_readTwos m_seconds m_firsts m_doubles m_doubleTickets m_doubleReaders m_doubleSeconds m_digits o_ → k_ (l_4 + (6 : Int32)) x_slots_places x_slots_above x_slots_below x_slots_most x_slots_sold x_slots_made x_tickets_slot x_tickets_guests x_tickets_kind x_tickets_returned x_tickets_made x_requests_slot x_requests_guests x_requests_kind x_requests_ticket x_requests_made x_requests_served x_chances_ways x_tariff_text x_tariff_length x_tariff_prices x_tariff_percents x_tariff_clauses x_tariff_newPrices x_tariff_newPercents x_tariff_newClauses x_tariff_state x_tariff_subject x_tariff_number x_tariff_digits x_doors_seconds x_doors_order x_doors_firstIn x_doors_doubles x_doors_found x_doors_goneOut m_thrown m_slots m_places m_aboves m_belows m_riskAboves m_riskBelows m_tickets m_slotOf m_guests m_kinds m_returned m_outs m_requests m_requestSlots m_requestGuests m_requestKinds m_givens m_length m_text m_clauses m_sorts m_ones m_twos m_found m_readSorts m_readOnes m_readTwos m_seconds m_firsts m_doubles m_doubleTickets m_doubleReaders m_doubleSeconds m_digits o_) : wp_L_law_945 L xs k_ l_4 x_slots_places x_slots_above x_slots_below x_slots_most x_slots_sold x_slots_made x_tickets_slot x_tickets_guests x_tickets_kind x_tickets_returned x_tickets_made x_requests_slot x_requests_guests x_requests_kind x_requests_ticket x_requests_made x_requests_served x_chances_ways x_tariff_text x_tariff_length x_tariff_prices x_tariff_percents x_tariff_clauses x_tariff_newPrices x_tariff_newPercents x_tariff_newClauses x_tariff_state x_tariff_subject x_tariff_number x_tariff_digits x_doors_seconds x_doors_order x_doors_firstIn x_doors_doubles x_doors_found x_doors_goneOut m_thrown m_slots m_places m_aboves m_belows m_riskAboves m_riskBelows m_tickets m_slotOf m_guests m_kinds m_returned m_outs m_requests m_requestSlots m_requestGuests m_requestKinds m_givens m_length m_text m_clauses m_sorts m_ones m_twos m_found m_readSorts m_readOnes m_readTwos m_seconds m_firsts m_doubles m_doubleTickets m_doubleReaders m_doubleSeconds m_digits o_ := by
  obtain ⟨nS, nT, nR, sl, gu, ki, re, hS, hT, hSo, hR, hX, hU, hD⟩ := hI
  obtain ⟨v0, v1, v2, v3, v4, v5⟩ := script_in hL hj e4
  obtain ⟨s1, -, -, -, -⟩ := id hS
  obtain ⟨t1, t2, t3, t4, t5, t6⟩ := id hT
  refine ⟨v1, sx_whose (sl := sl) t1 t2 (fun t ht => ⟨by have := (t4 t ht).1; omega, (t4 t ht).2.2.2.2.1⟩) ⟨v1, sm_whose (sl := sl) t1 t3 (fun t ht => ⟨by have := (t4 t ht).1; omega, (t4 t ht).2.2.2.2.2.1⟩) ⟨fun _ x hx => ?_, fun q => absurd rfl q⟩⟩⟩
  subst hx
  exact hk _ _ _ _ _ _ _ _ _ _ _ _ _ _ _ _ _ _ _ _ _ _ _ _ _ _ _ _ _ _ _ _ _ _ _ _ _ _ _ _ _ _ _ _ _ _ _ _ _ _ _ _ _ _ _ _ _ _ _ _ _ _ _ _ _ _ _ _ _ _ _ _ ⟨nS, nT, nR, sl, gu, ki, re, hS, hT, hSo, hR, hX, hU, hD⟩
