-- price
theorem sm_priceL {post : Int32 → Int32 → Prop} {th v : Int32} {gu ki so on tw : Nat → Int32} {t k g n : Nat} (ht : t < 60) (hn : n ≤ 8) (ek : ki t = nI k) (eg : gu t = nI g) (h : post (nI g * prI so tw k n - nI g * prI so tw k n * peI so on tw g n / (100 : Int32)) th) : ∀ (d c : Nat), c + d = n → wp_M_price_23 post v gu ki (nI n) so on tw (d + 1) (nI t) (prI so tw k c) (peI so on tw g c) (nI c) th := by
  intro d
  induction d with
  | zero =>
    intro c hc
    obtain rfl : c = n := by omega
    refine ⟨fun _ => ⟨vin ht (by omega), fun x ex => ?_⟩, fun q => absurd (nI_le (Nat.le_refl _) (by omega)) q⟩
    rw [cl (by omega), eg] at ex
    subst ex
    exact h
  | succ d ih =>
    intro c hc
    have hv : vp_in (nI c) 8 := vin (by omega) (by omega)
    have hvt : vp_in (nI t) 60 := vin (by omega) (by omega)
    have h59 : ∀ e, e = prI so tw k (c + 1) → wp_M_price_59 post v gu ki (nI n) so on tw (wp_M_price_23 post v gu ki (nI n) so on tw (d + 1)) (nI t) (peI so on tw g c) (nI c) e th := by
      intro e he
      subst he
      have IH := ih (c + 1) (by omega)
      unfold wp_M_price_59
      rw [cl (by omega), cl (by omega), eg]
      refine ⟨hv, fun q => ⟨hv, hvt, fun z x hx => ?_, fun z => ⟨hv, fun w x hx => ?_, fun w => ⟨hv, fun y hy x hx => ?_⟩⟩⟩, fun q x hx => ?_⟩
      · rw [hx, nI_1]
        rw [peI, if_neg (fun r => nlt_le.mpr r.2.1 z)] at IH
        exact IH
      · rw [hx, nI_1]
        rw [peI, if_neg (fun r => nlt_le.mpr w r.2.2)] at IH
        exact IH
      · rw [hx, hy, nI_1]
        rw [peI, if_pos ⟨q, nlt_le.mp z, nle_lt.mp w⟩] at IH
        exact IH
      · rw [hx, nI_1]
        rw [peI, if_neg (fun r => q r.1)] at IH
        exact IH
    refine ⟨fun q => absurd q (nI_ge (by omega) (by omega)), fun _ => ⟨hv, hvt, ?_⟩⟩
    rw [cl (by omega), cl (by omega), ek]
    exact ⟨fun q => ⟨hv, h59 _ (by rw [prI, if_pos q])⟩, fun q => h59 _ (by rw [prI, if_neg q])⟩
theorem sm_price {post : Int32 → Int32 → Prop} {a th v w : Int32} {gu ki so on tw : Nat → Int32} {n m : Nat} (hn : n ≤ 60) (hm : m ≤ 8) (e : v = nI n) (e2 : w = nI m) (h0 : bad a n → post 0 1) (h1 : ∀ t, t < n → a = nI t → ∃ k g, ki t = nI k ∧ gu t = nI g ∧ post (nI g * prI so tw k m - nI g * prI so tw k m * peI so on tw g m / (100 : Int32)) 0) : wp_M_price post a th v gu ki w so on tw := by
  subst e2
  refine sm_isTicket (by omega) e (fun h => sm_goes1 ⟨fun _ => h0 h, fun z => absurd rfl z⟩) (fun t ht et => sm_goes0 ⟨fun z => absurd z (by decide), fun _ => ?_⟩)
  subst et
  obtain ⟨k, g, ek, eg, h⟩ := h1 t ht rfl
  exact ⟨m + 1, sm_priceL (by omega) hm ek eg h m 0 (by omega)⟩
theorem sx_price {post : Int32 → Unit → Prop} {px : String → Prop} {a v : Int32} {gu ki pr pe : Nat → Int32} {n : Nat} (hn : n ≤ 60) (e : v = nI n) (h0 : bad a n → px "java/lang/IndexOutOfBoundsException") (h1 : ∀ t, t < n → a = nI t → ∃ k g : Nat, k < 5 ∧ g < 10 ∧ ki t = nI k ∧ gu t = nI g ∧ post (nI g * pr k - nI g * pr k * pe g / (100 : Int32)) ()) : wp_X_price post px a gu ki v pr pe := by
  refine sx_needTicket (by omega) e h0 (fun t ht et => ?_)
  subst et
  obtain ⟨k, g, hk, hg, ek, eg, h⟩ := h1 t ht rfl
  have hvt : vp_in (nI t) 60 := vin (by omega) (by omega)
  refine ⟨hvt, hvt, ?_⟩
  rw [cl (by omega), ek, eg]
  refine ⟨vin hk (by omega), fun x ex => ⟨vin hg (by omega), ?_⟩⟩
  rw [cl (by omega)] at ex ⊢
  rw [ex]
  exact h
set_option maxHeartbeats 1000000 in
theorem case_753 {L j : Nat} {xs : Nat → Int32} {k_ : Int32 → (Nat → Int32) → (Nat → Int32) → (Nat → Int32) → (Nat → Int32) → (Nat → Int32) → Int32 → (Nat → Int32) → (Nat → Int32) → (Nat → Int32) → (Nat → Int32) → Int32 → (Nat → Int32) → (Nat → Int32) → (Nat → Int32) → (Nat → Int32) → Int32 → Int32 → (Nat → Int64) → (Nat → Int32) → Int32 → (Nat → Int32) → (Nat → Int32) → Int32 → (Nat → Int32) → (Nat → Int32) → Int32 → Int32 → Int32 → Int32 → Int32 → (Nat → Int32) → (Nat → Int32) → (Nat → Int32) → (Nat → Int32) → Int32 → (Nat → Int32) → Int32 → Int32 → (Nat → Int32) → (Nat → Int32) → (Nat → Int32) → (Nat → Int32) → (Nat → Int32) → Int32 → (Nat → Int32) → (Nat → Int32) → (Nat → Int32) → (Nat → Int32) → (Nat → Int32) → Int32 → (Nat → Int32) → (Nat → Int32) → (Nat → Int32) → (Nat → Int32) → Int32 → (Nat → Int32) → Int32 → (Nat → Int32) → (Nat → Int32) → (Nat → Int32) → Int32 → (Nat → Int32) → (Nat → Int32) → (Nat → Int32) → (Nat → Int32) → (Nat → Int32) → Int32 → (Nat → Int32) → (Nat → Int32) → (Nat → Int32) → (Nat → Int32) → (Nat → Int64) → Prop} {l_4 : Int32} {x_slots_places : Nat → Int32} {x_slots_above : Nat → Int32} {x_slots_below : Nat → Int32} {x_slots_most : Nat → Int32} {x_slots_sold : Nat → Int32} {x_slots_made : Int32} {x_tickets_slot : Nat → Int32} {x_tickets_guests : Nat → Int32} {x_tickets_kind : Nat → Int32} {x_tickets_returned : Nat → Int32} {x_tickets_made : Int32} {x_requests_slot : Nat → Int32} {x_requests_guests : Nat → Int32} {x_requests_kind : Nat → Int32} {x_requests_ticket : Nat → Int32} {x_requests_made : Int32} {x_requests_served : Int32} {x_chances_ways : Nat → Int64} {x_tariff_text : Nat → Int32} {x_tariff_length : Int32} {x_tariff_prices : Nat → Int32} {x_tariff_percents : Nat → Int32} {x_tariff_clauses : Int32} {x_tariff_newPrices : Nat → Int32} {x_tariff_newPercents : Nat → Int32} {x_tariff_newClauses : Int32} {x_tariff_state : Int32} {x_tariff_subject : Int32} {x_tariff_number : Int32} {x_tariff_digits : Int32} {x_doors_seconds : Nat → Int32} {x_doors_order : Nat → Int32} {x_doors_firstIn : Nat → Int32} {x_doors_doubles : Nat → Int32} {x_doors_found : Int32} {x_doors_goneOut : Nat → Int32} {m_thrown : Int32} {m_slots : Int32} {m_places : Nat → Int32} {m_aboves : Nat → Int32} {m_belows : Nat → Int32} {m_riskAboves : Nat → Int32} {m_riskBelows : Nat → Int32} {m_tickets : Int32} {m_slotOf : Nat → Int32} {m_guests : Nat → Int32} {m_kinds : Nat → Int32} {m_returned : Nat → Int32} {m_outs : Nat → Int32} {m_requests : Int32} {m_requestSlots : Nat → Int32} {m_requestGuests : Nat → Int32} {m_requestKinds : Nat → Int32} {m_givens : Nat → Int32} {m_length : Int32} {m_text : Nat → Int32} {m_clauses : Int32} {m_sorts : Nat → Int32} {m_ones : Nat → Int32} {m_twos : Nat → Int32} {m_found : Int32} {m_readSorts : Nat → Int32} {m_readOnes : Nat → Int32} {m_readTwos : Nat → Int32} {m_seconds : Nat → Int32} {m_firsts : Nat → Int32} {m_doubles : Int32} {m_doubleTickets : Nat → Int32} {m_doubleReaders : Nat → Int32} {m_doubleSeconds : Nat → Int32} {m_digits : Nat → Int32} {o_ : Nat → Int64} (hL : L ≤ 3072) (hj : 6 * j + 6 ≤ L) (e4 : l_4 = nI (6 * j)) (hI : INV x_slots_places x_slots_above x_slots_below x_slots_most x_slots_sold x_slots_made x_tickets_slot x_tickets_guests x_tickets_kind x_tickets_returned x_tickets_made x_requests_slot x_requests_guests x_requests_kind x_requests_ticket x_requests_made x_requests_served x_chances_ways x_tariff_text x_tariff_length x_tariff_prices x_tariff_percents x_tariff_clauses x_tariff_newPrices x_tariff_newPercents x_tariff_newClauses x_tariff_state x_tariff_subject x_tariff_number x_tariff_digits x_doors_seconds x_doors_order x_doors_firstIn x_doors_doubles x_doors_found x_doors_goneOut m_thrown m_slots m_places m_aboves m_belows m_riskAboves m_riskBelows m_tickets m_slotOf m_guests m_kinds m_returned m_outs m_requests m_requestSlots m_requestGuests m_requestKinds m_givens m_length m_text m_clauses m_sorts m_ones m_twos m_found m_readSorts m_readOnes m_readTwos m_seconds m_firsts m_doubles m_doubleTickets m_doubleReaders m_doubleSeconds m_digits o_) (hk : ∀ (x_slots_places : Nat → Int32) (x_slots_above : Nat → Int32) (x_slots_below : Nat → Int32) (x_slots_most : Nat → Int32) (x_slots_sold : Nat → Int32) (x_slots_made : Int32) (x_tickets_slot : Nat → Int32) (x_tickets_guests : Nat → Int32) (x_tickets_kind : Nat → Int32) (x_tickets_returned : Nat → Int32) (x_tickets_made : Int32) (x_requests_slot : Nat → Int32) (x_requests_guests : Nat → Int32) (x_requests_kind : Nat → Int32) (x_requests_ticket : Nat → Int32) (x_requests_made : Int32) (x_requests_served : Int32) (x_chances_ways : Nat → Int64) (x_tariff_text : Nat → Int32) (x_tariff_length : Int32) (x_tariff_prices : Nat → Int32) (x_tariff_percents : Nat → Int32) (x_tariff_clauses : Int32) (x_tariff_newPrices : Nat → Int32) (x_tariff_newPercents : Nat → Int32) (x_tariff_newClauses : Int32) (x_tariff_state : Int32) (x_tariff_subject : Int32) (x_tariff_number : Int32) (x_tariff_digits : Int32) (x_doors_seconds : Nat → Int32) (x_doors_order : Nat → Int32) (x_doors_firstIn : Nat → Int32) (x_doors_doubles : Nat → Int32) (x_doors_found : Int32) (x_doors_goneOut : Nat → Int32) (m_thrown : Int32) (m_slots : Int32) (m_places : Nat → Int32) (m_aboves : Nat → Int32) (m_belows : Nat → Int32) (m_riskAboves : Nat → Int32) (m_riskBelows : Nat → Int32) (m_tickets : Int32) (m_slotOf : Nat → Int32) (m_guests : Nat → Int32) (m_kinds : Nat → Int32) (m_returned : Nat → Int32) (m_outs : Nat → Int32) (m_requests : Int32) (m_requestSlots : Nat → Int32) (m_requestGuests : Nat → Int32) (m_requestKinds : Nat → Int32) (m_givens : Nat → Int32) (m_length : Int32) (m_text : Nat → Int32) (m_clauses : Int32) (m_sorts : Nat → Int32) (m_ones : Nat → Int32) (m_twos : Nat → Int32) (m_found : Int32) (m_readSorts : Nat → Int32) (m_readOnes : Nat → Int32) (m_readTwos : Nat → Int32) (m_seconds : Nat → Int32) (m_firsts : Nat → Int32) (m_doubles : Int32) (m_doubleTickets : Nat → Int32) (m_doubleReaders : Nat → Int32) (m_doubleSeconds : Nat → Int32) (m_digits : Nat → Int32) (o_ : Nat → Int64), INV x_slots_places x_slots_above x_slots_below x_slots_most x_slots_sold x_slots_made x_tickets_slot x_tickets_guests x_tickets_kind x_tickets_returned x_tickets_made x_requests_slot x_requests_guests x_requests_kind x_requests_ticket x_requests_made x_requests_served x_chances_ways x_tariff_text x_tariff_length x_tariff_prices x_tariff_percents x_tariff_clauses x_tariff_newPrices x_tariff_newPercents x_tariff_newClauses x_tariff_state x_tariff_subject x_tariff_number x_tariff_digits x_doors_seconds x_doors_order x_doors_firstIn x_doors_doubles x_doors_found x_doors_goneOut m_thrown m_slots m_places m_aboves m_belows m_riskAboves m_riskBelows m_tickets m_slotOf m_guests m_kinds m_returned m_outs m_requests m_requestSlots m_requestGuests m_requestKinds m_givens m_length m_text m_clauses m_sorts m_ones m_twos m_found m_readSorts m_readOnes m_readTwos m_seconds m_firsts m_doubles m_doubleTickets m_doubleReaders m_doubleSeconds m_digits o_ → k_ (l_4 + (6 : Int32)) x_slots_places x_slots_above x_slots_below x_slots_most x_slots_sold x_slots_made x_tickets_slot x_tickets_guests x_tickets_kind x_tickets_returned x_tickets_made x_requests_slot x_requests_guests x_requests_kind x_requests_ticket x_requests_made x_requests_served x_chances_ways x_tariff_text x_tariff_length x_tariff_prices x_tariff_percents x_tariff_clauses x_tariff_newPrices x_tariff_newPercents x_tariff_newClauses x_tariff_state x_tariff_subject x_tariff_number x_tariff_digits x_doors_seconds x_doors_order x_doors_firstIn x_doors_doubles x_doors_found x_doors_goneOut m_thrown m_slots m_places m_aboves m_belows m_riskAboves m_riskBelows m_tickets m_slotOf m_guests m_kinds m_returned m_outs m_requests m_requestSlots m_requestGuests m_requestKinds m_givens m_length m_text m_clauses m_sorts m_ones m_twos m_found m_readSorts m_readOnes m_readTwos m_seconds m_firsts m_doubles m_doubleTickets m_doubleReaders m_doubleSeconds m_digits o_) : wp_L_law_753 L xs k_ l_4 x_slots_places x_slots_above x_slots_below x_slots_most x_slots_sold x_slots_made x_tickets_slot x_tickets_guests x_tickets_kind x_tickets_returned x_tickets_made x_requests_slot x_requests_guests x_requests_kind x_requests_ticket x_requests_made x_requests_served x_chances_ways x_tariff_text x_tariff_length x_tariff_prices x_tariff_percents x_tariff_clauses x_tariff_newPrices x_tariff_newPercents x_tariff_newClauses x_tariff_state x_tariff_subject x_tariff_number x_tariff_digits x_doors_seconds x_doors_order x_doors_firstIn x_doors_doubles x_doors_found x_doors_goneOut m_thrown m_slots m_places m_aboves m_belows m_riskAboves m_riskBelows m_tickets m_slotOf m_guests m_kinds m_returned m_outs m_requests m_requestSlots m_requestGuests m_requestKinds m_givens m_length m_text m_clauses m_sorts m_ones m_twos m_found m_readSorts m_readOnes m_readTwos m_seconds m_firsts m_doubles m_doubleTickets m_doubleReaders m_doubleSeconds m_digits o_ := by
  obtain ⟨nS, nT, nR, sl, gu, ki, re, hS, hT, hSo, hR, hX, hU, hD⟩ := hI
  obtain ⟨v0, v1, v2, v3, v4, v5⟩ := script_in hL hj e4
  obtain ⟨t1, t2, t3, t4, t5, t6⟩ := id hT
  obtain ⟨nC, u1, u2, u3, u4, u5, u6⟩ := id hU
  have fx1 : ∀ x : Int32, x = l_4 + (6 : Int32) → k_ x x_slots_places x_slots_above x_slots_below x_slots_most x_slots_sold x_slots_made x_tickets_slot x_tickets_guests x_tickets_kind x_tickets_returned x_tickets_made x_requests_slot x_requests_guests x_requests_kind x_requests_ticket x_requests_made x_requests_served x_chances_ways x_tariff_text x_tariff_length x_tariff_prices x_tariff_percents x_tariff_clauses x_tariff_newPrices x_tariff_newPercents x_tariff_newClauses x_tariff_state x_tariff_subject x_tariff_number x_tariff_digits x_doors_seconds x_doors_order x_doors_firstIn x_doors_doubles x_doors_found x_doors_goneOut 1 m_slots m_places m_aboves m_belows m_riskAboves m_riskBelows m_tickets m_slotOf m_guests m_kinds m_returned m_outs m_requests m_requestSlots m_requestGuests m_requestKinds m_givens m_length m_text m_clauses m_sorts m_ones m_twos m_found m_readSorts m_readOnes m_readTwos m_seconds m_firsts m_doubles m_doubleTickets m_doubleReaders m_doubleSeconds m_digits o_ := fun x hx => by
    subst hx
    exact hk _ _ _ _ _ _ _ _ _ _ _ _ _ _ _ _ _ _ _ _ _ _ _ _ _ _ _ _ _ _ _ _ _ _ _ _ _ _ _ _ _ _ _ _ _ _ _ _ _ _ _ _ _ _ _ _ _ _ _ _ _ _ _ _ _ _ _ _ _ _ _ _ ⟨nS, nT, nR, sl, gu, ki, re, hS, hT, hSo, hR, hX, hU, hD⟩
  have nb : ∀ {n t : Nat} {a : Int32}, bad a n → t < n → n ≤ 300 → a = nI t → False := fun hb ht hn et => nbad ht (by omega) (by rw [← et]; exact hb)
  refine ⟨v1, sx_price t1 t2 (fun hb => ⟨rfl, v1, sm_price t1 u1 t3 u3 (fun _ => fin_x (by decide) fx1) (fun t ht et => (nb hb ht (by omega) et).elim)⟩) (fun t ht et => ?_)⟩
  obtain ⟨_, g1, g2, g3, _, _, g4, g5, g6, g7⟩ := t4 t ht
  refine ⟨ki t, gu t, g3, by omega, g6, g4, out0, fun f ef => ⟨v1, sm_price t1 u1 t3 u3 (fun hb => (nb hb ht (by omega) et).elim) (fun t' ht' et' => ?_)⟩⟩
  obtain rfl : t = t' := (nI_eq (by omega) (by omega)).mp (et.symm.trans et')
  refine ⟨ki t, gu t, g7, g5, ?_⟩
  subst ef
  refine fin_0 (fin_o (congrArg Int32.toInt64 ?_) (fun x hx => ?_))
  · rw [u4 _ g3, u5 _ g1 g2]
  · subst hx
    exact hk _ _ _ _ _ _ _ _ _ _ _ _ _ _ _ _ _ _ _ _ _ _ _ _ _ _ _ _ _ _ _ _ _ _ _ _ _ _ _ _ _ _ _ _ _ _ _ _ _ _ _ _ _ _ _ _ _ _ _ _ _ _ _ _ _ _ _ _ _ _ _ _ ⟨nS, nT, nR, sl, gu, ki, re, hS, hT, hSo, hR, hX, hU, hD⟩
-- code
theorem lN_32 (n : Nat) : (lN n).toInt32 = nI n := Int64.toInt32_ofNat'
theorem sx_digitL {post : Int32 → Unit → Prop} {n p : Nat} (hn : n < 2 ^ 31) (hp : p < 2 ^ 30) (h : post (nI (n / 10 ^ p % 10)) ()) : ∀ (d i : Nat), i + d = p → wp_X_digitOf_5 post (d + 1) (nI p) (lN (n / 10 ^ i)) (nI i) := by
  intro d
  induction d with
  | zero =>
    intro i hi
    obtain rfl : i = p := by omega
    have hl : n / 10 ^ i < 2 ^ 63 := Nat.lt_of_le_of_lt (Nat.div_le_self _ _) (by omega)
    refine ⟨fun _ => ?_, fun q => absurd (nI_le (Nat.le_refl _) (by omega)) q⟩
    have e := pk_lRem (a := n / 10 ^ i) (b := 10) hl (by omega) (by omega)
    rw [show lN (n / 10 ^ i) - lN (n / 10 ^ i) / (10 : Int64) * (10 : Int64) = lN (n / 10 ^ i % 10) from e, lN_32]
    exact h
  | succ d ih =>
    intro i hi
    have hl : n / 10 ^ i < 2 ^ 63 := Nat.lt_of_le_of_lt (Nat.div_le_self _ _) (by omega)
    refine ⟨fun q => absurd q (nI_ge (by omega) (by omega)), fun _ x ex y ey => ?_⟩
    have e := pk_lDiv (a := n / 10 ^ i) (b := 10) hl (by omega) (by omega)
    rw [show lN (n / 10 ^ i) / (10 : Int64) = lN (n / 10 ^ i / 10) from e, Nat.div_div_eq_div_mul, ← Nat.pow_succ] at ex
    rw [ex, ey, nI_1]
    exact ih (i + 1) (by omega)
theorem sx_digitOf {post : Int32 → Unit → Prop} {a : Int64} {b : Int32} {n p : Nat} (hn : n < 2 ^ 31) (hp : p < 2 ^ 30) (ea : a = lN n) (eb : b = nI p) (h : post (nI (n / 10 ^ p % 10)) ()) : wp_X_digitOf post a b := by
  subst ea; subst eb
  have := sx_digitL hn hp h p 0 (by omega)
  rw [Nat.pow_zero, Nat.div_one] at this
  exact ⟨p + 1, this⟩
def chk (n : Nat) : Nat := (10 - (3 * (n / 10000 % 10) + 7 * (n / 1000 % 10) + n / 100 % 10 + 3 * (n / 10 % 10) + 7 * (n % 10)) % 10) % 10
theorem i32 {a : Nat} (b : Nat) (h : nI a = nI b) : nI a = nI b := h
theorem chk_e {x : Int32} {m : Nat} (hm : m < 1000) (e : x = nI m) : ((10 : Int32) - (x - x / (10 : Int32) * (10 : Int32))) - ((10 : Int32) - (x - x / (10 : Int32) * (10 : Int32))) / (10 : Int32) * (10 : Int32) = nI ((10 - m % 10) % 10) := by
  subst e
  have e1 : nI m - nI m / (10 : Int32) * (10 : Int32) = nI (m % 10) := pk_rem (a := m) (d := 10) (by omega) (by omega) (by omega)
  rw [e1]
  have e2 : (10 : Int32) - nI (m % 10) = nI (10 - m % 10) := pk_sub (a := 10) (b := m % 10) (by omega)
  rw [e2]
  exact pk_rem (a := 10 - m % 10) (d := 10) (by omega) (by omega) (by omega)
theorem sx_checkOf {post : Int32 → Unit → Prop} {a : Int32} {n : Nat} (hn : n < 100000) (e : a = nI n) (h : post (nI (chk n)) ()) : wp_X_checkOf post a := by
  subst e
  refine sx_digitOf (n := n) (p := 4) (by omega) (by omega) (nI_l (by omega)) rfl ?_
  refine sx_digitOf (n := n) (p := 3) (by omega) (by omega) (nI_l (by omega)) rfl ?_
  refine sx_digitOf (n := n) (p := 2) (by omega) (by omega) (nI_l (by omega)) rfl ?_
  refine sx_digitOf (n := n) (p := 1) (by omega) (by omega) (nI_l (by omega)) rfl ?_
  refine sx_digitOf (n := n) (p := 0) (by omega) (by omega) (nI_l (by omega)) rfl (fun x ex => ?_)
  have e3 : x = nI (3 * (n / 10 ^ 4 % 10) + 7 * (n / 10 ^ 3 % 10) + n / 10 ^ 2 % 10 + 3 * (n / 10 ^ 1 % 10) + 7 * (n / 10 ^ 0 % 10)) := by
    rw [ex, show (3 : Int32) = nI 3 from rfl, show (7 : Int32) = nI 7 from rfl]
    simp only [pk_mul, nI_add]
  rw [chk_e (by omega) e3]
  have : chk n = (10 - (3 * (n / 10 ^ 4 % 10) + 7 * (n / 10 ^ 3 % 10) + n / 10 ^ 2 % 10 + 3 * (n / 10 ^ 1 % 10) + 7 * (n / 10 ^ 0 % 10)) % 10) % 10 := by
    unfold chk
    simp
  rw [← this]
  exact h
def num (t s : Nat) : Nat := (7919 * t + 31 * s + 12345) % 100000
def cod (t s : Nat) : Nat := 10 * num t s + chk (num t s)
theorem num_e {t s : Nat} {x y : Int32} (ht : t < 60) (hs : s < 8) (ex : x = nI t) (ey : y = nI s) : ((((7919 : Int32) * x) + ((31 : Int32) * y)) + (12345 : Int32)) - ((((7919 : Int32) * x) + ((31 : Int32) * y)) + (12345 : Int32)) / (100000 : Int32) * (100000 : Int32) = nI (num t s) := by
  have e : (((7919 : Int32) * x) + ((31 : Int32) * y)) + (12345 : Int32) = nI (7919 * t + 31 * s + 12345) := by
    rw [ex, ey, show (7919 : Int32) = nI 7919 from rfl, show (31 : Int32) = nI 31 from rfl, show (12345 : Int32) = nI 12345 from rfl, pk_mul, pk_mul, nI_add, nI_add]
  rw [e]
  exact pk_rem (a := 7919 * t + 31 * s + 12345) (d := 100000) (by omega) (by omega) (by omega)
theorem num_lt (t s : Nat) : num t s < 100000 := Nat.mod_lt _ (by omega)
theorem chk_lt (n : Nat) : chk n < 10 := Nat.mod_lt _ (by omega)
theorem sx_codeOf {post : Int32 → Unit → Prop} {sl : Nat → Int32} {t s : Nat} (ht : t < 60) (hs : s < 8) (e : sl t = nI s) (h : post (nI (cod t s)) ()) : wp_XT_codeOf post (nI t) sl := by
  refine ⟨vin ht (by omega), fun x ex => ?_⟩
  rw [cl (by omega), num_e ht hs rfl e] at ex
  refine sx_checkOf (num_lt t s) ex ?_
  rw [ex, show (10 : Int32) = nI 10 from rfl, pk_mul, nI_add, Nat.mul_comm]
  exact h
theorem sm_codeOf {post : Int32 → Unit → Prop} {sl : Nat → Int32} {t s : Nat} (ht : t < 60) (hs : s < 8) (e : sl t = nI s) (h : post (nI (cod t s)) ()) : wp_M_codeOf post (nI t) sl := by
  refine ⟨vin ht (by omega), fun x ex y ey => ?_⟩
  rw [cl (by omega), num_e ht hs rfl e] at ex
  have hn := num_lt t s
  have hc : chk (num t s) < 10 := chk_lt _
  subst ex
  have d : ∀ d : Nat, 0 < d → d < 2 ^ 31 → nI (num t s) / nI d = nI (num t s / d) := fun d h0 h1 => pk_div (by omega) h0 h1
  have r : ∀ m : Nat, m < 2 ^ 31 → nI m - nI m / (10 : Int32) * (10 : Int32) = nI (m % 10) := fun m hm => pk_rem (d := 10) hm (by omega) (by omega)
  have e3 : y = nI (3 * (num t s / 10000) + 7 * (num t s / 1000 % 10) + num t s / 100 % 10 + 3 * (num t s / 10 % 10) + 7 * (num t s % 10)) := by
    rw [ey, show nI (num t s) / (10000 : Int32) = nI (num t s / 10000) from d 10000 (by omega) (by omega), show nI (num t s) / (1000 : Int32) = nI (num t s / 1000) from d 1000 (by omega) (by omega), show nI (num t s) / (100 : Int32) = nI (num t s / 100) from d 100 (by omega) (by omega), r _ (by omega), r _ (by omega), r _ (by omega), show nI (num t s) / (10 : Int32) = nI (num t s / 10) from d 10 (by omega) (by omega), r _ (by omega), show (3 : Int32) = nI 3 from rfl, show (7 : Int32) = nI 7 from rfl]
    simp only [pk_mul, nI_add]
  rw [chk_e (by omega) e3, show (10 : Int32) * nI (num t s) = nI (10 * num t s) from pk_mul 10 _, nI_add]
  have : 10 * num t s + (10 - (3 * (num t s / 10000) + 7 * (num t s / 1000 % 10) + num t s / 100 % 10 + 3 * (num t s / 10 % 10) + 7 * (num t s % 10)) % 10) % 10 = cod t s := by
    unfold cod chk
    rw [show num t s / 10000 % 10 = num t s / 10000 by omega]
  rw [this]
  exact h
theorem cod_lt (t s : Nat) : cod t s < 1000000 := by
  have := num_lt t s
  have := chk_lt (num t s)
  unfold cod; omega

