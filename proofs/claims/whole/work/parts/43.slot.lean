-- slot
theorem rng {a : Int32} {lo hi : Nat} (hh : hi < 2 ^ 31) (h0 : ¬ a < nI lo) (h1 : ¬ nI hi < a) (hl : lo < 2 ^ 31) : ∃ p : Nat, lo ≤ p ∧ p ≤ hi ∧ a = nI p := by
  rw [tI, nI_toInt hl] at h0
  rw [tI, nI_toInt hh] at h1
  refine ⟨a.toInt.toNat, by omega, by omega, ?_⟩
  rw [tE, nI_toInt (by omega)]
  omega
theorem sx_slot {post : Int32 → ((Nat → Int32) × (Nat → Int32) × (Nat → Int32) × (Nat → Int32) × Int32) → Prop} {px : String → Prop} {a v : Int32} {fp fa fb fm : Nat → Int32} {n : Nat} (hn : n ≤ 8) (e : v = nI n) (h1 : n = 8 → px "java/lang/IllegalStateException") (h2 : n < 8 → (a < 1 ∨ (20 : Int32) < a) → px "java/lang/IllegalArgumentException") (h3 : n < 8 → ¬ a < 1 → ¬ (20 : Int32) < a → post (nI n) (upd fp n a, upd fa n 1, upd fb n 1, upd fm n a, nI (n + 1))) : wp_X_slot post px a fp fa fb fm v := by
  subst e
  refine ⟨fun h => ?_, fun h => h1 (by rw [nl8 hn] at h; omega)⟩
  have hl := (nl8 hn).mp h
  have hv : vp_in (nI n) 8 := vin hl (by omega)
  have hc : (nI n).toNatClampNeg = n := cl (by omega)
  refine ⟨fun g => h2 hl (Or.inl g), fun g => ⟨fun k => ⟨hv, fun f1 e1 => ⟨hv, fun f2 e2 => ⟨hv, fun f3 e3 => ⟨hv, fun f4 e4 x ex => ?_⟩⟩⟩⟩, fun k => h2 hl (Or.inr (nle_lt.mp k))⟩⟩
  rw [hc] at e1 e2 e3 e4
  rw [e1, e2, e3, e4, ex, nI_1]
  exact h3 hl g (fun q => by rw [tI] at q; rw [tL] at k; omega)
theorem sm_slot {post : Int32 → (Int32 × Int32 × (Nat → Int32) × (Nat → Int32) × (Nat → Int32) × (Nat → Int32)) → Prop} {a t v : Int32} {fp fa fb fr : Nat → Int32} {n : Nat} (hn : n ≤ 8) (e : v = nI n) (h1 : n = 8 → post 0 (1, nI n, fp, fa, fb, fr)) (h2 : n < 8 → (a < 1 ∨ (20 : Int32) < a) → post 0 (2, nI n, fp, fa, fb, fr)) (h3 : n < 8 → ¬ a < 1 → ¬ (20 : Int32) < a → post (nI n) (0, nI (n + 1), upd fp n a, upd fa n 1, upd fb n 1, upd fr n 1)) : wp_M_slot post a t v fp fa fb fr := by
  subst e
  refine ⟨fun h => ?_, fun h => ?_⟩
  · have hl : n = 8 := by have := mt (nl8 hn).mpr (nlt_le.mpr h); omega
    exact sm_within (fun _ => sm_goes1 ⟨fun _ => h1 hl, fun q => absurd rfl q⟩) (fun _ _ => sm_goes1 ⟨fun _ => h1 hl, fun q => absurd rfl q⟩)
  · have hl : n < 8 := (nl8 hn).mp (nle_lt.mp h)
    have hv : vp_in (nI n) 8 := vin hl (by omega)
    have hc : (nI n).toNatClampNeg = n := cl (by omega)
    refine sm_within (fun g => sm_goes2 ⟨fun _ => h2 hl g, fun q => absurd rfl q⟩) (fun g k => sm_goes0 ⟨fun q => absurd q (by decide), fun _ => ⟨hv, fun f1 e1 => ⟨hv, fun f2 e2 => ⟨hv, fun f3 e3 => ⟨hv, fun f4 e4 x ex => ?_⟩⟩⟩⟩⟩)
    rw [hc] at e1 e2 e3 e4
    rw [e1, e2, e3, e4, ex, nI_1, nI_pred]
    exact h3 hl g k
theorem dst11 (n j : Nat) : dst 1 1 n j = if j = n then 1 else 0 := by
  induction n generalizing j with
  | zero => rfl
  | succ n ih =>
    cases j with
    | zero => simp [dst]
    | succ j => simp [dst, ih]
theorem sumTo_ge {f : Nat → Nat} {k : Nat} : ∀ {n : Nat}, k < n → f k ≤ sumTo f n
  | n + 1, h => by
    by_cases e : k = n
    · subst e; exact Nat.le_add_left _ _
    · exact Nat.le_trans (sumTo_ge (n := n) (by omega)) (Nat.le_add_right _ _)
theorem most0 {p : Nat} (hp : p ≤ 20) : mostN p 1 1 0 1 = p := by
  have h : 0 < tooMany 1 1 p (p + 1) := by
    have := sumTo_ge (f := fun j => if p < j then dst 1 1 (p + 1) j else 0) (k := p + 1) (n := 29) (by omega)
    rw [if_pos (by omega), dst11, if_pos rfl] at this
    exact this
  unfold mostN
  rw [mgo]
  simp [h]
theorem sold0 {sl gu re : Nat → Nat} {k n : Nat} (h : ∀ t, t < n → sl t < k) : soldN sl gu re k n = 0 := by
  induction n with
  | zero => rfl
  | succ n ih =>
    rw [soldN, ih (fun t ht => h t (by omega))]
    have := h n (by omega)
    simp [show ¬ sl n = k by omega]
set_option maxHeartbeats 1000000 in
theorem case_136 {L j : Nat} {xs : Nat → Int32} {k_ : Int32 → (Nat → Int32) → (Nat → Int32) → (Nat → Int32) → (Nat → Int32) → (Nat → Int32) → Int32 → (Nat → Int32) → (Nat → Int32) → (Nat → Int32) → (Nat → Int32) → Int32 → (Nat → Int32) → (Nat → Int32) → (Nat → Int32) → (Nat → Int32) → Int32 → Int32 → (Nat → Int64) → (Nat → Int32) → Int32 → (Nat → Int32) → (Nat → Int32) → Int32 → (Nat → Int32) → (Nat → Int32) → Int32 → Int32 → Int32 → Int32 → Int32 → (Nat → Int32) → (Nat → Int32) → (Nat → Int32) → (Nat → Int32) → Int32 → (Nat → Int32) → Int32 → Int32 → (Nat → Int32) → (Nat → Int32) → (Nat → Int32) → (Nat → Int32) → (Nat → Int32) → Int32 → (Nat → Int32) → (Nat → Int32) → (Nat → Int32) → (Nat → Int32) → (Nat → Int32) → Int32 → (Nat → Int32) → (Nat → Int32) → (Nat → Int32) → (Nat → Int32) → Int32 → (Nat → Int32) → Int32 → (Nat → Int32) → (Nat → Int32) → (Nat → Int32) → Int32 → (Nat → Int32) → (Nat → Int32) → (Nat → Int32) → (Nat → Int32) → (Nat → Int32) → Int32 → (Nat → Int32) → (Nat → Int32) → (Nat → Int32) → (Nat → Int32) → (Nat → Int64) → Prop} {l_4 : Int32} {x_slots_places : Nat → Int32} {x_slots_above : Nat → Int32} {x_slots_below : Nat → Int32} {x_slots_most : Nat → Int32} {x_slots_sold : Nat → Int32} {x_slots_made : Int32} {x_tickets_slot : Nat → Int32} {x_tickets_guests : Nat → Int32} {x_tickets_kind : Nat → Int32} {x_tickets_returned : Nat → Int32} {x_tickets_made : Int32} {x_requests_slot : Nat → Int32} {x_requests_guests : Nat → Int32} {x_requests_kind : Nat → Int32} {x_requests_ticket : Nat → Int32} {x_requests_made : Int32} {x_requests_served : Int32} {x_chances_ways : Nat → Int64} {x_tariff_text : Nat → Int32} {x_tariff_length : Int32} {x_tariff_prices : Nat → Int32} {x_tariff_percents : Nat → Int32} {x_tariff_clauses : Int32} {x_tariff_newPrices : Nat → Int32} {x_tariff_newPercents : Nat → Int32} {x_tariff_newClauses : Int32} {x_tariff_state : Int32} {x_tariff_subject : Int32} {x_tariff_number : Int32} {x_tariff_digits : Int32} {x_doors_seconds : Nat → Int32} {x_doors_order : Nat → Int32} {x_doors_firstIn : Nat → Int32} {x_doors_doubles : Nat → Int32} {x_doors_found : Int32} {x_doors_goneOut : Nat → Int32} {m_thrown : Int32} {m_slots : Int32} {m_places : Nat → Int32} {m_aboves : Nat → Int32} {m_belows : Nat → Int32} {m_riskAboves : Nat → Int32} {m_riskBelows : Nat → Int32} {m_tickets : Int32} {m_slotOf : Nat → Int32} {m_guests : Nat → Int32} {m_kinds : Nat → Int32} {m_returned : Nat → Int32} {m_outs : Nat → Int32} {m_requests : Int32} {m_requestSlots : Nat → Int32} {m_requestGuests : Nat → Int32} {m_requestKinds : Nat → Int32} {m_givens : Nat → Int32} {m_length : Int32} {m_text : Nat → Int32} {m_clauses : Int32} {m_sorts : Nat → Int32} {m_ones : Nat → Int32} {m_twos : Nat → Int32} {m_found : Int32} {m_readSorts : Nat → Int32} {m_readOnes : Nat → Int32} {m_readTwos : Nat → Int32} {m_seconds : Nat → Int32} {m_firsts : Nat → Int32} {m_doubles : Int32} {m_doubleTickets : Nat → Int32} {m_doubleReaders : Nat → Int32} {m_doubleSeconds : Nat → Int32} {m_digits : Nat → Int32} {o_ : Nat → Int64} (hL : L ≤ 3072) (hj : 6 * j + 6 ≤ L) (e4 : l_4 = nI (6 * j)) (hI : INV x_slots_places x_slots_above x_slots_below x_slots_most x_slots_sold x_slots_made x_tickets_slot x_tickets_guests x_tickets_kind x_tickets_returned x_tickets_made x_requests_slot x_requests_guests x_requests_kind x_requests_ticket x_requests_made x_requests_served x_chances_ways x_tariff_text x_tariff_length x_tariff_prices x_tariff_percents x_tariff_clauses x_tariff_newPrices x_tariff_newPercents x_tariff_newClauses x_tariff_state x_tariff_subject x_tariff_number x_tariff_digits x_doors_seconds x_doors_order x_doors_firstIn x_doors_doubles x_doors_found x_doors_goneOut m_thrown m_slots m_places m_aboves m_belows m_riskAboves m_riskBelows m_tickets m_slotOf m_guests m_kinds m_returned m_outs m_requests m_requestSlots m_requestGuests m_requestKinds m_givens m_length m_text m_clauses m_sorts m_ones m_twos m_found m_readSorts m_readOnes m_readTwos m_seconds m_firsts m_doubles m_doubleTickets m_doubleReaders m_doubleSeconds m_digits o_) (hk : ∀ (x_slots_places : Nat → Int32) (x_slots_above : Nat → Int32) (x_slots_below : Nat → Int32) (x_slots_most : Nat → Int32) (x_slots_sold : Nat → Int32) (x_slots_made : Int32) (x_tickets_slot : Nat → Int32) (x_tickets_guests : Nat → Int32) (x_tickets_kind : Nat → Int32) (x_tickets_returned : Nat → Int32) (x_tickets_made : Int32) (x_requests_slot : Nat → Int32) (x_requests_guests : Nat → Int32) (x_requests_kind : Nat → Int32) (x_requests_ticket : Nat → Int32) (x_requests_made : Int32) (x_requests_served : Int32) (x_chances_ways : Nat → Int64) (x_tariff_text : Nat → Int32) (x_tariff_length : Int32) (x_tariff_prices : Nat → Int32) (x_tariff_percents : Nat → Int32) (x_tariff_clauses : Int32) (x_tariff_newPrices : Nat → Int32) (x_tariff_newPercents : Nat → Int32) (x_tariff_newClauses : Int32) (x_tariff_state : Int32) (x_tariff_subject : Int32) (x_tariff_number : Int32) (x_tariff_digits : Int32) (x_doors_seconds : Nat → Int32) (x_doors_order : Nat → Int32) (x_doors_firstIn : Nat → Int32) (x_doors_doubles : Nat → Int32) (x_doors_found : Int32) (x_doors_goneOut : Nat → Int32) (m_thrown : Int32) (m_slots : Int32) (m_places : Nat → Int32) (m_aboves : Nat → Int32) (m_belows : Nat → Int32) (m_riskAboves : Nat → Int32) (m_riskBelows : Nat → Int32) (m_tickets : Int32) (m_slotOf : Nat → Int32) (m_guests : Nat → Int32) (m_kinds : Nat → Int32) (m_returned : Nat → Int32) (m_outs : Nat → Int32) (m_requests : Int32) (m_requestSlots : Nat → Int32) (m_requestGuests : Nat → Int32) (m_requestKinds : Nat → Int32) (m_givens : Nat → Int32) (m_length : Int32) (m_text : Nat → Int32) (m_clauses : Int32) (m_sorts : Nat → Int32) (m_ones : Nat → Int32) (m_twos : Nat → Int32) (m_found : Int32) (m_readSorts : Nat → Int32) (m_readOnes : Nat → Int32) (m_readTwos : Nat → Int32) (m_seconds : Nat → Int32) (m_firsts : Nat → Int32) (m_doubles : Int32) (m_doubleTickets : Nat → Int32) (m_doubleReaders : Nat → Int32) (m_doubleSeconds : Nat → Int32) (m_digits : Nat → Int32) (o_ : Nat → Int64), INV x_slots_places x_slots_above x_slots_below x_slots_most x_slots_sold x_slots_made x_tickets_slot x_tickets_guests x_tickets_kind x_tickets_returned x_tickets_made x_requests_slot x_requests_guests x_requests_kind x_requests_ticket x_requests_made x_requests_served x_chances_ways x_tariff_text x_tariff_length x_tariff_prices x_tariff_percents x_tariff_clauses x_tariff_newPrices x_tariff_newPercents x_tariff_newClauses x_tariff_state x_tariff_subject x_tariff_number x_tariff_digits x_doors_seconds x_doors_order x_doors_firstIn x_doors_doubles x_doors_found x_doors_goneOut m_thrown m_slots m_places m_aboves m_belows m_riskAboves m_riskBelows m_tickets m_slotOf m_guests m_kinds m_returned m_outs m_requests m_requestSlots m_requestGuests m_requestKinds m_givens m_length m_text m_clauses m_sorts m_ones m_twos m_found m_readSorts m_readOnes m_readTwos m_seconds m_firsts m_doubles m_doubleTickets m_doubleReaders m_doubleSeconds m_digits o_ → k_ (l_4 + (6 : Int32)) x_slots_places x_slots_above x_slots_below x_slots_most x_slots_sold x_slots_made x_tickets_slot x_tickets_guests x_tickets_kind x_tickets_returned x_tickets_made x_requests_slot x_requests_guests x_requests_kind x_requests_ticket x_requests_made x_requests_served x_chances_ways x_tariff_text x_tariff_length x_tariff_prices x_tariff_percents x_tariff_clauses x_tariff_newPrices x_tariff_newPercents x_tariff_newClauses x_tariff_state x_tariff_subject x_tariff_number x_tariff_digits x_doors_seconds x_doors_order x_doors_firstIn x_doors_doubles x_doors_found x_doors_goneOut m_thrown m_slots m_places m_aboves m_belows m_riskAboves m_riskBelows m_tickets m_slotOf m_guests m_kinds m_returned m_outs m_requests m_requestSlots m_requestGuests m_requestKinds m_givens m_length m_text m_clauses m_sorts m_ones m_twos m_found m_readSorts m_readOnes m_readTwos m_seconds m_firsts m_doubles m_doubleTickets m_doubleReaders m_doubleSeconds m_digits o_) : wp_L_law_136 L xs k_ l_4 x_slots_places x_slots_above x_slots_below x_slots_most x_slots_sold x_slots_made x_tickets_slot x_tickets_guests x_tickets_kind x_tickets_returned x_tickets_made x_requests_slot x_requests_guests x_requests_kind x_requests_ticket x_requests_made x_requests_served x_chances_ways x_tariff_text x_tariff_length x_tariff_prices x_tariff_percents x_tariff_clauses x_tariff_newPrices x_tariff_newPercents x_tariff_newClauses x_tariff_state x_tariff_subject x_tariff_number x_tariff_digits x_doors_seconds x_doors_order x_doors_firstIn x_doors_doubles x_doors_found x_doors_goneOut m_thrown m_slots m_places m_aboves m_belows m_riskAboves m_riskBelows m_tickets m_slotOf m_guests m_kinds m_returned m_outs m_requests m_requestSlots m_requestGuests m_requestKinds m_givens m_length m_text m_clauses m_sorts m_ones m_twos m_found m_readSorts m_readOnes m_readTwos m_seconds m_firsts m_doubles m_doubleTickets m_doubleReaders m_doubleSeconds m_digits o_ := by
  obtain ⟨nS, nT, nR, sl, gu, ki, re, hS, hT, hSo, hR, hX, hU, hD⟩ := hI
  obtain ⟨v0, v1, v2, v3, v4, v5⟩ := script_in hL hj e4
  obtain ⟨s1, s2, s3, s4, s5⟩ := id hS
  refine ⟨v1, sx_slot s1 s2 (fun h => Or.inr ⟨rfl, v1, sm_slot s1 s3 (fun _ => fin_x (by decide) (fun x hx => ?_)) (fun g => absurd h (by omega)) (fun g => absurd h (by omega))⟩) (fun h g => Or.inl ⟨rfl, v1, sm_slot s1 s3 (fun q => absurd h (by omega)) (fun _ _ => fin_x (by decide) (fun x hx => ?_)) (fun _ a b => g.elim (fun q => absurd q a) (fun q => absurd q b))⟩) (fun h g k => ⟨out0, fun f ef => ⟨v1, sm_slot s1 s3 (fun q => absurd h (by omega)) (fun _ q => q.elim (fun q => absurd q g) (fun q => absurd q k)) (fun _ _ _ => ?_)⟩⟩)⟩
  · subst hx
    rw [← s3]
    exact hk _ _ _ _ _ _ _ _ _ _ _ _ _ _ _ _ _ _ _ _ _ _ _ _ _ _ _ _ _ _ _ _ _ _ _ _ _ _ _ _ _ _ _ _ _ _ _ _ _ _ _ _ _ _ _ _ _ _ _ _ _ _ _ _ _ _ _ _ _ _ _ _ ⟨nS, nT, nR, sl, gu, ki, re, hS, hT, hSo, hR, hX, hU, hD⟩
  · subst hx
    rw [← s3]
    exact hk _ _ _ _ _ _ _ _ _ _ _ _ _ _ _ _ _ _ _ _ _ _ _ _ _ _ _ _ _ _ _ _ _ _ _ _ _ _ _ _ _ _ _ _ _ _ _ _ _ _ _ _ _ _ _ _ _ _ _ _ _ _ _ _ _ _ _ _ _ _ _ _ ⟨nS, nT, nR, sl, gu, ki, re, hS, hT, hSo, hR, hX, hU, hD⟩
  · subst ef
    refine fin_0 (fin_o rfl (fun x hx => ?_))
    subst hx
    obtain ⟨p, hp1, hp2, ep⟩ := rng (lo := 1) (hi := 20) (by omega) g k (by omega)
    rw [ep]
    refine hk _ _ _ _ _ _ _ _ _ _ _ _ _ _ _ _ _ _ _ _ _ _ _ _ _ _ _ _ _ _ _ _ _ _ _ _ _ _ _ _ _ _ _ _ _ _ _ _ _ _ _ _ _ _ _ _ _ _ _ _ _ _ _ _ _ _ _ _ _ _ _ _ ⟨nS + 1, nT, nR, sl, gu, ki, re, ⟨by omega, rfl, rfl, fun i hi => ?_, fun i hi hi2 => s5 i (by omega) hi2⟩, ?_, ?_, ?_, hX, hU, hD⟩
    · by_cases e : i = nS
      · subst e
        rw [upd_s, upd_s, upd_s, upd_s, upd_s, upd_s, upd_s, upd_s]
        exact ⟨p, 1, 1, 0, 1, hp1, hp2, by omega, by omega, by omega, by omega, by omega, by omega, rfl, rfl, rfl, rfl, rfl, rfl, s5 i (by omega) h, rfl, by rw [most0 hp2]⟩
      · rw [upd_n e, upd_n e, upd_n e, upd_n e, upd_n e, upd_n e, upd_n e, upd_n e]
        exact s4 i (by omega)
    · obtain ⟨t1, t2, t3, t4, t5, t6⟩ := hT
      exact ⟨t1, t2, t3, fun t ht => ⟨Nat.lt_succ_of_lt (t4 t ht).1, (t4 t ht).2⟩, t5, t6⟩
    · refine ⟨fun i hi => ?_, fun i hi hi2 => hSo.2 i (by omega) hi2⟩
      by_cases e : i = nS
      · subst e
        rw [hSo.2 i (by omega) h, sold0 (fun t ht => (hT.2.2.2.1 t ht).1)]
        rfl
      · exact hSo.1 i (by omega)
    · obtain ⟨r1, r2, r3, r4, r5⟩ := hR
      exact ⟨r1, r2, r3, fun r hr => by obtain ⟨a, b, c, d, rest⟩ := r4 r hr; exact ⟨a, b, c, Nat.lt_succ_of_lt d, rest⟩, r5⟩
