-- join, on
def DR (ms : Nat → Int32) (nd : Nat) (db dt dr ds : Nat → Int32) : Prop := ∀ k, k < nd → ∃ t r : Nat, t < 60 ∧ r < 6 ∧ db k = nI (6 * t + r) ∧ dt k = nI t ∧ dr k = nI r ∧ ds k = ms (60 * r + t) ∧ ms (60 * r + t) ≠ -1
theorem jn_in {xs ms v : Nat → Int32} {t m : Nat} {od : Nat → Nat} {order : Nat → Int32} (ht : t < 60) (hs : ∀ q, q < 6 → sec (v q)) (hm : ∀ q, q < 6 → ms (60 * q + t) = v q) (hS : SRT v 6 m od) (ho : ∀ i, i < m → order i = nI (6 * t + od i)) : ∀ (d i nd : Nat) (db dt dr ds : Nat → Int32), i + d = m → nd + d ≤ 300 → DR ms nd db dt dr ds → ∃ db' dt' dr' ds' : Nat → Int32, DR ms (nd + d) db' dt' dr' ds' ∧ (∀ post k fi, k (nI (t + 1)) order fi db' (nI (nd + d)) → wp_XD_joinAll_42 post xs k (d + 1) (nI t) (nI m) (nI i) order fi db (nI nd)) ∧ (∀ post tk k th fs, k (nI (t + 1)) th fs (nI (nd + d)) dt' dr' ds' → wp_M_join_69 post tk ms k (d + 1) (nI t) (if i < m then nI (od i) else -1) th fs (nI nd) dt dr ds) := by
  intro d
  induction d with
  | zero =>
    intro i nd db dt dr ds hi hn hD
    obtain rfl : i = m := by omega
    have hm6 : i ≤ 6 := hS.1
    refine ⟨db, dt, dr, ds, hD, fun post k fi h => go_y (nI_le (Nat.le_refl _) (by omega)) (fun x ex => by rw [ex, nI_1]; exact h), fun post tk k th fs h => ?_⟩
    rw [if_neg (by omega)]
    exact go_y rfl (fun x ex => by rw [ex, nI_1]; exact h)
  | succ d ih =>
    intro i nd db dt dr ds hi hn hD
    have hm6 : m ≤ 6 := hS.1
    obtain ⟨q1, q2⟩ := hS.2.1 i (by omega)
    have hv6 : vp_in (nI i) 6 := vin (by omega) (by omega)
    have hv3 : vp_in (nI nd) 300 := vin (by omega) (by omega)
    have hD' : DR ms (nd + 1) (upd db nd (nI (6 * t + od i))) (upd dt nd (nI t)) (upd dr nd (nI (od i))) (upd ds nd (v (od i))) := by
      intro k hk
      by_cases e : k = nd
      · subst e
        exact ⟨t, od i, ht, q1, upd_s, upd_s, upd_s, by rw [upd_s, hm _ q1], by rw [hm _ q1]; exact q2⟩
      · obtain ⟨t', r', a1, a2, a3, a4, a5, a6, a7⟩ := hD k (by omega)
        exact ⟨t', r', a1, a2, by rw [upd_n e]; exact a3, by rw [upd_n e]; exact a4, by rw [upd_n e]; exact a5, by rw [upd_n e]; exact a6, a7⟩
    obtain ⟨db', dt', dr', ds', w1, w2, w3⟩ := ih (i + 1) (nd + 1) _ _ _ _ (by omega) (by omega) hD'
    have es : nd + 1 + d = nd + (d + 1) := by omega
    rw [es] at w1 w2 w3
    refine ⟨db', dt', dr', ds', w1, fun post k fi h => go_n (nI_ge (by omega) (by omega)) ⟨hv6, hv3, fun f ef x ex y ey => ?_⟩, fun post tk k th fs h => ?_⟩
    · rw [ef, ex, ey, nI_1, nI_1, cl (by omega), cl (by omega), ho i (by omega)]
      exact w2 post k fi h
    · rw [if_pos (by omega)]
      refine go_n (m1ne (by omega)) ⟨hv3, fun f ef => ⟨hv3, fun g eg => ?_⟩⟩
      rw [show (60 : Int32) * nI (od i) = nI (60 * od i) from pk_mul 60 _, nI_add]
      refine ⟨vin (by omega) (by omega), hv3, fun h1 eh x ex => sm_nextj ht q1 hs hm q2 (fun b hb => ?_)⟩
      rw [cl (by omega)] at ef eg
      rw [cl (by omega), cl (by omega), hm _ q1] at eh
      rw [ef, eg, eh, ex, nI_1, bst_of (i := i + 1) hS (by omega) (fun n hn' => ⟨fun z => ?_, fun z => ?_⟩) hb]
      · exact w3 post tk k th fs h
      · by_cases e : n ≤ i
        · by_cases e2 : n = i
          · rw [e2] at z; omega
          · have := hS.2.2.1 n i (by omega) (by omega)
            omega
        · omega
      · have := hS.2.2.1 i n (by omega) hn'
        omega
def nobody (ms : Nat → Int32) (t : Nat) : Prop := ∀ r, r < 6 → ms (60 * r + t) = -1
theorem jn_step {xs ms : Nat → Int32} {t nd : Nat} {order db dt dr ds : Nat → Int32} (ht : t < 60) (hd : ∀ r, r < 6 → xs (6 * t + r) = ms (60 * r + t) ∧ sec (ms (60 * r + t))) (hn : nd ≤ 5 * t) (hD : DR ms nd db dt dr ds) : ∃ (nd' : Nat) (w : Int32) (order' db' dt' dr' ds' : Nat → Int32), nd' ≤ 5 * (t + 1) ∧ DR ms nd' db' dt' dr' ds' ∧ sec w ∧ (nobody ms t → w = -1 ∧ nd' = nd ∧ db' = db) ∧ (∀ post n fi, (nobody ms t → fi t = -1) → wp_XD_joinAll_7 post xs n (nI (t + 1)) order' (upd fi t w) db' (nI nd') → wp_XD_joinAll_7 post xs (n + 1) (nI t) order fi db (nI nd)) ∧ (∀ post n tk th fs, ¬ tk ≤ nI t → wp_M_join_12 post tk ms n (nI (t + 1)) th (upd fs t w) (nI nd') dt' dr' ds' → wp_M_join_12 post tk ms (n + 1) (nI t) th fs (nI nd) dt dr ds) := by
  have hx : ∀ q, q < 6 → xs (6 * t + q) = (fun q => ms (60 * q + t)) q := fun q hq => (hd q hq).1
  have hs : ∀ q, q < 6 → sec ((fun q => ms (60 * q + t)) q) := fun q hq => (hd q hq).2
  have hm : ∀ q, q < 6 → ms (60 * q + t) = (fun q => ms (60 * q + t)) q := fun q hq => rfl
  obtain ⟨m, od, order', hS, ho, so⟩ := sx_sort ht hs hx 6 0 0 (fun _ => 0) order (by omega) ⟨by omega, fun i hi => by omega, fun i j _ hj => by omega, fun q hq => by omega⟩ (fun i hi => by omega)
  have hm6 : m ≤ 6 := hS.1
  have hge : ¬ (60 : Int32) ≤ nI t := nI_ge (b := 60) (by omega) (by omega)
  have b0 : ∀ b, BST (fun q => ms (60 * q + t)) 0 6 b → b = if 0 < m then nI (od 0) else -1 := fun b hb => bst_of (i := 0) hS (by omega) (fun n _ => ⟨fun _ => by omega, fun _ => by omega⟩) hb
  have hv : vp_in (nI t) 60 := vin (by omega) (by omega)
  by_cases e : m = 0
  · have hN : nobody ms t := fun r hr => by
      by_cases z : ms (60 * r + t) = -1
      · exact z
      · obtain ⟨i, hi, -⟩ := hS.2.2.2 r hr z
        omega
    refine ⟨nd, -1, order', db, dt, dr, ds, by omega, hD, Or.inl rfl, fun _ => ⟨rfl, rfl, rfl⟩, fun post n fi hf h => go_n hge ⟨7, so _ ?_⟩, fun post n tk th fs hk h => go_n hk (sm_next0 ht hs hm (fun b hb => ?_))⟩
    · subst e
      refine go_y (by decide) ⟨1, go_y (by decide) (fun x ex => ?_)⟩
      rw [ex, nI_1]
      have eq : upd fi t (-1) = fi := by rw [← hf hN]; exact upd_id
      rw [eq] at h
      exact h
    · rw [b0 b hb, if_neg (by omega)]
      refine go_y rfl ⟨hv, fun f ef => go_y rfl ⟨1, go_y rfl (fun x ex => ?_)⟩⟩
      rw [ef, ex, nI_1, cl (by omega)]
      exact h
  · obtain ⟨q1, q2⟩ := hS.2.1 0 (by omega)
    obtain ⟨db', dt', dr', ds', w1, w2, w3⟩ := jn_in (xs := xs) ht hs hm hS ho (m - 1) 1 nd db dt dr ds (by omega) (by omega) hD
    refine ⟨nd + (m - 1), ms (60 * od 0 + t), order', db', dt', dr', ds', by omega, w1, (hd _ q1).2, fun z => absurd (z _ q1) q2, fun post n fi hf h => go_n hge ⟨7, so _ ?_⟩, fun post n tk th fs hk h => go_n hk (sm_next0 ht hs hm (fun b hb => ?_))⟩
    · refine go_n (nI_nle (by omega) (by omega)) ?_
      rw [show (0 : Int32).toNatClampNeg = 0 from rfl, ho 0 (by omega), cl (by omega), cl (by omega), (hd _ q1).1]
      exact ⟨vin (by omega) (by omega), hv, fun f ef => ⟨m - 1 + 1, w2 _ _ _ (by rw [ef]; exact h)⟩⟩
    · rw [b0 b hb, if_pos (by omega)]
      refine go_n (m1ne (by omega)) ?_
      rw [show (60 : Int32) * nI (od 0) = nI (60 * od 0) from pk_mul 60 _, nI_add, cl (by omega)]
      refine ⟨vin (by omega) (by omega), hv, fun f ef => go_n (m1ne (by omega)) (sm_nextj ht q1 hs hm q2 (fun b hb => ⟨m - 1 + 1, ?_⟩))⟩
      rw [bst_of (i := 1) hS (by omega) (fun n hn' => ⟨fun z => ?_, fun z => ?_⟩) hb]
      · exact w3 _ _ _ _ _ (by rw [ef, cl (by omega)]; exact h)
      · by_cases e2 : n = 0
        · rw [e2] at z; omega
        · omega
      · have := hS.2.2.1 0 n (by omega) hn'
        omega
theorem jn_tail {xs ms fi : Nat → Int32} {nd : Nat} {db dt dr ds : Nat → Int32} (hd : ∀ t r, t < 60 → r < 6 → xs (6 * t + r) = ms (60 * r + t) ∧ sec (ms (60 * r + t))) (hD : DR ms nd db dt dr ds) : ∀ (d t : Nat) (order : Nat → Int32), t + d = 60 → nd ≤ 5 * t → (∀ s, t ≤ s → s < 60 → nobody ms s ∧ fi s = -1) → ∃ order' : Nat → Int32, ∀ post, post (nI nd) (order', fi, db, nI nd) → wp_XD_joinAll_7 post xs (d + 1) (nI t) order fi db (nI nd) := by
  intro d
  induction d with
  | zero =>
    intro t order ht hn hN
    obtain rfl : t = 60 := by omega
    exact ⟨order, fun post h => go_y (by decide) h⟩
  | succ d ih =>
    intro t order ht hn hN
    obtain ⟨nd', w, order', db', dt', dr', ds', -, -, -, a4, a5, -⟩ := jn_step (order := order) (xs := xs) (show t < 60 by omega) (fun r hr => hd t r (by omega) hr) hn hD
    obtain ⟨h1, h2⟩ := hN t (Nat.le_refl _) (by omega)
    obtain ⟨rfl, rfl, rfl⟩ := a4 h1
    obtain ⟨order'', h3⟩ := ih (t + 1) order' (by omega) (by omega) (fun s h1 h2 => hN s (by omega) h2)
    refine ⟨order'', fun post h => a5 post _ fi (fun _ => h2) ?_⟩
    have eq : upd fi t (-1) = fi := by rw [← h2]; exact upd_id
    rw [eq]
    exact h3 post h
theorem jn_run {xs ms : Nat → Int32} {nT : Nat} {th : Int32} (h60 : nT ≤ 60) (hd : ∀ t r, t < 60 → r < 6 → xs (6 * t + r) = ms (60 * r + t) ∧ sec (ms (60 * r + t))) (hN : ∀ t, nT ≤ t → t < 60 → nobody ms t) : ∀ (d t nd : Nat) (fi fs order db dt dr ds : Nat → Int32), t + d = nT → nd ≤ 5 * t → DR ms nd db dt dr ds → (∀ s, s < 60 → fi s = fs s ∧ sec (fs s) ∧ (nobody ms s → fs s = -1)) → ∃ (nd' : Nat) (fi' fs' order' db' dt' dr' ds' : Nat → Int32), nd' ≤ 300 ∧ DR ms nd' db' dt' dr' ds' ∧ (∀ s, s < 60 → fi' s = fs' s ∧ sec (fs' s) ∧ (nobody ms s → fs' s = -1)) ∧ (∀ post, post (nI nd') (order', fi', db', nI nd') → wp_XD_joinAll_7 post xs (d + (60 - nT) + 1) (nI t) order fi db (nI nd)) ∧ (∀ post, post (nI nd') (th, fs', nI nd', dt', dr', ds') → wp_M_join_12 post (nI nT) ms (d + 1) (nI t) th fs (nI nd) dt dr ds) := by
  intro d
  induction d with
  | zero =>
    intro t nd fi fs order db dt dr ds ht hn hD hf
    obtain rfl : t = nT := by omega
    obtain ⟨order', h⟩ := jn_tail (xs := xs) (fi := fi) hd hD (60 - t) t order (by omega) hn (fun s h1 h2 => ⟨hN s h1 h2, by rw [(hf s h2).1]; exact (hf s h2).2.2 (hN s h1 h2)⟩)
    rw [show 0 + (60 - t) + 1 = 60 - t + 1 by omega]
    exact ⟨nd, fi, fs, order', db, dt, dr, ds, by omega, hD, hf, h, fun post h => go_y (nI_le (Nat.le_refl _) (by omega)) h⟩
  | succ d ih =>
    intro t nd fi fs order db dt dr ds ht hn hD hf
    obtain ⟨nd', w, order', db', dt', dr', ds', a1, a2, a3, a4, a5, a6⟩ := jn_step (order := order) (xs := xs) (show t < 60 by omega) (fun r hr => hd t r (by omega) hr) hn hD
    obtain ⟨n2, fi2, fs2, or2, db2, dt2, dr2, ds2, b1, b2, b3, b4, b5⟩ := ih (t + 1) nd' (upd fi t w) (upd fs t w) order' db' dt' dr' ds' (by omega) a1 a2 (fun s hs => by
      by_cases e : s = t
      · subst e; rw [upd_s, upd_s]; exact ⟨rfl, a3, fun z => (a4 z).1⟩
      · rw [upd_n e, upd_n e]; exact hf s hs)
    refine ⟨n2, fi2, fs2, or2, db2, dt2, dr2, ds2, b1, b2, b3, fun post h => ?_, fun post h => a6 post _ _ _ _ (nI_ge (by omega) (by omega)) (b5 post h)⟩
    rw [show d + 1 + (60 - nT) + 1 = d + (60 - nT) + 1 + 1 by omega]
    exact a5 post _ fi (fun z => by rw [(hf t (by omega)).1]; exact (hf t (by omega)).2.2 z) (b4 post h)
set_option maxHeartbeats 1000000 in
theorem case_1050 {L j : Nat} {xs : Nat → Int32} {k_ : Int32 → (Nat → Int32) → (Nat → Int32) → (Nat → Int32) → (Nat → Int32) → (Nat → Int32) → Int32 → (Nat → Int32) → (Nat → Int32) → (Nat → Int32) → (Nat → Int32) → Int32 → (Nat → Int32) → (Nat → Int32) → (Nat → Int32) → (Nat → Int32) → Int32 → Int32 → (Nat → Int64) → (Nat → Int32) → Int32 → (Nat → Int32) → (Nat → Int32) → Int32 → (Nat → Int32) → (Nat → Int32) → Int32 → Int32 → Int32 → Int32 → Int32 → (Nat → Int32) → (Nat → Int32) → (Nat → Int32) → (Nat → Int32) → Int32 → (Nat → Int32) → Int32 → Int32 → (Nat → Int32) → (Nat → Int32) → (Nat → Int32) → (Nat → Int32) → (Nat → Int32) → Int32 → (Nat → Int32) → (Nat → Int32) → (Nat → Int32) → (Nat → Int32) → (Nat → Int32) → Int32 → (Nat → Int32) → (Nat → Int32) → (Nat → Int32) → (Nat → Int32) → Int32 → (Nat → Int32) → Int32 → (Nat → Int32) → (Nat → Int32) → (Nat → Int32) → Int32 → (Nat → Int32) → (Nat → Int32) → (Nat → Int32) → (Nat → Int32) → (Nat → Int32) → Int32 → (Nat → Int32) → (Nat → Int32) → (Nat → Int32) → (Nat → Int32) → (Nat → Int64) → Prop} {l_4 : Int32} {x_slots_places : Nat → Int32} {x_slots_above : Nat → Int32} {x_slots_below : Nat → Int32} {x_slots_most : Nat → Int32} {x_slots_sold : Nat → Int32} {x_slots_made : Int32} {x_tickets_slot : Nat → Int32} {x_tickets_guests : Nat → Int32} {x_tickets_kind : Nat → Int32} {x_tickets_returned : Nat → Int32} {x_tickets_made : Int32} {x_requests_slot : Nat → Int32} {x_requests_guests : Nat → Int32} {x_requests_kind : Nat → Int32} {x_requests_ticket : Nat → Int32} {x_requests_made : Int32} {x_requests_served : Int32} {x_chances_ways : Nat → Int64} {x_tariff_text : Nat → Int32} {x_tariff_length : Int32} {x_tariff_prices : Nat → Int32} {x_tariff_percents : Nat → Int32} {x_tariff_clauses : Int32} {x_tariff_newPrices : Nat → Int32} {x_tariff_newPercents : Nat → Int32} {x_tariff_newClauses : Int32} {x_tariff_state : Int32} {x_tariff_subject : Int32} {x_tariff_number : Int32} {x_tariff_digits : Int32} {x_doors_seconds : Nat → Int32} {x_doors_order : Nat → Int32} {x_doors_firstIn : Nat → Int32} {x_doors_doubles : Nat → Int32} {x_doors_found : Int32} {x_doors_goneOut : Nat → Int32} {m_thrown : Int32} {m_slots : Int32} {m_places : Nat → Int32} {m_aboves : Nat → Int32} {m_belows : Nat → Int32} {m_riskAboves : Nat → Int32} {m_riskBelows : Nat → Int32} {m_tickets : Int32} {m_slotOf : Nat → Int32} {m_guests : Nat → Int32} {m_kinds : Nat → Int32} {m_returned : Nat → Int32} {m_outs : Nat → Int32} {m_requests : Int32} {m_requestSlots : Nat → Int32} {m_requestGuests : Nat → Int32} {m_requestKinds : Nat → Int32} {m_givens : Nat → Int32} {m_length : Int32} {m_text : Nat → Int32} {m_clauses : Int32} {m_sorts : Nat → Int32} {m_ones : Nat → Int32} {m_twos : Nat → Int32} {m_found : Int32} {m_readSorts : Nat → Int32} {m_readOnes : Nat → Int32} {m_readTwos : Nat → Int32} {m_seconds : Nat → Int32} {m_firsts : Nat → Int32} {m_doubles : Int32} {m_doubleTickets : Nat → Int32} {m_doubleReaders : Nat → Int32} {m_doubleSeconds : Nat → Int32} {m_digits : Nat → Int32} {o_ : Nat → Int64} (hL : L ≤ 3072) (hj : 6 * j + 6 ≤ L) (e4 : l_4 = nI (6 * j)) (hI : INV x_slots_places x_slots_above x_slots_below x_slots_most x_slots_sold x_slots_made x_tickets_slot x_tickets_guests x_tickets_kind x_tickets_returned x_tickets_made x_requests_slot x_requests_guests x_requests_kind x_requests_ticket x_requests_made x_requests_served x_chances_ways x_tariff_text x_tariff_length x_tariff_prices x_tariff_percents x_tariff_clauses x_tariff_newPrices x_tariff_newPercents x_tariff_newClauses x_tariff_state x_tariff_subject x_tariff_number x_tariff_digits x_doors_seconds x_doors_order x_doors_firstIn x_doors_doubles x_doors_found x_doors_goneOut m_thrown m_slots m_places m_aboves m_belows m_riskAboves m_riskBelows m_tickets m_slotOf m_guests m_kinds m_returned m_outs m_requests m_requestSlots m_requestGuests m_requestKinds m_givens m_length m_text m_clauses m_sorts m_ones m_twos m_found m_readSorts m_readOnes m_readTwos m_seconds m_firsts m_doubles m_doubleTickets m_doubleReaders m_doubleSeconds m_digits o_) (hk : ∀ (x_slots_places : Nat → Int32) (x_slots_above : Nat → Int32) (x_slots_below : Nat → Int32) (x_slots_most : Nat → Int32) (x_slots_sold : Nat → Int32) (x_slots_made : Int32) (x_tickets_slot : Nat → Int32) (x_tickets_guests : Nat → Int32) (x_tickets_kind : Nat → Int32) (x_tickets_returned : Nat → Int32) (x_tickets_made : Int32) (x_requests_slot : Nat → Int32) (x_requests_guests : Nat → Int32) (x_requests_kind : Nat → Int32) (x_requests_ticket : Nat → Int32) (x_requests_made : Int32) (x_requests_served : Int32) (x_chances_ways : Nat → Int64) (x_tariff_text : Nat → Int32) (x_tariff_length : Int32) (x_tariff_prices : Nat → Int32) (x_tariff_percents : Nat → Int32) (x_tariff_clauses : Int32) (x_tariff_newPrices : Nat → Int32) (x_tariff_newPercents : Nat → Int32) (x_tariff_newClauses : Int32) (x_tariff_state : Int32) (x_tariff_subject : Int32) (x_tariff_number : Int32) (x_tariff_digits : Int32) (x_doors_seconds : Nat → Int32) (x_doors_order : Nat → Int32) (x_doors_firstIn : Nat → Int32) (x_doors_doubles : Nat → Int32) (x_doors_found : Int32) (x_doors_goneOut : Nat → Int32) (m_thrown : Int32) (m_slots : Int32) (m_places : Nat → Int32) (m_aboves : Nat → Int32) (m_belows : Nat → Int32) (m_riskAboves : Nat → Int32) (m_riskBelows : Nat → Int32) (m_tickets : Int32) (m_slotOf : Nat → Int32) (m_guests : Nat → Int32) (m_kinds : Nat → Int32) (m_returned : Nat → Int32) (m_outs : Nat → Int32) (m_requests : Int32) (m_requestSlots : Nat → Int32) (m_requestGuests : Nat → Int32) (m_requestKinds : Nat → Int32) (m_givens : Nat → Int32) (m_length : Int32) (m_text : Nat → Int32) (m_clauses : Int32) (m_sorts : Nat → Int32) (m_ones : Nat → Int32) (m_twos : Nat → Int32) (m_found : Int32) (m_readSorts : Nat → Int32) (m_readOnes : Nat → Int32) (m_readTwos : Nat → Int32) (m_seconds : Nat → Int32) (m_firsts : Nat → Int32) (m_doubles : Int32) (m_doubleTickets : Nat → Int32) (m_doubleReaders : Nat → Int32) (m_doubleSeconds : Nat → Int32) (m_digits : Nat → Int32) (o_ : Nat → Int64), INV x_slots_places x_slots_above x_slots_below x_slots_most x_slots_sold x_slots_made x_tickets_slot x_tickets_guests x_tickets_kind x_tickets_returned x_tickets_made x_requests_slot x_requests_guests x_requests_kind x_requests_ticket x_requests_made x_requests_served x_chances_ways x_tariff_text x_tariff_length x_tariff_prices x_tariff_percents x_tariff_clauses x_tariff_newPrices x_tariff_newPercents x_tariff_newClauses x_tariff_state x_tariff_subject x_tariff_number x_tariff_digits x_doors_seconds x_doors_order x_doors_firstIn x_doors_doubles x_doors_found x_doors_goneOut m_thrown m_slots m_places m_aboves m_belows m_riskAboves m_riskBelows m_tickets m_slotOf m_guests m_kinds m_returned m_outs m_requests m_requestSlots m_requestGuests m_requestKinds m_givens m_length m_text m_clauses m_sorts m_ones m_twos m_found m_readSorts m_readOnes m_readTwos m_seconds m_firsts m_doubles m_doubleTickets m_doubleReaders m_doubleSeconds m_digits o_ → k_ (l_4 + (6 : Int32)) x_slots_places x_slots_above x_slots_below x_slots_most x_slots_sold x_slots_made x_tickets_slot x_tickets_guests x_tickets_kind x_tickets_returned x_tickets_made x_requests_slot x_requests_guests x_requests_kind x_requests_ticket x_requests_made x_requests_served x_chances_ways x_tariff_text x_tariff_length x_tariff_prices x_tariff_percents x_tariff_clauses x_tariff_newPrices x_tariff_newPercents x_tariff_newClauses x_tariff_state x_tariff_subject x_tariff_number x_tariff_digits x_doors_seconds x_doors_order x_doors_firstIn x_doors_doubles x_doors_found x_doors_goneOut m_thrown m_slots m_places m_aboves m_belows m_riskAboves m_riskBelows m_tickets m_slotOf m_guests m_kinds m_returned m_outs m_requests m_requestSlots m_requestGuests m_requestKinds m_givens m_length m_text m_clauses m_sorts m_ones m_twos m_found m_readSorts m_readOnes m_readTwos m_seconds m_firsts m_doubles m_doubleTickets m_doubleReaders m_doubleSeconds m_digits o_) : wp_L_law_1050 L xs k_ l_4 x_slots_places x_slots_above x_slots_below x_slots_most x_slots_sold x_slots_made x_tickets_slot x_tickets_guests x_tickets_kind x_tickets_returned x_tickets_made x_requests_slot x_requests_guests x_requests_kind x_requests_ticket x_requests_made x_requests_served x_chances_ways x_tariff_text x_tariff_length x_tariff_prices x_tariff_percents x_tariff_clauses x_tariff_newPrices x_tariff_newPercents x_tariff_newClauses x_tariff_state x_tariff_subject x_tariff_number x_tariff_digits x_doors_seconds x_doors_order x_doors_firstIn x_doors_doubles x_doors_found x_doors_goneOut m_thrown m_slots m_places m_aboves m_belows m_riskAboves m_riskBelows m_tickets m_slotOf m_guests m_kinds m_returned m_outs m_requests m_requestSlots m_requestGuests m_requestKinds m_givens m_length m_text m_clauses m_sorts m_ones m_twos m_found m_readSorts m_readOnes m_readTwos m_seconds m_firsts m_doubles m_doubleTickets m_doubleReaders m_doubleSeconds m_digits o_ := by
  obtain ⟨nS, nT, nR, sl, gu, ki, re, hS, hT, hSo, hR, hX, hU, hD⟩ := hI
  obtain ⟨v0, v1, v2, v3, v4, v5⟩ := script_in hL hj e4
  obtain ⟨t1, t2, t3, t4, t5, t6⟩ := id hT
  obtain ⟨d1, d2, d3, d4, d5, d6⟩ := id hD
  subst t3
  obtain ⟨nd, fi, fs, od, db, dt, dr, ds, b1, b2, b3, b4, b5⟩ := jn_run (xs := x_doors_seconds) (th := 0) t1 d1 (fun t h1 h2 r hr => d2 t r h1 h2 hr) nT 0 0 x_doors_firstIn m_firsts x_doors_order x_doors_doubles m_doubleTickets m_doubleReaders m_doubleSeconds (by omega) (by omega) (fun k hk => by omega) (fun s hs => ⟨(d3 s hs).1, (d3 s hs).2, d4 s hs⟩)
  refine ⟨_, b4 _ ?_⟩

  refine ⟨_, b5 _ ⟨fun _ x hx => ?_, fun z => absurd rfl z⟩⟩
  subst hx
  exact hk _ _ _ _ _ _ _ _ _ _ _ _ _ _ _ _ _ _ _ _ _ _ _ _ _ _ _ _ _ _ _ _ _ _ _ _ _ _ _ _ _ _ _ _ _ _ _ _ _ _ _ _ _ _ _ _ _ _ _ _ _ _ _ _ _ _ _ _ _ _ _ _ ⟨nS, nT, nR, sl, gu, ki, re, hS, hT, hSo, hR, hX, hU, d1, d2, fun t ht => ⟨(b3 t ht).1, (b3 t ht).2.1⟩, fun t ht => (b3 t ht).2.2, d5, nd, b1, rfl, rfl, b2⟩
