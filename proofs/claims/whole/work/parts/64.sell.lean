-- tickets that are added, and what is sold
def updN (f : Nat → Nat) (k v : Nat) : Nat → Nat := fun j => if j = k then v else f j
theorem updN_s {f : Nat → Nat} {k v : Nat} : updN f k v k = v := if_pos rfl
theorem updN_n {f : Nat → Nat} {k v j : Nat} (h : j ≠ k) : updN f k v j = f j := if_neg h
theorem sold_c {sl gu re sl' gu' re' : Nat → Nat} {k : Nat} : ∀ n, (∀ t, t < n → sl t = sl' t ∧ gu t = gu' t ∧ re t = re' t) → soldN sl gu re k n = soldN sl' gu' re' k n := by
  intro n
  induction n with
  | zero => intro _; rfl
  | succ n ih =>
    intro h
    obtain ⟨h1, h2, h3⟩ := h n (by omega)
    rw [soldN, soldN, ih (fun t ht => h t (by omega)), h1, h2, h3]
theorem sold_b {sl gu re : Nat → Nat} {k : Nat} : ∀ n, (∀ t, t < n → gu t ≤ 9) → soldN sl gu re k n ≤ 9 * n := by
  intro n
  induction n with
  | zero => intro _; exact Nat.le_refl _
  | succ n ih =>
    intro h
    have h1 := h n (by omega)
    have h2 := ih (fun t ht => h t (by omega))
    rw [soldN]
    split <;> omega
theorem mgo_b {tm : Nat → Bool} : ∀ f n, mgo tm f n ≤ n + f := by
  intro f
  induction f with
  | zero => intro n; exact Nat.le_refl _
  | succ f ih =>
    intro n
    rw [mgo]
    split
    · omega
    · have := ih (n + 1)
      omega
theorem most_b {p a b ra rb : Nat} (hp : p ≤ 20) : mostN p a b ra rb ≤ 28 := by
  have := mgo_b (tm := fun n => decide (ra * b ^ n < tooMany a b p n * rb)) 8 p
  unfold mostN
  omega
theorem it_add {nS nT s g k : Nat} {sl gu ki re : Nat → Nat} {xs xg xk xr ms mg mk mr : Nat → Int32} {xn mn : Int32} (hT : IT nS nT sl gu ki re xs xg xk xr xn mn ms mg mk mr) (hn : nT < 60) (hs : s < nS) (hg1 : 1 ≤ g) (hg2 : g ≤ 9) (hk : k < 5) : IT nS (nT + 1) (updN sl nT s) (updN gu nT g) (updN ki nT k) re (upd xs nT (nI s)) (upd xg nT (nI g)) (upd xk nT (nI k)) xr (nI (nT + 1)) (nI (nT + 1)) (upd ms nT (nI s)) (upd mg nT (nI g)) (upd mk nT (nI k)) mr := by
  obtain ⟨t1, t2, t3, t4, t5, t6⟩ := hT
  refine ⟨by omega, rfl, rfl, fun t ht => ?_, t5, fun t ht => t6 t (by omega)⟩
  by_cases e : t = nT
  · subst e
    rw [updN_s, updN_s, updN_s, upd_s, upd_s, upd_s, upd_s, upd_s, upd_s]
    exact ⟨hs, hg1, hg2, hk, rfl, rfl, rfl, rfl, rfl, rfl⟩
  · rw [updN_n e, updN_n e, updN_n e, upd_n e, upd_n e, upd_n e, upd_n e, upd_n e, upd_n e]
    exact t4 t (by omega)
theorem iso_add {nS nT s g : Nat} {sl gu re : Nat → Nat} {so : Nat → Int32} (hSo : ISo nS nT sl gu re so) (hr : re nT = 0) (hs : s < nS) : ISo nS (nT + 1) (updN sl nT s) (updN gu nT g) re (upd so s (nI (soldN sl gu re s nT + g))) := by
  obtain ⟨o1, o2⟩ := hSo
  have cg : ∀ k, soldN (updN sl nT s) (updN gu nT g) re k nT = soldN sl gu re k nT := fun k => sold_c nT (fun t ht => ⟨updN_n (by omega), updN_n (by omega), rfl⟩)
  refine ⟨fun k hk => ?_, fun k h1 h2 => by rw [upd_n (by omega)]; exact o2 k h1 h2⟩
  rw [soldN, cg, updN_s, updN_s]
  by_cases e : k = s
  · subst e
    rw [upd_s, if_pos ⟨rfl, hr⟩]
  · rw [upd_n e, if_neg (fun z => e z.1.symm), Nat.add_zero]
    exact o1 k hk
theorem sm_sold {post : Int32 → Unit → Prop} {nS nT k : Nat} {sl gu ki re : Nat → Nat} {xs xg xk xr ms mg mk mr : Nat → Int32} {xn mn : Int32} (hT : IT nS nT sl gu ki re xs xg xk xr xn mn ms mg mk mr) (h8 : nS ≤ 8) (hk : k < nS) (h : post (nI (soldN sl gu re k nT)) ()) : wp_M_sold post (nI k) (nI nT) ms mg mr := by
  obtain ⟨t1, t2, t3, t4, t5, t6⟩ := hT
  have loop : ∀ (d t : Nat), t + d = nT → wp_M_sold_4 post (nI nT) ms mg mr (d + 1) (nI k) (nI (soldN sl gu re k t)) (nI t) := by
    intro d
    induction d with
    | zero =>
      intro t ht
      obtain rfl : t = nT := by omega
      exact go_y (nI_le (Nat.le_refl _) (by omega)) h
    | succ d ih =>
      intro t ht
      have hv : vp_in (nI t) 60 := vin (by omega) (by omega)
      obtain ⟨a1, a2, a3, a4, a5, a6, a7, a8, -⟩ := t4 t (by omega)
      obtain ⟨b1, b2, b3⟩ := t5 t (by omega)
      have IH := ih (t + 1) (by omega)
      refine go_n (nI_ge (by omega) (by omega)) ⟨hv, ?_⟩
      rw [cl (by omega), a6, a8, b3]
      by_cases e : sl t = k
      · refine go_y (by rw [e]) ⟨hv, ?_⟩
        by_cases e2 : re t = 0
        · refine go_y (by rw [e2]; rfl) ⟨hv, fun x ex y ey => ?_⟩
          rw [soldN, if_pos ⟨e, e2⟩] at IH
          rw [ex, ey, nI_1, nI_add]
          exact IH
        · refine go_n (fun z => e2 ((nI_eq (b := 0) (by omega) (by omega)).mp z)) (fun y ey => ?_)
          rw [soldN, if_neg (fun z => e2 z.2)] at IH
          rw [ey, nI_1]
          exact IH
      · refine go_n (nn (by omega) (by omega) e) (fun y ey => ?_)
        rw [soldN, if_neg (fun z => e z.1)] at IH
        rw [ey, nI_1]
        exact IH
  exact ⟨nT + 1, loop nT 0 (by omega)⟩
theorem sx_hasRoom {post : Int32 → Unit → Prop} {mo so : Nat → Int32} {s g m o : Nat} (hs : s < 8) (hg : g ≤ 9) (hm : m < 2 ^ 20) (ho : o < 2 ^ 20) (em : mo s = nI m) (eo : so s = nI o) (h0 : m < o + g → post 0 ()) (h1 : o + g ≤ m → post 1 ()) : wp_XS_hasRoom post (nI s) (nI g) mo so := by
  unfold wp_XS_hasRoom
  rw [cl (by omega), em, eo, nI_add]
  refine ⟨vin hs (by omega), vin hs (by omega), ?_⟩
  by_cases e : m < o + g
  · exact go_y (nI_lt e (by omega)) (h0 e)
  · exact go_n (fun z => e ((nI_ltI (by omega) (by omega)).mp z)) (h1 (by omega))
theorem sx_issue {post : Int32 → ((Nat → Int32) × (Nat → Int32) × (Nat → Int32) × (Nat → Int32) × Int32) → Prop} {so xs xg xk : Nat → Int32} {s g k o nT : Nat} (hs : s < 8) (hn : nT < 60) (eo : so s = nI o) (h : post (nI nT) (upd so s (nI (o + g)), upd xs nT (nI s), upd xg nT (nI g), upd xk nT (nI k), nI (nT + 1))) : wp_X_issue post (nI s) (nI g) (nI k) so xs xg xk (nI nT) := by
  unfold wp_X_issue
  have hv : vp_in (nI nT) 60 := vin hn (by omega)
  rw [cl (by omega), eo, nI_add]
  refine ⟨vin hs (by omega), vin hs (by omega), fun f ef => ?_⟩
  refine ⟨hv, fun f1 e1 => ⟨hv, fun f2 e2 => ⟨hv, fun f3 e3 x ex => ?_⟩⟩⟩
  rw [cl (by omega)] at e1 e2 e3
  rw [ef, e1, e2, e3, ex, nI_1]
  exact h
theorem sm_give {post : Int32 → (Int32 × (Nat → Int32) × (Nat → Int32) × (Nat → Int32)) → Prop} {ms mg mk : Nat → Int32} {s g k nT : Nat} (hn : nT < 60) (h : post (nI nT) (nI (nT + 1), upd ms nT (nI s), upd mg nT (nI g), upd mk nT (nI k))) : wp_M_give post (nI s) (nI g) (nI k) (nI nT) ms mg mk := by
  have hv : vp_in (nI nT) 60 := vin hn (by omega)
  refine ⟨hv, fun f1 e1 => ⟨hv, fun f2 e2 => ⟨hv, fun f3 e3 x ex => ?_⟩⟩⟩
  rw [cl (by omega)] at e1 e2 e3
  rw [e1, e2, e3, ex, nI_1, nI_pred]
  exact h
-- sell
theorem sx_sell {post : Int32 → ((Nat → Int32) × (Nat → Int32) × (Nat → Int32) × (Nat → Int32) × Int32) → Prop} {px : String → Prop} {a b c u : Int32} {mo so xs xg xk : Nat → Int32} {nS nT : Nat} (hS : nS ≤ 8) (hn : nT ≤ 60) (e : u = nI nS) (h0 : (bad a nS ∨ bad c 5) → px "java/lang/IndexOutOfBoundsException") (h1 : ¬ (bad a nS ∨ bad c 5) → nT = 60 → px "java/lang/IllegalStateException") (h2 : ¬ (bad a nS ∨ bad c 5) → nT < 60 → (b < 1 ∨ (9 : Int32) < b) → px "java/lang/IllegalArgumentException") (h3 : ∀ s k g : Nat, s < nS → k < 5 → 1 ≤ g → g ≤ 9 → a = nI s → c = nI k → b = nI g → nT < 60 → ∃ m o, m < 2 ^ 20 ∧ o < 2 ^ 20 ∧ mo s = nI m ∧ so s = nI o ∧ (m < o + g → post (-1) (so, xs, xg, xk, nI nT)) ∧ (o + g ≤ m → post (nI nT) (upd so s (nI (o + g)), upd xs nT (nI s), upd xg nT (nI g), upd xk nT (nI k), nI (nT + 1)))) : wp_X_sell post px a b c mo so u xs xg xk (nI nT) := by
  refine sx_needSlot (by omega) e (fun h => h0 (Or.inl h)) (fun s hs es => sx_needKind (fun h => h0 (Or.inr h)) (fun k hk ek => ?_))
  have hg : ¬ (bad a nS ∨ bad c 5) := by
    rintro (h | h)
    · rw [es] at h; exact nbad hs (by omega) h
    · rw [ek] at h; exact nbad hk (by omega) h
  by_cases hl : nT < 60
  · refine go_y (nI_lt (b := 60) hl (by omega)) (sx_needGroup (h2 hg hl) (fun p q => ?_))
    obtain ⟨g, g1, g2, eg⟩ := rng (lo := 1) (hi := 9) (by omega) p q (by omega)
    obtain ⟨m, o, hm, ho, em, eo, r0, r1⟩ := h3 s k g hs hk g1 g2 es ek eg hl
    subst es; subst ek; subst eg
    exact sx_hasRoom (by omega) g2 hm ho em eo (fun z => go_y rfl (r0 z)) (fun z => go_n (by decide) (sx_issue (by omega) hl eo (r1 z)))
  · exact go_n (fun z => hl ((nI_ltI (b := 60) (by omega) (by omega)).mp z)) (h1 hg (by omega))
theorem sm_sell37 {post : Int32 → (Int32 × Int32 × (Nat → Int32) × (Nat → Int32) × (Nat → Int32) × (Nat → Int32)) → Prop} {a b c s0 s1 th v w : Int32} {pl av be rav rbv mr ms mg mk md : Nat → Int32} (h : s1 = 0 → post 0 (1, w, ms, mg, mk, md)) (h2 : s1 = 1 → s0 = 0 → post 0 (2, w, ms, mg, mk, md)) (hs : s1 = 0 ∨ (s1 = 1 ∧ s0 = 0)) : wp_M_sell_37 post v pl av be rav rbv mr a b c s0 s1 th w ms mg mk md := by
  unfold wp_M_sell_37
  rcases hs with q | ⟨q, q2⟩
  · subst q
    exact sm_within (fun _ => sm_goes1 (go_y rfl (h rfl))) (fun _ _ => sm_goes1 (go_y rfl (h rfl)))
  · subst q; subst q2
    exact sm_within (fun _ => sm_goes2 (go_y rfl (h2 rfl rfl))) (fun _ _ => sm_goes2 (go_y rfl (h2 rfl rfl)))
theorem sm_sell {post : Int32 → (Int32 × Int32 × (Nat → Int32) × (Nat → Int32) × (Nat → Int32) × (Nat → Int32)) → Prop} {a b c th u : Int32} {pl av be rav rbv md : Nat → Int32} {nS nT : Nat} {sl gu ki re : Nat → Nat} {xs xg xk xr ms mg mk mr : Nat → Int32} {xn mn : Int32} (hS : nS ≤ 8) (hT : IT nS nT sl gu ki re xs xg xk xr xn mn ms mg mk mr) (e : u = nI nS) (h0 : (bad a nS ∨ bad c 5) → post 0 (1, nI nT, ms, mg, mk, md)) (h1 : ¬ (bad a nS ∨ bad c 5) → nT = 60 → post 0 (2, nI nT, ms, mg, mk, md)) (h2 : ¬ (bad a nS ∨ bad c 5) → nT < 60 → (b < 1 ∨ (9 : Int32) < b) → post 0 (3, nI nT, ms, mg, mk, md)) (h3 : ∀ s k g : Nat, s < nS → k < 5 → 1 ≤ g → g ≤ 9 → a = nI s → c = nI k → b = nI g → nT < 60 → ∃ p a b ra rb : Nat, p ≤ 20 ∧ a ≤ b ∧ b ≤ 16 ∧ ra ≤ 1000 ∧ rb ≤ 1000 ∧ pl s = nI p ∧ av s = nI a ∧ be s = nI b ∧ rav s = nI ra ∧ rbv s = nI rb ∧ (mostN p a b ra rb < soldN sl gu re s nT + g → ∀ md', post (-1) (0, nI nT, ms, mg, mk, md')) ∧ (soldN sl gu re s nT + g ≤ mostN p a b ra rb → ∀ md', post (nI nT) (0, nI (nT + 1), upd ms nT (nI s), upd mg nT (nI g), upd mk nT (nI k), md'))) : wp_M_sell post a b c th u pl av be rav rbv (nI nT) ms mg mk mr md := by
  have hn := hT.1
  have bd : (bad a nS ∨ bad c 5) → wp_M_sell_22 post u pl av be rav rbv mr a b c th (nI nT) ms mg mk md := by
    intro h
    exact ⟨fun _ => sm_sell37 (fun _ => h0 h) (fun q => absurd q (by decide)) (Or.inl rfl), fun _ => sm_sell37 (fun _ => h0 h) (fun q => absurd q (by decide)) (Or.inl rfl)⟩
  refine sm_isSlot (by omega) e (fun h => go_y rfl (bd (Or.inl h))) (fun s hs es => go_n (by decide) (sm_lit 5 (by omega) (by decide) (fun h => go_y rfl (bd (Or.inr h))) (fun k hk ek => go_n (by decide) ?_)))
  have hg : ¬ (bad a nS ∨ bad c 5) := by
    rintro (h | h)
    · rw [es] at h; exact nbad hs (by omega) h
    · rw [ek] at h; exact nbad hk (by omega) h
  by_cases hl : nT < 60
  · refine go_n (nI_ge (b := 60) hl (by omega)) (sm_within (fun g => sm_goes3 (go_y rfl (h2 hg hl g))) (fun p1 p2 => sm_goes0 (go_n (by decide) ?_)))
    obtain ⟨g, g1, g2, eg⟩ := rng (lo := 1) (hi := 9) (by omega) p1 p2 (by omega)
    obtain ⟨p, a', b', ra, rb, q1, q2, q3, q4, q5, q6, q7, q8, q9, q10, r0, r1⟩ := h3 s k g hs hk g1 g2 es ek eg hl
    subst es; subst ek; subst eg
    have b1 := most_b (a := a') (b := b') (ra := ra) (rb := rb) q1
    have b2 := sold_b (sl := sl) (re := re) (k := s) nT (fun t ht => (hT.2.2.2.1 t ht).2.2.1)
    refine sm_sold hT hS hs (sm_mostOf (by omega) q1 q2 q3 q4 q5 q6 q7 q8 q9 q10 (fun md' => ?_))
    rw [nI_add]
    by_cases z : soldN sl gu re s nT + g ≤ mostN p a' b' ra rb
    · exact go_y (nI_le z (by omega)) (sm_give hl (r1 z md'))
    · exact go_n (nI_ge (by omega) (by omega)) (r0 (by omega) md')
  · exact go_y (nI_le (a := 60) (by omega) (by omega)) (sm_sell37 (fun q => absurd q (by decide)) (fun _ _ => h1 hg (by omega)) (Or.inr ⟨rfl, rfl⟩))
set_option maxHeartbeats 1000000 in
theorem case_412 {L j : Nat} {xs : Nat → Int32} {k_ : Int32 → (Nat → Int32) → (Nat → Int32) → (Nat → Int32) → (Nat → Int32) → (Nat → Int32) → Int32 → (Nat → Int32) → (Nat → Int32) → (Nat → Int32) → (Nat → Int32) → Int32 → (Nat → Int32) → (Nat → Int32) → (Nat → Int32) → (Nat → Int32) → Int32 → Int32 → (Nat → Int64) → (Nat → Int32) → Int32 → (Nat → Int32) → (Nat → Int32) → Int32 → (Nat → Int32) → (Nat → Int32) → Int32 → Int32 → Int32 → Int32 → Int32 → (Nat → Int32) → (Nat → Int32) → (Nat → Int32) → (Nat → Int32) → Int32 → (Nat → Int32) → Int32 → Int32 → (Nat → Int32) → (Nat → Int32) → (Nat → Int32) → (Nat → Int32) → (Nat → Int32) → Int32 → (Nat → Int32) → (Nat → Int32) → (Nat → Int32) → (Nat → Int32) → (Nat → Int32) → Int32 → (Nat → Int32) → (Nat → Int32) → (Nat → Int32) → (Nat → Int32) → Int32 → (Nat → Int32) → Int32 → (Nat → Int32) → (Nat → Int32) → (Nat → Int32) → Int32 → (Nat → Int32) → (Nat → Int32) → (Nat → Int32) → (Nat → Int32) → (Nat → Int32) → Int32 → (Nat → Int32) → (Nat → Int32) → (Nat → Int32) → (Nat → Int32) → (Nat → Int64) → Prop} {l_4 : Int32} {x_slots_places : Nat → Int32} {x_slots_above : Nat → Int32} {x_slots_below : Nat → Int32} {x_slots_most : Nat → Int32} {x_slots_sold : Nat → Int32} {x_slots_made : Int32} {x_tickets_slot : Nat → Int32} {x_tickets_guests : Nat → Int32} {x_tickets_kind : Nat → Int32} {x_tickets_returned : Nat → Int32} {x_tickets_made : Int32} {x_requests_slot : Nat → Int32} {x_requests_guests : Nat → Int32} {x_requests_kind : Nat → Int32} {x_requests_ticket : Nat → Int32} {x_requests_made : Int32} {x_requests_served : Int32} {x_chances_ways : Nat → Int64} {x_tariff_text : Nat → Int32} {x_tariff_length : Int32} {x_tariff_prices : Nat → Int32} {x_tariff_percents : Nat → Int32} {x_tariff_clauses : Int32} {x_tariff_newPrices : Nat → Int32} {x_tariff_newPercents : Nat → Int32} {x_tariff_newClauses : Int32} {x_tariff_state : Int32} {x_tariff_subject : Int32} {x_tariff_number : Int32} {x_tariff_digits : Int32} {x_doors_seconds : Nat → Int32} {x_doors_order : Nat → Int32} {x_doors_firstIn : Nat → Int32} {x_doors_doubles : Nat → Int32} {x_doors_found : Int32} {x_doors_goneOut : Nat → Int32} {m_thrown : Int32} {m_slots : Int32} {m_places : Nat → Int32} {m_aboves : Nat → Int32} {m_belows : Nat → Int32} {m_riskAboves : Nat → Int32} {m_riskBelows : Nat → Int32} {m_tickets : Int32} {m_slotOf : Nat → Int32} {m_guests : Nat → Int32} {m_kinds : Nat → Int32} {m_returned : Nat → Int32} {m_outs : Nat → Int32} {m_requests : Int32} {m_requestSlots : Nat → Int32} {m_requestGuests : Nat → Int32} {m_requestKinds : Nat → Int32} {m_givens : Nat → Int32} {m_length : Int32} {m_text : Nat → Int32} {m_clauses : Int32} {m_sorts : Nat → Int32} {m_ones : Nat → Int32} {m_twos : Nat → Int32} {m_found : Int32} {m_readSorts : Nat → Int32} {m_readOnes : Nat → Int32} {m_readTwos : Nat → Int32} {m_seconds : Nat → Int32} {m_firsts : Nat → Int32} {m_doubles : Int32} {m_doubleTickets : Nat → Int32} {m_doubleReaders : Nat → Int32} {m_doubleSeconds : Nat → Int32} {m_digits : Nat → Int32} {o_ : Nat → Int64} (hL : L ≤ 3072) (hj : 6 * j + 6 ≤ L) (e4 : l_4 = nI (6 * j)) (hI : INV x_slots_places x_slots_above x_slots_below x_slots_most x_slots_sold x_slots_made x_tickets_slot x_tickets_guests x_tickets_kind x_tickets_returned x_tickets_made x_requests_slot x_requests_guests x_requests_kind x_requests_ticket x_requests_made x_requests_served x_chances_ways x_tariff_text x_tariff_length x_tariff_prices x_tariff_percents x_tariff_clauses x_tariff_newPrices x_tariff_newPercents x_tariff_newClauses x_tariff_state x_tariff_subject x_tariff_number x_tariff_digits x_doors_seconds x_doors_order x_doors_firstIn x_doors_doubles x_doors_found x_doors_goneOut m_thrown m_slots m_places m_aboves m_belows m_riskAboves m_riskBelows m_tickets m_slotOf m_guests m_kinds m_returned m_outs m_requests m_requestSlots m_requestGuests m_requestKinds m_givens m_length m_text m_clauses m_sorts m_ones m_twos m_found m_readSorts m_readOnes m_readTwos m_seconds m_firsts m_doubles m_doubleTickets m_doubleReaders m_doubleSeconds m_digits o_) (hk : ∀ (x_slots_places : Nat → Int32) (x_slots_above : Nat → Int32) (x_slots_below : Nat → Int32) (x_slots_most : Nat → Int32) (x_slots_sold : Nat → Int32) (x_slots_made : Int32) (x_tickets_slot : Nat → Int32) (x_tickets_guests : Nat → Int32) (x_tickets_kind : Nat → Int32) (x_tickets_returned : Nat → Int32) (x_tickets_made : Int32) (x_requests_slot : Nat → Int32) (x_requests_guests : Nat → Int32) (x_requests_kind : Nat → Int32) (x_requests_ticket : Nat → Int32) (x_requests_made : Int32) (x_requests_served : Int32) (x_chances_ways : Nat → Int64) (x_tariff_text : Nat → Int32) (x_tariff_length : Int32) (x_tariff_prices : Nat → Int32) (x_tariff_percents : Nat → Int32) (x_tariff_clauses : Int32) (x_tariff_newPrices : Nat → Int32) (x_tariff_newPercents : Nat → Int32) (x_tariff_newClauses : Int32) (x_tariff_state : Int32) (x_tariff_subject : Int32) (x_tariff_number : Int32) (x_tariff_digits : Int32) (x_doors_seconds : Nat → Int32) (x_doors_order : Nat → Int32) (x_doors_firstIn : Nat → Int32) (x_doors_doubles : Nat → Int32) (x_doors_found : Int32) (x_doors_goneOut : Nat → Int32) (m_thrown : Int32) (m_slots : Int32) (m_places : Nat → Int32) (m_aboves : Nat → Int32) (m_belows : Nat → Int32) (m_riskAboves : Nat → Int32) (m_riskBelows : Nat → Int32) (m_tickets : Int32) (m_slotOf : Nat → Int32) (m_guests : Nat → Int32) (m_kinds : Nat → Int32) (m_returned : Nat → Int32) (m_outs : Nat → Int32) (m_requests : Int32) (m_requestSlots : Nat → Int32) (m_requestGuests : Nat → Int32) (m_requestKinds : Nat → Int32) (m_givens : Nat → Int32) (m_length : Int32) (m_text : Nat → Int32) (m_clauses : Int32) (m_sorts : Nat → Int32) (m_ones : Nat → Int32) (m_twos : Nat → Int32) (m_found : Int32) (m_readSorts : Nat → Int32) (m_readOnes : Nat → Int32) (m_readTwos : Nat → Int32) (m_seconds : Nat → Int32) (m_firsts : Nat → Int32) (m_doubles : Int32) (m_doubleTickets : Nat → Int32) (m_doubleReaders : Nat → Int32) (m_doubleSeconds : Nat → Int32) (m_digits : Nat → Int32) (o_ : Nat → Int64), INV x_slots_places x_slots_above x_slots_below x_slots_most x_slots_sold x_slots_made x_tickets_slot x_tickets_guests x_tickets_kind x_tickets_returned x_tickets_made x_requests_slot x_requests_guests x_requests_kind x_requests_ticket x_requests_made x_requests_served x_chances_ways x_tariff_text x_tariff_length x_tariff_prices x_tariff_percents x_tariff_clauses x_tariff_newPrices x_tariff_newPercents x_tariff_newClauses x_tariff_state x_tariff_subject x_tariff_number x_tariff_digits x_doors_seconds x_doors_order x_doors_firstIn x_doors_doubles x_doors_found x_doors_goneOut m_thrown m_slots m_places m_aboves m_belows m_riskAboves m_riskBelows m_tickets m_slotOf m_guests m_kinds m_returned m_outs m_requests m_requestSlots m_requestGuests m_requestKinds m_givens m_length m_text m_clauses m_sorts m_ones m_twos m_found m_readSorts m_readOnes m_readTwos m_seconds m_firsts m_doubles m_doubleTickets m_doubleReaders m_doubleSeconds m_digits o_ → k_ (l_4 + (6 : Int32)) x_slots_places x_slots_above x_slots_below x_slots_most x_slots_sold x_slots_made x_tickets_slot x_tickets_guests x_tickets_kind x_tickets_returned x_tickets_made x_requests_slot x_requests_guests x_requests_kind x_requests_ticket x_requests_made x_requests_served x_chances_ways x_tariff_text x_tariff_length x_tariff_prices x_tariff_percents x_tariff_clauses x_tariff_newPrices x_tariff_newPercents x_tariff_newClauses x_tariff_state x_tariff_subject x_tariff_number x_tariff_digits x_doors_seconds x_doors_order x_doors_firstIn x_doors_doubles x_doors_found x_doors_goneOut m_thrown m_slots m_places m_aboves m_belows m_riskAboves m_riskBelows m_tickets m_slotOf m_guests m_kinds m_returned m_outs m_requests m_requestSlots m_requestGuests m_requestKinds m_givens m_length m_text m_clauses m_sorts m_ones m_twos m_found m_readSorts m_readOnes m_readTwos m_seconds m_firsts m_doubles m_doubleTickets m_doubleReaders m_doubleSeconds m_digits o_) : wp_L_law_412 L xs k_ l_4 x_slots_places x_slots_above x_slots_below x_slots_most x_slots_sold x_slots_made x_tickets_slot x_tickets_guests x_tickets_kind x_tickets_returned x_tickets_made x_requests_slot x_requests_guests x_requests_kind x_requests_ticket x_requests_made x_requests_served x_chances_ways x_tariff_text x_tariff_length x_tariff_prices x_tariff_percents x_tariff_clauses x_tariff_newPrices x_tariff_newPercents x_tariff_newClauses x_tariff_state x_tariff_subject x_tariff_number x_tariff_digits x_doors_seconds x_doors_order x_doors_firstIn x_doors_doubles x_doors_found x_doors_goneOut m_thrown m_slots m_places m_aboves m_belows m_riskAboves m_riskBelows m_tickets m_slotOf m_guests m_kinds m_returned m_outs m_requests m_requestSlots m_requestGuests m_requestKinds m_givens m_length m_text m_clauses m_sorts m_ones m_twos m_found m_readSorts m_readOnes m_readTwos m_seconds m_firsts m_doubles m_doubleTickets m_doubleReaders m_doubleSeconds m_digits o_ := by
  obtain ⟨nS, nT, nR, sl, gu, ki, re, hS, hT, hSo, hR, hX, hU, hD⟩ := hI
  obtain ⟨v0, v1, v2, v3, v4, v5⟩ := script_in hL hj e4
  obtain ⟨s1, s2, s3, s4, s5⟩ := id hS
  obtain ⟨t1, t2, t3, t4, t5, t6⟩ := id hT
  subst t2
  subst t3
  have fx1 : ∀ x : Int32, x = l_4 + (6 : Int32) → k_ x x_slots_places x_slots_above x_slots_below x_slots_most x_slots_sold x_slots_made x_tickets_slot x_tickets_guests x_tickets_kind x_tickets_returned (nI nT) x_requests_slot x_requests_guests x_requests_kind x_requests_ticket x_requests_made x_requests_served x_chances_ways x_tariff_text x_tariff_length x_tariff_prices x_tariff_percents x_tariff_clauses x_tariff_newPrices x_tariff_newPercents x_tariff_newClauses x_tariff_state x_tariff_subject x_tariff_number x_tariff_digits x_doors_seconds x_doors_order x_doors_firstIn x_doors_doubles x_doors_found x_doors_goneOut 1 m_slots m_places m_aboves m_belows m_riskAboves m_riskBelows (nI nT) m_slotOf m_guests m_kinds m_returned m_outs m_requests m_requestSlots m_requestGuests m_requestKinds m_givens m_length m_text m_clauses m_sorts m_ones m_twos m_found m_readSorts m_readOnes m_readTwos m_seconds m_firsts m_doubles m_doubleTickets m_doubleReaders m_doubleSeconds m_digits o_ := fun x hx => by
    subst hx
    exact hk _ _ _ _ _ _ _ _ _ _ _ _ _ _ _ _ _ _ _ _ _ _ _ _ _ _ _ _ _ _ _ _ _ _ _ _ _ _ _ _ _ _ _ _ _ _ _ _ _ _ _ _ _ _ _ _ _ _ _ _ _ _ _ _ _ _ _ _ _ _ _ _ ⟨nS, nT, nR, sl, gu, ki, re, hS, hT, hSo, hR, hX, hU, hD⟩
  have fx2 : ∀ x : Int32, x = l_4 + (6 : Int32) → k_ x x_slots_places x_slots_above x_slots_below x_slots_most x_slots_sold x_slots_made x_tickets_slot x_tickets_guests x_tickets_kind x_tickets_returned (nI nT) x_requests_slot x_requests_guests x_requests_kind x_requests_ticket x_requests_made x_requests_served x_chances_ways x_tariff_text x_tariff_length x_tariff_prices x_tariff_percents x_tariff_clauses x_tariff_newPrices x_tariff_newPercents x_tariff_newClauses x_tariff_state x_tariff_subject x_tariff_number x_tariff_digits x_doors_seconds x_doors_order x_doors_firstIn x_doors_doubles x_doors_found x_doors_goneOut 2 m_slots m_places m_aboves m_belows m_riskAboves m_riskBelows (nI nT) m_slotOf m_guests m_kinds m_returned m_outs m_requests m_requestSlots m_requestGuests m_requestKinds m_givens m_length m_text m_clauses m_sorts m_ones m_twos m_found m_readSorts m_readOnes m_readTwos m_seconds m_firsts m_doubles m_doubleTickets m_doubleReaders m_doubleSeconds m_digits o_ := fun x hx => by
    subst hx
    exact hk _ _ _ _ _ _ _ _ _ _ _ _ _ _ _ _ _ _ _ _ _ _ _ _ _ _ _ _ _ _ _ _ _ _ _ _ _ _ _ _ _ _ _ _ _ _ _ _ _ _ _ _ _ _ _ _ _ _ _ _ _ _ _ _ _ _ _ _ _ _ _ _ ⟨nS, nT, nR, sl, gu, ki, re, hS, hT, hSo, hR, hX, hU, hD⟩
  have fx3 : ∀ x : Int32, x = l_4 + (6 : Int32) → k_ x x_slots_places x_slots_above x_slots_below x_slots_most x_slots_sold x_slots_made x_tickets_slot x_tickets_guests x_tickets_kind x_tickets_returned (nI nT) x_requests_slot x_requests_guests x_requests_kind x_requests_ticket x_requests_made x_requests_served x_chances_ways x_tariff_text x_tariff_length x_tariff_prices x_tariff_percents x_tariff_clauses x_tariff_newPrices x_tariff_newPercents x_tariff_newClauses x_tariff_state x_tariff_subject x_tariff_number x_tariff_digits x_doors_seconds x_doors_order x_doors_firstIn x_doors_doubles x_doors_found x_doors_goneOut 3 m_slots m_places m_aboves m_belows m_riskAboves m_riskBelows (nI nT) m_slotOf m_guests m_kinds m_returned m_outs m_requests m_requestSlots m_requestGuests m_requestKinds m_givens m_length m_text m_clauses m_sorts m_ones m_twos m_found m_readSorts m_readOnes m_readTwos m_seconds m_firsts m_doubles m_doubleTickets m_doubleReaders m_doubleSeconds m_digits o_ := fun x hx => by
    subst hx
    exact hk _ _ _ _ _ _ _ _ _ _ _ _ _ _ _ _ _ _ _ _ _ _ _ _ _ _ _ _ _ _ _ _ _ _ _ _ _ _ _ _ _ _ _ _ _ _ _ _ _ _ _ _ _ _ _ _ _ _ _ _ _ _ _ _ _ _ _ _ _ _ _ _ ⟨nS, nT, nR, sl, gu, ki, re, hS, hT, hSo, hR, hX, hU, hD⟩
  have nbb : ∀ {r t : Nat} {a b : Int32}, (bad a nS ∨ bad b 5) → r < nS → t < 5 → a = nI r → b = nI t → False := by
    intro r t a b h hr ht er et
    rcases h with h | h
    · rw [er] at h; exact nbad hr (by omega) h
    · rw [et] at h; exact nbad ht (by omega) h
  have same : ∀ {n n' : Nat} {a : Int32}, n < 60 → n' < 60 → a = nI n → a = nI n' → n = n' := fun h h' e e' => (nI_eq (by omega) (by omega)).mp (e.symm.trans e')
  have bs : ∀ s, soldN sl gu re s nT ≤ 9 * nT := fun s => sold_b nT (fun t ht => (t4 t ht).2.2.1)
  have ng : ∀ {g : Nat} {b : Int32}, 1 ≤ g → g ≤ 9 → b = nI g → ¬ (b < 1 ∨ (9 : Int32) < b) := by
    intro g b h1 h2 e h
    subst e
    rcases h with h | h
    · exact absurd ((nI_ltI (b := 1) (by omega) (by omega)).mp h) (by omega)
    · exact absurd ((nI_ltI (a := 9) (by omega) (by omega)).mp h) (by omega)
  refine ⟨v1, v2, v3, sx_sell s1 t1 s2 (fun hb => Or.inr (Or.inr ⟨rfl, v1, v2, v3, sm_sell s1 hT s3 (fun _ => fin_x (by decide) fx1) (fun q => absurd hb q) (fun q => absurd hb q) (fun s k g hs hk0 _ _ es ek => (nbb hb hs hk0 es ek).elim)⟩)) (fun hg h => Or.inr (Or.inl ⟨rfl, v1, v2, v3, sm_sell s1 hT s3 (fun q => absurd q hg) (fun _ _ => fin_x (by decide) fx2) (fun _ q => absurd h (by omega)) (fun s k g hs hk0 _ _ es ek _ q => absurd h (by omega))⟩)) (fun hg h hb => Or.inl ⟨rfl, v1, v2, v3, sm_sell s1 hT s3 (fun q => absurd q hg) (fun _ q => absurd h (by omega)) (fun _ _ _ => fin_x (by decide) fx3) (fun s k g hs hk0 g1 g2 es ek eg _ => absurd hb (ng g1 g2 eg))⟩) (fun s k g hs hk0 g1 g2 es ek eg hl => ?_)⟩
  obtain ⟨p, a, b, ra, rb, q1, q2, q3, q4, q5, q6, q7, q8, q9, q10, q11, q12, q13, q14, q15, q16, q17⟩ := s4 s hs
  have b1 := most_b (a := a) (b := b) (ra := ra) (rb := rb) q2
  have b2 := bs s
  have eo := hSo.1 s hs
  refine ⟨mostN p a b ra rb, soldN sl gu re s nT, by omega, by omega, q17, eo, fun z => ⟨out0, fun f ef => ⟨v1, v2, v3, sm_sell s1 hT s3 (fun h => (nbb h hs hk0 es ek).elim) (fun _ h => absurd h (by omega)) (fun _ _ h => absurd h (ng g1 g2 eg)) (fun s' k' g' hs' hk' g1' g2' es' ek' eg' _ => ?_)⟩⟩, fun z => ⟨out0, fun f ef => ⟨v1, v2, v3, sm_sell s1 hT s3 (fun h => (nbb h hs hk0 es ek).elim) (fun _ h => absurd h (by omega)) (fun _ _ h => absurd h (ng g1 g2 eg)) (fun s' k' g' hs' hk' g1' g2' es' ek' eg' _ => ?_)⟩⟩⟩
  · obtain rfl := same (by omega) (by omega) es es'
    obtain rfl := same (by omega) (by omega) ek ek'
    obtain rfl := same (by omega) (by omega) eg eg'
    refine ⟨p, a, b, ra, rb, q2, q3, q5, by omega, q8, q10, q12, q14, q15, q16, fun _ md' => ?_, fun z2 => absurd z (by omega)⟩
    subst ef
    refine fin_0 (fin_o rfl (fun x hx => ?_))
    subst hx
    exact hk _ _ _ _ _ _ _ _ _ _ _ _ _ _ _ _ _ _ _ _ _ _ _ _ _ _ _ _ _ _ _ _ _ _ _ _ _ _ _ _ _ _ _ _ _ _ _ _ _ _ _ _ _ _ _ _ _ _ _ _ _ _ _ _ _ _ _ _ _ _ _ _ ⟨nS, nT, nR, sl, gu, ki, re, hS, hT, hSo, hR, hX, hU, hD⟩
  · obtain rfl := same (by omega) (by omega) es es'
    obtain rfl := same (by omega) (by omega) ek ek'
    obtain rfl := same (by omega) (by omega) eg eg'
    refine ⟨p, a, b, ra, rb, q2, q3, q5, by omega, q8, q10, q12, q14, q15, q16, fun z2 => absurd z (by omega), fun _ md' => ?_⟩
    subst ef
    refine fin_0 (fin_o rfl (fun x hx => ?_))
    subst hx
    obtain ⟨d1, d2, d3⟩ := hD
    exact hk _ _ _ _ _ _ _ _ _ _ _ _ _ _ _ _ _ _ _ _ _ _ _ _ _ _ _ _ _ _ _ _ _ _ _ _ _ _ _ _ _ _ _ _ _ _ _ _ _ _ _ _ _ _ _ _ _ _ _ _ _ _ _ _ _ _ _ _ _ _ _ _ ⟨nS, nT + 1, nR, updN sl nT s, updN gu nT g, updN ki nT k, re, hS, it_add hT hl hs g1 g2 hk0, iso_add hSo (t6 nT (Nat.le_refl _)) hs, hR, hX, hU, d1, fun t r h1 h2 h3 => d2 t r (by omega) h2 h3, d3⟩
