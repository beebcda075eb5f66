-- back
theorem sx_anyLetIn {post : Int32 → Unit → Prop} {sc : Nat → Int32} {t : Nat} (ht : t < 60) (h0 : (∀ r, r < 6 → sc (6 * t + r) = -1) → post 0 ()) (h1 : ¬ (∀ r, r < 6 → sc (6 * t + r) = -1) → post 1 ()) : wp_XD_anyLetIn post (nI t) sc := by
  have loop : ∀ (d r : Nat), r + d = 6 → (∀ q, q < r → sc (6 * t + q) = -1) → wp_XD_anyLetIn_2 post sc (d + 1) (nI t) (nI r) := by
    intro d
    induction d with
    | zero =>
      intro r hr h
      obtain rfl : r = 6 := by omega
      exact go_y (by decide) (h0 h)
    | succ d ih =>
      intro r hr h
      refine go_n (nI_ge (b := 6) (by omega) (by omega)) (sx_hasLetIn ht (by omega) (fun z => go_y rfl (fun x ex => ?_)) (fun z => go_n (by decide) (h1 (fun q => z (q r (by omega))))))
      rw [ex, nI_1]
      refine ih (r + 1) (by omega) (fun q hq => ?_)
      by_cases e : q = r
      · rw [e]; exact z
      · exact h q (by omega)
  exact ⟨7, loop 6 0 (by omega) (fun q hq => by omega)⟩
theorem sm_isIn {post : Int32 → Unit → Prop} {sc : Nat → Int32} {t : Nat} (ht : t < 60) (h0 : (∀ r, r < 6 → sc (60 * r + t) = -1) → post 0 ()) (h1 : ¬ (∀ r, r < 6 → sc (60 * r + t) = -1) → post 1 ()) : wp_M_isIn post (nI t) sc := by
  have loop : ∀ (d r : Nat) (l : Int32), r + d = 6 → ((l = 0 ∧ ∀ q, q < r → sc (60 * q + t) = -1) ∨ (l = 1 ∧ ¬ ∀ q, q < r → sc (60 * q + t) = -1)) → wp_M_isIn_4 post sc (d + 1) (nI t) l (nI r) := by
    intro d
    induction d with
    | zero =>
      intro r l hr h
      obtain rfl : r = 6 := by omega
      refine go_y (by decide) ?_
      rcases h with ⟨e, h⟩ | ⟨e, h⟩
      · subst e; exact ⟨Or.inl rfl, h0 h⟩
      · subst e; exact ⟨Or.inr rfl, h1 h⟩
    | succ d ih =>
      intro r l hr h
      refine go_n (nI_ge (b := 6) (by omega) (by omega)) ?_
      rcases h with ⟨e, h⟩ | ⟨e, h⟩
      · subst e
        refine go_y rfl ?_
        rw [ix60, cl (by omega)]
        refine ⟨vin (by omega) (by omega), fun z x ex => ?_, fun z x ex => ?_⟩
        · rw [ex, nI_1]
          refine ih (r + 1) 0 (by omega) (Or.inl ⟨rfl, fun q hq => ?_⟩)
          by_cases e : q = r
          · rw [e]; exact z
          · exact h q (by omega)
        · rw [ex, nI_1]
          exact ih (r + 1) 1 (by omega) (Or.inr ⟨rfl, fun q => z (q r (by omega))⟩)
      · subst e
        refine go_n (by decide) (fun x ex => ?_)
        rw [ex, nI_1]
        exact ih (r + 1) 1 (by omega) (Or.inr ⟨rfl, fun q => h (fun q' hq' => q q' (by omega))⟩)
  exact ⟨7, loop 6 0 0 (by omega) (Or.inl ⟨rfl, fun q hq => by omega⟩)⟩
theorem wt_set {g : Nat → Int32} {i : Nat} {v : Int32} (hi : g i = -1) (hv : ¬ v = -1) : ∀ n, i < n → wt (upd g i v) n + 1 = wt g n := by
  intro n
  induction n with
  | zero => intro h; omega
  | succ n ih =>
    intro h
    rw [wt, wt]
    by_cases e : i = n
    · subst e
      rw [upd_s, if_neg hv, if_pos hi, wt_upd i (Nat.le_refl _)]
    · rw [upd_n (by omega), ← ih (by omega)]
      omega
theorem sold_back {sl gu re : Nat → Nat} {t k : Nat} (h0 : re t = 0) : ∀ n, soldN sl gu (updN re t 1) k n + (if t < n ∧ sl t = k then gu t else 0) = soldN sl gu re k n := by
  intro n
  induction n with
  | zero => rw [if_neg (by omega)]; rfl
  | succ n ih =>
    rw [soldN, soldN, ← ih]
    by_cases e : t = n
    · subst e
      rw [updN_s, if_neg (show ¬ (sl t = k ∧ 1 = 0) by omega), if_neg (show ¬ (t < t ∧ sl t = k) by omega)]
      by_cases e2 : sl t = k
      · rw [if_pos (show t < t + 1 ∧ sl t = k from ⟨by omega, e2⟩), if_pos (show sl t = k ∧ re t = 0 from ⟨e2, h0⟩)]
      · rw [if_neg (fun z => e2 z.2), if_neg (fun z => e2 z.1)]
    · rw [updN_n (show n ≠ t from fun z => e z.symm)]
      by_cases e2 : t < n ∧ sl t = k
      · rw [if_pos e2, if_pos (show t < n + 1 ∧ sl t = k from ⟨by omega, e2.2⟩)]
        omega
      · rw [if_neg e2, if_neg (show ¬ (t < n + 1 ∧ sl t = k) from fun z => e2 ⟨by omega, z.2⟩)]
        omega
/-- the reference, when there are sixty tickets: nothing more happens -/
theorem sm_full {post : Int32 → (Int32 × Int32 × (Nat → Int32) × (Nat → Int32) × (Nat → Int32) × (Nat → Int32) × (Nat → Int32) × (Nat → Int32)) → Prop} {pl av be rav rbv ns ng nk sc ms mg mk mr mt md : Nat → Int32} {c s0 th : Int32} {nR : Nat} (h30 : nR ≤ 30) (h : post c (th, nI 60, ms, mg, mk, mr, mt, md)) : ∀ (d i : Nat), i + d = nR → wp_M_back_54 post pl av be rav rbv (nI nR) ns ng nk sc (d + 1) c s0 (nI i) th (nI 60) ms mg mk mr mt md := by
  intro d
  induction d with
  | zero =>
    intro i hi
    obtain rfl : i = nR := by omega
    exact go_y (nI_le (Nat.le_refl _) (by omega)) h
  | succ d ih =>
    intro i hi
    have hv : vp_in (nI i) 30 := vin (by omega) (by omega)
    have skip : wp_M_back_119 post pl av be rav rbv (nI nR) ns ng nk sc (wp_M_back_54 post pl av be rav rbv (nI nR) ns ng nk sc (d + 1)) c s0 (nI i) th (nI 60) ms mg mk mr mt md := go_y rfl (fun x ex => by
      rw [ex, nI_1]
      exact ih (i + 1) (by omega))
    refine go_n (nI_ge (by omega) (by omega)) ⟨hv, fun _ => ⟨hv, fun _ => go_y (by decide) skip, fun _ => skip⟩, fun _ => skip⟩
theorem serve {mo pl av be rav rbv qs qg qk ns ng nk sc xr mr : Nat → Int32} {re : Nat → Nat} {nS nR s0 p a b ra rb : Nat} {th : Int32} (h8 : nS ≤ 8) (h30 : nR ≤ 30) (hs0 : s0 < nS) (q1 : p ≤ 20) (q2 : a ≤ b) (q3 : b ≤ 16) (q4 : ra ≤ 1000) (q5 : rb ≤ 1000) (q6 : pl s0 = nI p) (q7 : av s0 = nI a) (q8 : be s0 = nI b) (q9 : rav s0 = nI ra) (q10 : rbv s0 = nI rb) (q11 : mo s0 = nI (mostN p a b ra rb)) : ∀ (d i c nT : Nat) (sl gu ki : Nat → Nat) (so xs xg xk ms mg mk xt mt : Nat → Int32) (xd : Int32), i + d = nR → IT nS nT sl gu ki re xs xg xk xr (nI nT) (nI nT) ms mg mk mr → ISo nS nT sl gu re so → IR nS nR qs qg qk xt (nI nR) xd (nI nR) ns ng nk mt → ∃ (c' nT' : Nat) (sl' gu' ki' : Nat → Nat) (so' xs' xg' xk' ms' mg' mk' xt' mt' : Nat → Int32) (xd' : Int32), nT ≤ nT' ∧ IT nS nT' sl' gu' ki' re xs' xg' xk' xr (nI nT') (nI nT') ms' mg' mk' mr ∧ ISo nS nT' sl' gu' re so' ∧ IR nS nR qs qg qk xt' (nI nR) xd' (nI nR) ns ng nk mt' ∧ (∀ post, post (nI c') (so', xs', xg', xk', nI nT', xt', xd') → wp_X_serveWaiting_4 post mo qs qg qk (nI nR) (d + 1) (nI s0) (nI c) (nI i) so xs xg xk (nI nT) xt xd) ∧ (∀ post md, (∀ md', post (nI c') (th, nI nT', ms', mg', mk', mr, mt', md')) → wp_M_back_54 post pl av be rav rbv (nI nR) ns ng nk sc (d + 1) (nI c) (nI s0) (nI i) th (nI nT) ms mg mk mr mt md) := by
  intro d
  induction d with
  | zero =>
    intro i c nT sl gu ki so xs xg xk ms mg mk xt mt xd hi hT hSo hR
    obtain rfl : i = nR := by omega
    exact ⟨c, nT, sl, gu, ki, so, xs, xg, xk, ms, mg, mk, xt, mt, xd, Nat.le_refl _, hT, hSo, hR, fun post h => go_y (nI_le (Nat.le_refl _) (by omega)) h, fun post md h => go_y (nI_le (Nat.le_refl _) (by omega)) (h md)⟩
  | succ d ih =>
    intro i c nT sl gu ki so xs xg xk ms mg mk xt mt xd hi hT hSo hR
    have hge : ¬ nI nR ≤ nI i := nI_ge (by omega) (by omega)
    have hv : vp_in (nI i) 30 := vin (by omega) (by omega)
    have ci : (nI i).toNatClampNeg = i := cl (by omega)
    have t1 := hT.1
    by_cases hf : nT = 60
    · subst hf
      exact ⟨c, 60, sl, gu, ki, so, xs, xg, xk, ms, mg, mk, xt, mt, xd, Nat.le_refl _, hT, hSo, hR, fun post h => go_n hge (go_y (by decide) h), fun post md h => sm_full h30 (h md) (d + 1) i hi⟩
    · have hn : nT < 60 := by omega
      have n60 : ¬ (60 : Int32) ≤ nI nT := nI_ge (b := 60) hn (by omega)
      obtain ⟨s, g, k, r1, r2, r3, r4, r5, r6, r7, r8, r9, r10, r11⟩ := hR.2.2.2.1 i (by omega)
      have b1 := most_b (a := a) (b := b) (ra := ra) (rb := rb) q1
      have b2 := sold_b (sl := sl) (re := re) (k := s0) nT (fun t ht => (hT.2.2.2.1 t ht).2.2.1)
      have eo := hSo.1 s0 hs0
      by_cases e1 : mt i = -1 ∧ s = s0 ∧ soldN sl gu re s0 nT + g ≤ mostN p a b ra rb
      · obtain ⟨e1, e2, e3⟩ := e1
        subst e2
        have nm : ¬ nI nT = -1 := m1ne (by omega)
        have hR' : IR nS nR qs qg qk (upd xt i (nI nT)) (nI nR) (xd + (1 : Int32)) (nI nR) ns ng nk (upd mt i (nI nT)) := by
          obtain ⟨u1, u2, u3, u4, u5⟩ := hR
          refine ⟨u1, u2, u3, fun r hr => ?_, ?_⟩
          · by_cases e : r = i
            · subst e
              rw [upd_s, upd_s]
              exact ⟨s, g, k, r1, r2, r3, r4, r5, r6, r7, r8, r9, r10, rfl⟩
            · rw [upd_n e, upd_n e]
              exact u4 r hr
          · have w1 := wt_set e1 nm nR (show i < nR by omega)
            have w2 := wt_le mt nR
            rw [u5, nI_1]
            congr 1
            omega
        obtain ⟨c', nT', sl', gu', ki', so', xs', xg', xk', ms', mg', mk', xt', mt', xd', w0, w1, w2, w3, w4, w5⟩ := ih (i + 1) (c + 1) (nT + 1) (updN sl nT s) (updN gu nT g) (updN ki nT k) _ _ _ _ _ _ _ _ _ _ (by omega) (it_add hT hn r1 r2 r3 r4) (iso_add hSo (hT.2.2.2.2.2 nT (Nat.le_refl _)) r1) hR'
        refine ⟨c', nT', sl', gu', ki', so', xs', xg', xk', ms', mg', mk', xt', mt', xd', by omega, w1, w2, w3, fun post h => go_n hge (go_n n60 ?_), fun post md h => go_n hge ?_⟩
        · unfold wp_XR_waitsFor
          rw [ci, r5, r11, r7, r9]
          refine ⟨hv, go_y rfl ⟨hv, go_y e1 (go_n (by decide) ⟨hv, sx_hasRoom (by omega) r3 (by omega) (by omega) q11 eo (fun z => absurd z (by omega)) (fun _ => go_n (by decide) ⟨hv, hv, sx_issue (by omega) hn eo ?_⟩)⟩)⟩⟩
          refine ⟨hv, fun f ef x ex y ey z ez => ?_⟩
          rw [ci] at ef
          rw [ef, ex, ey, ez, nI_1, nI_1]
          exact w4 post h
        · rw [ci, r6, r8]
          refine ⟨hv, go_y e1 ⟨hv, go_y rfl (go_n n60 (sm_sold hT h8 hs0 ⟨hv, sm_mostOf (by omega) q1 q2 q3 q4 q5 q6 q7 q8 q9 q10 (fun md' => ?_)⟩))⟩⟩
          rw [nI_add]
          refine go_n (fun z => absurd ((nI_ltI (by omega) (by omega)).mp z) (by omega)) (go_n (by decide) ⟨hv, hv, ?_⟩)
          rw [ci, r8, r10]
          refine sm_give hn ⟨hv, fun f ef x ex y ey => ?_⟩
          rw [ef, ex, ey, nI_1, nI_1]
          exact w5 post md' h
      · obtain ⟨c', nT', sl', gu', ki', so', xs', xg', xk', ms', mg', mk', xt', mt', xd', w0, w1, w2, w3, w4, w5⟩ := ih (i + 1) c nT sl gu ki so xs xg xk ms mg mk xt mt xd (by omega) hT hSo hR
        refine ⟨c', nT', sl', gu', ki', so', xs', xg', xk', ms', mg', mk', xt', mt', xd', w0, w1, w2, w3, fun post h => go_n hge (go_n n60 ?_), fun post md h => go_n hge ?_⟩
        · have skip : ∀ x : Int32, x = nI i + (1 : Int32) → wp_X_serveWaiting_4 post mo qs qg qk (nI nR) (d + 1) (nI s0) (nI c) x so xs xg xk (nI nT) xt xd := fun x ex => by
            rw [ex, nI_1]
            exact w4 post h
          unfold wp_XR_waitsFor
          rw [ci, r5, r11, r7, r9]
          refine ⟨hv, ?_⟩
          by_cases e2 : s = s0
          · subst e2
            refine go_y rfl ⟨hv, ?_⟩
            by_cases e3 : mt i = -1
            · exact go_y e3 (go_n (by decide) ⟨hv, sx_hasRoom (by omega) r3 (by omega) (by omega) q11 eo (fun _ => go_y rfl skip) (fun z => absurd ⟨e3, rfl, z⟩ e1)⟩)
            · exact go_n e3 (go_y rfl skip)
          · exact go_n (nn (by omega) (by omega) e2) (go_y rfl skip)
        · have skip : ∀ md', wp_M_back_119 post pl av be rav rbv (nI nR) ns ng nk sc (wp_M_back_54 post pl av be rav rbv (nI nR) ns ng nk sc (d + 1)) (nI c) (nI s0) (nI i) th (nI nT) ms mg mk mr mt md' := fun md' => go_y rfl (fun x ex => by
            rw [ex, nI_1]
            exact w5 post md' h)
          rw [ci, r6, r8]
          refine ⟨hv, ?_⟩
          by_cases e3 : mt i = -1
          · refine go_y e3 ⟨hv, ?_⟩
            by_cases e2 : s = s0
            · subst e2
              refine go_y rfl (go_n n60 (sm_sold hT h8 hs0 ⟨hv, sm_mostOf (by omega) q1 q2 q3 q4 q5 q6 q7 q8 q9 q10 (fun md' => ?_)⟩))
              rw [nI_add]
              exact go_y (nI_lt (by have : ¬ soldN sl gu re s nT + g ≤ mostN p a b ra rb := fun z => e1 ⟨e3, rfl, z⟩
                                    omega) (by omega)) (skip md')
            · exact go_n (nn (by omega) (by omega) e2) (skip md)
          · exact go_n e3 (skip md)
theorem nar1 : vp_nar .boolean (1 : Int32) = 1 := by decide
theorem sx_back {post : Int32 → ((Nat → Int32) × (Nat → Int32) × (Nat → Int32) × (Nat → Int32) × (Nat → Int32) × Int32 × (Nat → Int32) × Int32) → Prop} {px : String → Prop} {a xd qn : Int32} {mo so xs xg xk xr qs qg qk xt sc : Nat → Int32} {nT : Nat} (hn : nT ≤ 60) (h0 : bad a nT → px "java/lang/IndexOutOfBoundsException") (h1 : ∀ t, t < nT → a = nI t → (¬ xr t = 0 ∨ ¬ ∀ r, r < 6 → sc (6 * t + r) = -1) → post (-1) (so, xs, xg, xk, xr, nI nT, xt, xd)) (h2 : ∀ t, t < nT → a = nI t → xr t = 0 → (∀ r, r < 6 → sc (6 * t + r) = -1) → ∃ s g o : Nat, s < 8 ∧ g ≤ o ∧ xs t = nI s ∧ xg t = nI g ∧ so s = nI o ∧ wp_X_serveWaiting (fun r_13 u => match u with | (f_14, f_15, f_16, f_17, x_18, f_19, x_20) => post r_13 (f_14, f_15, f_16, f_17, upd xr t 1, x_18, f_19, x_20)) (nI s) mo (upd so s (nI (o - g))) xs xg xk (nI nT) qs qg qk xt qn xd) : wp_X_back post px a mo so xs xg xk xr (nI nT) qs qg qk xt qn xd sc := by
  refine sx_needTicket (by omega) rfl h0 (fun t ht et => ?_)
  have H1 := h1 t ht et
  have H2 := h2 t ht et
  subst et
  have hv : vp_in (nI t) 60 := vin (by omega) (by omega)
  rw [cl (by omega), nar1]
  refine ⟨hv, ?_⟩
  by_cases e : xr t = 0
  · refine go_y e (sx_anyLetIn (by omega) (fun z => go_y rfl ?_) (fun z => go_n (by decide) (H1 (Or.inr z))))
    obtain ⟨s, g, o, hs, hg, es, eg, eo, h⟩ := H2 e z
    have hvs : vp_in (nI s) 8 := vin hs (by omega)
    refine ⟨hv, fun x ex => ⟨hv, fun f ef => ?_⟩⟩
    rw [es] at ex
    subst ex
    rw [cl (by omega), eg, eo, pk_sub hg]
    refine ⟨hvs, hv, hvs, fun f2 ef2 => ?_⟩
    rw [ef, ef2]
    exact h
  · exact go_n e (H1 (Or.inl e))
theorem sm_back {post : Int32 → (Int32 × Int32 × (Nat → Int32) × (Nat → Int32) × (Nat → Int32) × (Nat → Int32) × (Nat → Int32) × (Nat → Int32)) → Prop} {a th qn : Int32} {pl av be rav rbv ms mg mk mr ns ng nk mt sc md : Nat → Int32} {nT : Nat} (hn : nT ≤ 60) (h0 : bad a nT → post 0 (1, nI nT, ms, mg, mk, mr, mt, md)) (h1 : ∀ t, t < nT → a = nI t → (¬ mr t = 0 ∨ ¬ ∀ r, r < 6 → sc (60 * r + t) = -1) → post (-1) (0, nI nT, ms, mg, mk, mr, mt, md)) (h2 : ∀ t, t < nT → a = nI t → mr t = 0 → (∀ r, r < 6 → sc (60 * r + t) = -1) → ∃ n, wp_M_back_54 post pl av be rav rbv qn ns ng nk sc n 0 (ms t) 0 0 (nI nT) ms mg mk (upd mr t 1) mt md) : wp_M_back post a th pl av be rav rbv (nI nT) ms mg mk mr qn ns ng nk mt sc md := by
  refine sm_isTicket (by omega) rfl (fun h => sm_goes1 (go_y rfl (h0 h))) (fun t ht et => sm_goes0 (go_n (by decide) ?_))
  have H1 := h1 t ht et
  have H2 := h2 t ht et
  subst et
  have hv : vp_in (nI t) 60 := vin (by omega) (by omega)
  rw [cl (by omega), nar1]
  refine ⟨hv, ?_⟩
  by_cases e : mr t = 0
  · refine go_y e (sm_isIn (by omega) (fun z => go_y rfl ⟨hv, fun f ef => ⟨hv, fun x ex => ?_⟩⟩) (fun z => go_n (by decide) (H1 (Or.inr z))))
    rw [ef, ex]
    exact H2 e z
  · exact go_n e (H1 (Or.inl e))
set_option maxHeartbeats 1000000 in
theorem case_492 {L j : Nat} {xs : Nat → Int32} {k_ : Int32 → (Nat → Int32) → (Nat → Int32) → (Nat → Int32) → (Nat → Int32) → (Nat → Int32) → Int32 → (Nat → Int32) → (Nat → Int32) → (Nat → Int32) → (Nat → Int32) → Int32 → (Nat → Int32) → (Nat → Int32) → (Nat → Int32) → (Nat → Int32) → Int32 → Int32 → (Nat → Int64) → (Nat → Int32) → Int32 → (Nat → Int32) → (Nat → Int32) → Int32 → (Nat → Int32) → (Nat → Int32) → Int32 → Int32 → Int32 → Int32 → Int32 → (Nat → Int32) → (Nat → Int32) → (Nat → Int32) → (Nat → Int32) → Int32 → (Nat → Int32) → Int32 → Int32 → (Nat → Int32) → (Nat → Int32) → (Nat → Int32) → (Nat → Int32) → (Nat → Int32) → Int32 → (Nat → Int32) → (Nat → Int32) → (Nat → Int32) → (Nat → Int32) → (Nat → Int32) → Int32 → (Nat → Int32) → (Nat → Int32) → (Nat → Int32) → (Nat → Int32) → Int32 → (Nat → Int32) → Int32 → (Nat → Int32) → (Nat → Int32) → (Nat → Int32) → Int32 → (Nat → Int32) → (Nat → Int32) → (Nat → Int32) → (Nat → Int32) → (Nat → Int32) → Int32 → (Nat → Int32) → (Nat → Int32) → (Nat → Int32) → (Nat → Int32) → (Nat → Int64) → Prop} {l_4 : Int32} {x_slots_places : Nat → Int32} {x_slots_above : Nat → Int32} {x_slots_below : Nat → Int32} {x_slots_most : Nat → Int32} {x_slots_sold : Nat → Int32} {x_slots_made : Int32} {x_tickets_slot : Nat → Int32} {x_tickets_guests : Nat → Int32} {x_tickets_kind : Nat → Int32} {x_tickets_returned : Nat → Int32} {x_tickets_made : Int32} {x_requests_slot : Nat → Int32} {x_requests_guests : Nat → Int32} {x_requests_kind : Nat → Int32} {x_requests_ticket : Nat → Int32} {x_requests_made : Int32} {x_requests_served : Int32} {x_chances_ways : Nat → Int64} {x_tariff_text : Nat → Int32} {x_tariff_length : Int32} {x_tariff_prices : Nat → Int32} {x_tariff_percents : Nat → Int32} {x_tariff_clauses : Int32} {x_tariff_newPrices : Nat → Int32} {x_tariff_newPercents : Nat → Int32} {x_tariff_newClauses : Int32} {x_tariff_state : Int32} {x_tariff_subject : Int32} {x_tariff_number : Int32} {x_tariff_digits : Int32} {x_doors_seconds : Nat → Int32} {x_doors_order : Nat → Int32} {x_doors_firstIn : Nat → Int32} {x_doors_doubles : Nat → Int32} {x_doors_found : Int32} {x_doors_goneOut : Nat → Int32} {m_thrown : Int32} {m_slots : Int32} {m_places : Nat → Int32} {m_aboves : Nat → Int32} {m_belows : Nat → Int32} {m_riskAboves : Nat → Int32} {m_riskBelows : Nat → Int32} {m_tickets : Int32} {m_slotOf : Nat → Int32} {m_guests : Nat → Int32} {m_kinds : Nat → Int32} {m_returned : Nat → Int32} {m_outs : Nat → Int32} {m_requests : Int32} {m_requestSlots : Nat → Int32} {m_requestGuests : Nat → Int32} {m_requestKinds : Nat → Int32} {m_givens : Nat → Int32} {m_length : Int32} {m_text : Nat → Int32} {m_clauses : Int32} {m_sorts : Nat → Int32} {m_ones : Nat → Int32} {m_twos : Nat → Int32} {m_found : Int32} {m_readSorts : Nat → Int32} {m_readOnes : Nat → Int32} {m_readTwos : Nat → Int32} {m_seconds : Nat → Int32} {m_firsts : Nat → Int32} {m_doubles : Int32} {m_doubleTickets : Nat → Int32} {m_doubleReaders : Nat → Int32} {m_doubleSeconds : Nat → Int32} {m_digits : Nat → Int32} {o_ : Nat → Int64} (hL : L ≤ 3072) (hj : 6 * j + 6 ≤ L) (e4 : l_4 = nI (6 * j)) (hI : INV x_slots_places x_slots_above x_slots_below x_slots_most x_slots_sold x_slots_made x_tickets_slot x_tickets_guests x_tickets_kind x_tickets_returned x_tickets_made x_requests_slot x_requests_guests x_requests_kind x_requests_ticket x_requests_made x_requests_served x_chances_ways x_tariff_text x_tariff_length x_tariff_prices x_tariff_percents x_tariff_clauses x_tariff_newPrices x_tariff_newPercents x_tariff_newClauses x_tariff_state x_tariff_subject x_tariff_number x_tariff_digits x_doors_seconds x_doors_order x_doors_firstIn x_doors_doubles x_doors_found x_doors_goneOut m_thrown m_slots m_places m_aboves m_belows m_riskAboves m_riskBelows m_tickets m_slotOf m_guests m_kinds m_returned m_outs m_requests m_requestSlots m_requestGuests m_requestKinds m_givens m_length m_text m_clauses m_sorts m_ones m_twos m_found m_readSorts m_readOnes m_readTwos m_seconds m_firsts m_doubles m_doubleTickets m_doubleReaders m_doubleSeconds m_digits o_) (hk : ∀ (x_slots_places : Nat → Int32) (x_slots_above : Nat → Int32) (x_slots_below : Nat → Int32) (x_slots_most : Nat → Int32) (x_slots_sold : Nat → Int32) (x_slots_made : Int32) (x_tickets_slot : Nat → Int32) (x_tickets_guests : Nat → Int32) (x_tickets_kind : Nat → Int32) (x_tickets_returned : Nat → Int32) (x_tickets_made : Int32) (x_requests_slot : Nat → Int32) (x_requests_guests : Nat → Int32) (x_requests_kind : Nat → Int32) (x_requests_ticket : Nat → Int32) (x_requests_made : Int32) (x_requests_served : Int32) (x_chances_ways : Nat → Int64) (x_tariff_text : Nat → Int32) (x_tariff_length : Int32) (x_tariff_prices : Nat → Int32) (x_tariff_percents : Nat → Int32) (x_tariff_clauses : Int32) (x_tariff_newPrices : Nat → Int32) (x_tariff_newPercents : Nat → Int32) (x_tariff_newClauses : Int32) (x_tariff_state : Int32) (x_tariff_subject : Int32) (x_tariff_number : Int32) (x_tariff_digits : Int32) (x_doors_seconds : Nat → Int32) (x_doors_order : Nat → Int32) (x_doors_firstIn : Nat → Int32) (x_doors_doubles : Nat → Int32) (x_doors_found : Int32) (x_doors_goneOut : Nat → Int32) (m_thrown : Int32) (m_slots : Int32) (m_places : Nat → Int32) (m_aboves : Nat → Int32) (m_belows : Nat → Int32) (m_riskAboves : Nat → Int32) (m_riskBelows : Nat → Int32) (m_tickets : Int32) (m_slotOf : Nat → Int32) (m_guests : Nat → Int32) (m_kinds : Nat → Int32) (m_returned : Nat → Int32) (m_outs : Nat → Int32) (m_requests : Int32) (m_requestSlots : Nat → Int32) (m_requestGuests : Nat → Int32) (m_requestKinds : Nat → Int32) (m_givens : Nat → Int32) (m_length : Int32) (m_text : Nat → Int32) (m_clauses : Int32) (m_sorts : Nat → Int32) (m_ones : Nat → Int32) (m_twos : Nat → Int32) (m_found : Int32) (m_readSorts : Nat → Int32) (m_readOnes : Nat → Int32) (m_readTwos : Nat → Int32) (m_seconds : Nat → Int32) (m_firsts : Nat → Int32) (m_doubles : Int32) (m_doubleTickets : Nat → Int32) (m_doubleReaders : Nat → Int32) (m_doubleSeconds : Nat → Int32) (m_digits : Nat → Int32) (o_ : Nat → Int64), INV x_slots_places x_slots_above x_slots_below x_slots_most x_slots_sold x_slots_made x_tickets_slot x_tickets_guests x_tickets_kind x_tickets_returned x_tickets_made x_requests_slot x_requests_guests x_requests_kind x_requests_ticket x_requests_made x_requests_served x_chances_ways x_tariff_text x_tariff_length x_tariff_prices x_tariff_percents x_tariff_clauses x_tariff_newPrices x_tariff_newPercents x_tariff_newClauses x_tariff_state x_tariff_subject x_tariff_number x_tariff_digits x_doors_seconds x_doors_order x_doors_firstIn x_doors_doubles x_doors_found x_doors_goneOut m_thrown m_slots m_places m_aboves m_belows m_riskAboves m_riskBelows m_tickets m_slotOf m_guests m_kinds m_returned m_outs m_requests m_requestSlots m_requestGuests m_requestKinds m_givens m_length m_text m_clauses m_sorts m_ones m_twos m_found m_readSorts m_readOnes m_readTwos m_seconds m_firsts m_doubles m_doubleTickets m_doubleReaders m_doubleSeconds m_digits o_ → k_ (l_4 + (6 : Int32)) x_slots_places x_slots_above x_slots_below x_slots_most x_slots_sold x_slots_made x_tickets_slot x_tickets_guests x_tickets_kind x_tickets_returned x_tickets_made x_requests_slot x_requests_guests x_requests_kind x_requests_ticket x_requests_made x_requests_served x_chances_ways x_tariff_text x_tariff_length x_tariff_prices x_tariff_percents x_tariff_clauses x_tariff_newPrices x_tariff_newPercents x_tariff_newClauses x_tariff_state x_tariff_subject x_tariff_number x_tariff_digits x_doors_seconds x_doors_order x_doors_firstIn x_doors_doubles x_doors_found x_doors_goneOut m_thrown m_slots m_places m_aboves m_belows m_riskAboves m_riskBelows m_tickets m_slotOf m_guests m_kinds m_returned m_outs m_requests m_requestSlots m_requestGuests m_requestKinds m_givens m_length m_text m_clauses m_sorts m_ones m_twos m_found m_readSorts m_readOnes m_readTwos m_seconds m_firsts m_doubles m_doubleTickets m_doubleReaders m_doubleSeconds m_digits o_) : wp_L_law_492 L xs k_ l_4 x_slots_places x_slots_above x_slots_below x_slots_most x_slots_sold x_slots_made x_tickets_slot x_tickets_guests x_tickets_kind x_tickets_returned x_tickets_made x_requests_slot x_requests_guests x_requests_kind x_requests_ticket x_requests_made x_requests_served x_chances_ways x_tariff_text x_tariff_length x_tariff_prices x_tariff_percents x_tariff_clauses x_tariff_newPrices x_tariff_newPercents x_tariff_newClauses x_tariff_state x_tariff_subject x_tariff_number x_tariff_digits x_doors_seconds x_doors_order x_doors_firstIn x_doors_doubles x_doors_found x_doors_goneOut m_thrown m_slots m_places m_aboves m_belows m_riskAboves m_riskBelows m_tickets m_slotOf m_guests m_kinds m_returned m_outs m_requests m_requestSlots m_requestGuests m_requestKinds m_givens m_length m_text m_clauses m_sorts m_ones m_twos m_found m_readSorts m_readOnes m_readTwos m_seconds m_firsts m_doubles m_doubleTickets m_doubleReaders m_doubleSeconds m_digits o_ := by
  obtain ⟨nS, nT, nR, sl, gu, ki, re, hS, hT, hSo, hR, hX, hU, hD⟩ := hI
  obtain ⟨v0, v1, v2, v3, v4, v5⟩ := script_in hL hj e4
  obtain ⟨s1, s2, s3, s4, s5⟩ := id hS
  obtain ⟨t1, t2, t3, t4, t5, t6⟩ := id hT
  obtain ⟨d1, d2, d3⟩ := id hD
  obtain ⟨r1, r2, r3, r4, r5⟩ := id hR
  subst t2
  subst t3
  subst r2
  subst r3
  have fx1 : ∀ x : Int32, x = l_4 + (6 : Int32) → k_ x x_slots_places x_slots_above x_slots_below x_slots_most x_slots_sold x_slots_made x_tickets_slot x_tickets_guests x_tickets_kind x_tickets_returned (nI nT) x_requests_slot x_requests_guests x_requests_kind x_requests_ticket (nI nR) x_requests_served x_chances_ways x_tariff_text x_tariff_length x_tariff_prices x_tariff_percents x_tariff_clauses x_tariff_newPrices x_tariff_newPercents x_tariff_newClauses x_tariff_state x_tariff_subject x_tariff_number x_tariff_digits x_doors_seconds x_doors_order x_doors_firstIn x_doors_doubles x_doors_found x_doors_goneOut 1 m_slots m_places m_aboves m_belows m_riskAboves m_riskBelows (nI nT) m_slotOf m_guests m_kinds m_returned m_outs (nI nR) m_requestSlots m_requestGuests m_requestKinds m_givens m_length m_text m_clauses m_sorts m_ones m_twos m_found m_readSorts m_readOnes m_readTwos m_seconds m_firsts m_doubles m_doubleTickets m_doubleReaders m_doubleSeconds m_digits o_ := fun x hx => by
    subst hx
    exact hk _ _ _ _ _ _ _ _ _ _ _ _ _ _ _ _ _ _ _ _ _ _ _ _ _ _ _ _ _ _ _ _ _ _ _ _ _ _ _ _ _ _ _ _ _ _ _ _ _ _ _ _ _ _ _ _ _ _ _ _ _ _ _ _ _ _ _ _ _ _ _ _ ⟨nS, nT, nR, sl, gu, ki, re, hS, hT, hSo, hR, hX, hU, hD⟩
  have nb : ∀ {n t : Nat} {a : Int32}, bad a n → t < n → n ≤ 300 → a = nI t → False := fun hb ht hn et => nbad ht (by omega) (by rw [← et]; exact hb)
  have same : ∀ {n n' : Nat} {a : Int32}, n < 60 → n' < 60 → a = nI n → a = nI n' → n = n' := fun h h' e e' => (nI_eq (by omega) (by omega)).mp (e.symm.trans e')
  have dd : ∀ t, t < 60 → ((∀ r, r < 6 → x_doors_seconds (6 * t + r) = -1) ↔ ∀ r, r < 6 → m_seconds (60 * r + t) = -1) := fun t ht => ⟨fun h r hr => by rw [← (d1 t r ht hr).1]; exact h r hr, fun h r hr => by rw [(d1 t r ht hr).1]; exact h r hr⟩
  have rr : ∀ t, t < 60 → x_tickets_returned t = m_returned t := fun t ht => by rw [(t5 t ht).2.1, (t5 t ht).2.2]
  refine ⟨v1, sx_back t1 (fun hb => ⟨rfl, v1, sm_back t1 (fun _ => fin_x (by decide) fx1) (fun t ht et => (nb hb ht (by omega) et).elim) (fun t ht et => (nb hb ht (by omega) et).elim)⟩) (fun t ht et z => ⟨out0, fun f ef => ⟨v1, sm_back t1 (fun hb => (nb hb ht (by omega) et).elim) (fun t' ht' et' _ => ?_) (fun t' ht' et' e1 e2 => ?_)⟩⟩) (fun t ht et e1 e2 => ?_)⟩
  · subst ef
    refine fin_0 (fin_o rfl (fun x hx => ?_))
    subst hx
    exact hk _ _ _ _ _ _ _ _ _ _ _ _ _ _ _ _ _ _ _ _ _ _ _ _ _ _ _ _ _ _ _ _ _ _ _ _ _ _ _ _ _ _ _ _ _ _ _ _ _ _ _ _ _ _ _ _ _ _ _ _ _ _ _ _ _ _ _ _ _ _ _ _ ⟨nS, nT, nR, sl, gu, ki, re, hS, hT, hSo, hR, hX, hU, hD⟩
  · obtain rfl := same (by omega) (by omega) et et'
    exact (z.elim (fun z => z (by rw [rr t (by omega)]; exact e1)) (fun z => z ((dd t (by omega)).mpr e2))).elim
  · obtain ⟨a1, a2, a3, a4, a5, a6, a7, a8, a9, a10⟩ := t4 t ht
    obtain ⟨b1, b2, b3⟩ := t5 t (by omega)
    have re0 : re t = 0 := (nI_eq (b := 0) (by omega) (by omega)).mp (by rw [← b2]; exact e1)
    have sb := sold_back (sl := sl) (gu := gu) (k := sl t) re0 nT
    rw [if_pos ⟨ht, rfl⟩] at sb
    obtain ⟨p, a, b, ra, rb, q1, q2, q3, q4, q5, q6, q7, q8, q9, q10, q11, q12, q13, q14, q15, q16, q17⟩ := s4 (sl t) a1
    have hT' : IT nS nT sl gu ki (updN re t 1) x_tickets_slot x_tickets_guests x_tickets_kind (upd x_tickets_returned t 1) (nI nT) (nI nT) m_slotOf m_guests m_kinds (upd m_returned t 1) := by
      refine ⟨t1, rfl, rfl, t4, fun t' ht' => ?_, fun t' ht' => ?_⟩
      · by_cases e : t' = t
        · subst e
          rw [updN_s, upd_s, upd_s]
          exact ⟨Nat.le_refl _, rfl, rfl⟩
        · rw [updN_n e, upd_n e, upd_n e]
          exact t5 t' ht'
      · rw [updN_n (by omega)]
        exact t6 t' ht'
    have hSo' : ISo nS nT sl gu (updN re t 1) (upd x_slots_sold (sl t) (nI (soldN sl gu re (sl t) nT - gu t))) := by
      obtain ⟨o1, o2⟩ := hSo
      refine ⟨fun k hk0 => ?_, fun k h1 h2 => by rw [upd_n (by omega)]; exact o2 k h1 h2⟩
      by_cases e : k = sl t
      · subst e
        rw [upd_s, ← sb, Nat.add_sub_cancel]
      · have sk := sold_back (sl := sl) (gu := gu) (k := k) re0 nT
        rw [if_neg (fun z => e z.2.symm), Nat.add_zero] at sk
        rw [upd_n e, sk]
        exact o1 k hk0
    obtain ⟨c', nT', sl', gu', ki', so', xs', xg', xk', ms', mg', mk', xt', mt', xd', w0, w1, w2, w3, w4, w5⟩ := serve (mo := x_slots_most) (sc := m_seconds) (th := 0) s1 r1 a1 q2 q3 q5 (by omega) q8 q10 q12 q14 q15 q16 q17 nR 0 0 nT sl gu ki _ _ _ _ _ _ _ _ _ _ (by omega) hT' hSo' hR
    refine ⟨sl t, gu t, soldN sl gu re (sl t) nT, by omega, by omega, a5, a7, hSo.1 _ a1, ⟨nR + 1, w4 _ ⟨out0, fun f ef => ⟨v1, sm_back t1 (fun hb => (nb hb ht (by omega) et).elim) (fun t' ht' et' z => ?_) (fun t' ht' et' e1' e2' => ?_)⟩⟩⟩⟩
    · obtain rfl := same (by omega) (by omega) et et'
      exact (z.elim (fun z => z (by rw [← rr t (by omega)]; exact e1)) (fun z => z ((dd t (by omega)).mp e2))).elim
    · obtain rfl := same (by omega) (by omega) et et'
      refine ⟨nR + 1, ?_⟩
      rw [a6]
      refine w5 _ _ (fun md' => ?_)
      subst ef
      refine fin_0 (fin_o rfl (fun x hx => ?_))
      subst hx
      exact hk _ _ _ _ _ _ _ _ _ _ _ _ _ _ _ _ _ _ _ _ _ _ _ _ _ _ _ _ _ _ _ _ _ _ _ _ _ _ _ _ _ _ _ _ _ _ _ _ _ _ _ _ _ _ _ _ _ _ _ _ _ _ _ _ _ _ _ _ _ _ _ _ ⟨nS, nT', nR, sl', gu', ki', updN re t 1, hS, w1, w2, w3, hX, hU, d1, fun t r h1 h2 h3 => d2 t r (by omega) h2 h3, d3⟩
