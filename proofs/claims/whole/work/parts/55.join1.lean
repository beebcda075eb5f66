-- join
def sOf (v : Int32) : Nat := v.toInt.toNat
theorem sOf_e {v : Int32} (h : sec v) (hn : ¬ v = -1) : v = nI (sOf v) ∧ sOf v ≤ 100000 := by
  rcases h with h | ⟨s, hs, e⟩
  · exact absurd h hn
  · have : sOf v = s := by
      unfold sOf
      rw [e, nI_toInt (by omega)]
      omega
    rw [this]
    exact ⟨e, hs⟩
def ky (v : Nat → Int32) (q : Nat) : Nat := 6 * sOf (v q) + q
/-- the readers below R that let in, m of them, in the order of their seconds -/
def SRT (v : Nat → Int32) (R m : Nat) (od : Nat → Nat) : Prop := m ≤ R ∧ (∀ i, i < m → od i < R ∧ ¬ v (od i) = -1) ∧ (∀ i j, i < j → j < m → ky v (od i) < ky v (od j)) ∧ ∀ q, q < R → ¬ v q = -1 → ∃ i, i < m ∧ od i = q
theorem sx_insert {xs v : Nat → Int32} {t r k : Nat} (ht : t < 60) (hr : r < 6) (hs : ∀ q, q < 6 → sec (v q)) (hx : ∀ q, q < 6 → xs (6 * t + q) = v q) (hin : ¬ v r = -1) {od : Nat → Nat} (hS : SRT v r k od) {order : Nat → Int32} (ho : ∀ i, i < k → order i = nI (6 * t + od i)) : ∃ (od' : Nat → Nat) (order' : Nat → Int32), SRT v (r + 1) (k + 1) od' ∧ (∀ i, i < k + 1 → order' i = nI (6 * t + od' i)) ∧ ∀ post : (Nat → Int32) → Prop, post order' → wp_XD_insertEntry post (nI (6 * t + r)) (nI k) xs order := by
  obtain ⟨s1, s2, s3, s4⟩ := hS
  have loop : ∀ (a : Nat), a ≤ k → ∀ oa : Nat → Int32, (∀ i, i < a → oa i = nI (6 * t + od i)) → (∀ i, a < i → i ≤ k → oa i = nI (6 * t + od (i - 1))) → (∀ i, a ≤ i → i < k → sOf (v r) < sOf (v (od i))) → ∃ (p : Nat) (order' : Nat → Int32), p ≤ k ∧ (∀ i, i < p → sOf (v (od i)) ≤ sOf (v r)) ∧ (∀ i, p ≤ i → i < k → sOf (v r) < sOf (v (od i))) ∧ (∀ i, i < p → order' i = nI (6 * t + od i)) ∧ order' p = nI (6 * t + r) ∧ (∀ i, p < i → i ≤ k → order' i = nI (6 * t + od (i - 1))) ∧ ∀ post : (Nat → Int32) → Prop, post order' → wp_XD_insertEntry_2 post xs (a + 1) (nI (6 * t + r)) (nI a) oa := by
    intro a
    induction a with
    | zero =>
      intro ha oa h1 h2 h3
      refine ⟨0, upd oa 0 (nI (6 * t + r)), by omega, fun i hi => by omega, h3, fun i hi => by omega, upd_s, fun i hi hk => by rw [upd_n (by omega)]; exact h2 i hi hk, fun post h => go_y (by decide) ⟨vin (by omega) (by omega), fun f ef => ?_⟩⟩
      rw [cl (by omega)] at ef
      rw [ef]
      exact h
    | succ a ih =>
      intro ha oa h1 h2 h3
      have hv : vp_in (nI a) 6 := vin (by omega) (by omega)
      have hv1 : vp_in (nI (a + 1)) 6 := vin (by omega) (by omega)
      obtain ⟨q1, q2⟩ := s2 a (by omega)
      obtain ⟨w1, w2⟩ := sOf_e (hs (od a) (by omega)) q2
      obtain ⟨w3, w4⟩ := sOf_e (hs r hr) hin
      have cmp : xs (6 * t + od a) ≤ xs (6 * t + r) ↔ sOf (v (od a)) ≤ sOf (v r) := by
        rw [hx _ (by omega), hx _ hr]
        exact Iff.trans (by rw [← w1, ← w3]) (nI_leI (a := sOf (v (od a))) (b := sOf (v r)) (by omega) (by omega))
      by_cases e : sOf (v (od a)) ≤ sOf (v r)
      · refine ⟨a + 1, upd oa (a + 1) (nI (6 * t + r)), ha, fun i hi => ?_, h3, fun i hi => by rw [upd_n (by omega)]; exact h1 i hi, upd_s, fun i hi hk => by rw [upd_n (by omega)]; exact h2 i hi hk, fun post h => go_n (nI_nle (by omega) (by omega)) ?_⟩
        · by_cases ei : i = a
          · rw [ei]; exact e
          · have := s3 i a (by omega) (by omega)
            have := (s2 i (by omega)).1
            unfold ky at *
            omega
        · rw [nI_pred, cl (by omega), h1 a (by omega), cl (by omega), cl (by omega), cl (by omega)]
          exact ⟨hv, vin (by omega) (by omega), vin (by omega) (by omega), go_y (cmp.mpr e) ⟨hv1, fun f ef => by rw [ef]; exact h⟩⟩
      · obtain ⟨p, order', p1, p2, p3, p4, p5, p6, p7⟩ := ih (by omega) (upd oa (a + 1) (nI (6 * t + od a))) (fun i hi => by rw [upd_n (by omega)]; exact h1 i (by omega)) (fun i hi hk => by
          by_cases ei : i = a + 1
          · subst ei; rw [upd_s, Nat.add_sub_cancel]
          · rw [upd_n ei]; exact h2 i (by omega) hk) (fun i hi hk => by
          by_cases ei : i = a
          · rw [ei]; omega
          · exact h3 i (by omega) hk)
        refine ⟨p, order', p1, p2, p3, p4, p5, p6, fun post h => go_n (nI_nle (by omega) (by omega)) ?_⟩
        rw [nI_pred, cl (by omega), h1 a (by omega), cl (by omega), cl (by omega), cl (by omega)]
        refine ⟨hv, vin (by omega) (by omega), vin (by omega) (by omega), go_n (fun z => e (cmp.mp z)) ⟨hv, hv1, fun f ef x ex => ?_⟩⟩
        rw [ef, ex, pk_m1]
        exact p7 post h
  obtain ⟨p, order', p1, p2, p3, p4, p5, p6, p7⟩ := loop k (Nat.le_refl _) order ho (fun i a b => by omega) (fun i a b => by omega)
  have a1 : ∀ i, i < p → (fun i => if i < p then od i else if i = p then r else od (i - 1)) i = od i := fun i hi => if_pos hi
  have a2 : (fun i => if i < p then od i else if i = p then r else od (i - 1)) p = r := by show (if p < p then od p else if p = p then r else od (p - 1)) = r; rw [if_neg (by omega), if_pos rfl]
  have a3 : ∀ i, p < i → (fun i => if i < p then od i else if i = p then r else od (i - 1)) i = od (i - 1) := fun i hi => by show (if i < p then od i else if i = p then r else od (i - 1)) = od (i - 1); rw [if_neg (by omega), if_neg (by omega)]
  refine ⟨fun i => if i < p then od i else if i = p then r else od (i - 1), order', ⟨by omega, fun i hi => ?_, fun i j hij hj => ?_, fun q hq hP => ?_⟩, fun i hi => ?_, fun post h => ⟨k + 1, p7 post h⟩⟩
  · by_cases e1 : i < p
    · rw [a1 i e1]; exact ⟨by have := (s2 i (by omega)).1; omega, (s2 i (by omega)).2⟩
    · by_cases e2 : i = p
      · rw [e2, a2]; exact ⟨by omega, hin⟩
      · rw [a3 i (by omega)]; exact ⟨by have := (s2 (i - 1) (by omega)).1; omega, (s2 (i - 1) (by omega)).2⟩
  · by_cases e1 : j < p
    · rw [a1 i (by omega), a1 j e1]; exact s3 i j hij (by omega)
    · by_cases e2 : j = p
      · rw [e2, a2, a1 i (by omega)]
        have := p2 i (by omega)
        have := (s2 i (by omega)).1
        unfold ky
        omega
      · rw [a3 j (by omega)]
        by_cases e3 : i < p
        · rw [a1 i e3]; exact s3 i (j - 1) (by omega) (by omega)
        · by_cases e4 : i = p
          · rw [e4, a2]
            have := p3 (j - 1) (by omega) (by omega)
            unfold ky
            omega
          · rw [a3 i (by omega)]; exact s3 (i - 1) (j - 1) (by omega) (by omega)
  · by_cases e1 : q = r
    · exact ⟨p, by omega, by rw [a2, e1]⟩
    · obtain ⟨i, hi, ei⟩ := s4 q (by omega) hP
      by_cases e2 : i < p
      · exact ⟨i, by omega, by rw [a1 i e2, ei]⟩
      · exact ⟨i + 1, by omega, by rw [a3 (i + 1) (by omega), Nat.add_sub_cancel, ei]⟩
  · by_cases e1 : i < p
    · rw [a1 i e1]; exact p4 i e1
    · by_cases e2 : i = p
      · rw [e2, a2]; exact p5
      · rw [a3 i (by omega)]; exact p6 i (by omega) (by omega)
theorem sx_sort {xs v : Nat → Int32} {t : Nat} (ht : t < 60) (hs : ∀ q, q < 6 → sec (v q)) (hx : ∀ q, q < 6 → xs (6 * t + q) = v q) : ∀ (d r k : Nat) (od : Nat → Nat) (order : Nat → Int32), r + d = 6 → SRT v r k od → (∀ i, i < k → order i = nI (6 * t + od i)) → ∃ (k' : Nat) (od' : Nat → Nat) (order' : Nat → Int32), SRT v 6 k' od' ∧ (∀ i, i < k' → order' i = nI (6 * t + od' i)) ∧ ∀ post : Int32 → (Nat → Int32) → Prop, post (nI k') order' → wp_XD_sortEntries_4 post xs (d + 1) (nI t) (nI k) (nI r) order := by
  intro d
  induction d with
  | zero =>
    intro r k od order hr hS ho
    obtain rfl : r = 6 := by omega
    exact ⟨k, od, order, hS, ho, fun post h => go_y (by decide) h⟩
  | succ d ih =>
    intro r k od order hr hS ho
    have hge : ¬ (6 : Int32) ≤ nI r := nI_ge (b := 6) (by omega) (by omega)
    by_cases e : v r = -1
    · have hS' : SRT v (r + 1) k od := by
        obtain ⟨s1, s2, s3, s4⟩ := hS
        refine ⟨by omega, fun i hi => ⟨by have := (s2 i hi).1; omega, (s2 i hi).2⟩, s3, fun q hq hP => ?_⟩
        by_cases e2 : q = r
        · rw [e2] at hP; exact absurd e hP
        · exact s4 q (by omega) hP
      obtain ⟨k', od', order', w1, w2, w3⟩ := ih (r + 1) k od order (by omega) hS' ho
      refine ⟨k', od', order', w1, w2, fun post h => go_n hge (sx_hasLetIn ht (by omega) (fun _ => go_y rfl (fun x ex => ?_)) (fun z => absurd (by rw [hx r (by omega)]; exact e) z))⟩
      rw [ex, nI_1]
      exact w3 post h
    · obtain ⟨od1, or1, u1, u2, u3⟩ := sx_insert ht (by omega) hs hx e hS ho
      obtain ⟨k', od', order', w1, w2, w3⟩ := ih (r + 1) (k + 1) od1 or1 (by omega) u1 u2
      refine ⟨k', od', order', w1, w2, fun post h => go_n hge (sx_hasLetIn ht (by omega) (fun z => absurd (by rw [hx r (by omega)] at z; exact z) e) (fun _ => go_n (by decide) ?_))⟩
      rw [show nI t * (6 : Int32) = nI (t * 6) from pk_mul t 6, nI_add, show t * 6 + r = 6 * t + r by omega]
      refine u3 _ (fun x ex y ey => ?_)
      rw [ex, ey, nI_1, nI_1]
      exact w3 post h
/-- the reader whose key is the least one that is at least af, of the readers below r -/
def BST (v : Nat → Int32) (af r : Nat) (b : Int32) : Prop := (b = -1 ∧ ∀ q, q < r → ¬ v q = -1 → ky v q < af) ∨ ∃ j, j < r ∧ b = nI j ∧ ¬ v j = -1 ∧ af ≤ ky v j ∧ ∀ q, q < r → ¬ v q = -1 → af ≤ ky v q → ky v j ≤ ky v q
theorem sm_next32 {post : Int32 → Unit → Prop} {ms v : Nat → Int32} {t af : Nat} {l4 : Int32} (ht : t < 60) (hs : ∀ q, q < 6 → sec (v q)) (hx : ∀ q, q < 6 → ms (60 * q + t) = v q) (hl : ∀ k, k < 2 ^ 30 → (nI k ≤ l4 ↔ k < af)) (h : ∀ b, BST v af 6 b → post b ()) : ∀ (d r : Nat) (b : Int32), r + d = 6 → BST v af r b → wp_M_next_32 post ms (d + 1) (nI t) b l4 (nI r) := by
  intro d
  induction d with
  | zero =>
    intro r b hr hB
    obtain rfl : r = 6 := by omega
    exact go_y (by decide) (h b hB)
  | succ d ih =>
    intro r b hr hB
    have ix : ∀ q, q < 6 → ((60 : Int32) * nI q) + nI t = nI (60 * q + t) := fun q hq => by rw [show (60 : Int32) * nI q = nI (60 * q) from pk_mul 60 q, nI_add]
    have iv : ∀ q, q < 6 → vp_in (nI (60 * q + t)) 360 := fun q hq => vin (by omega) (by omega)
    refine go_n (nI_ge (b := 6) (by omega) (by omega)) ?_
    rw [ix r (by omega), cl (by omega), hx r (by omega)]
    refine ⟨iv r (by omega), fun x ex => ?_⟩
    subst ex
    have keep : (v r = -1 ∨ ky v r < af) → wp_M_next_76 post ms (wp_M_next_32 post ms (d + 1)) (nI t) b l4 (nI r) (v r) := fun z => go_y rfl (fun x ex => by
      rw [ex, nI_1]
      refine ih (r + 1) b (by omega) ?_
      rcases hB with ⟨b1, b2⟩ | ⟨j, b1, b2, b3, b4, b5⟩
      · refine Or.inl ⟨b1, fun q hq hP => ?_⟩
        by_cases e : q = r
        · rw [e] at hP ⊢; exact z.elim (fun z => absurd z hP) (fun z => z)
        · exact b2 q (by omega) hP
      · refine Or.inr ⟨j, by omega, b2, b3, b4, fun q hq hP ha => ?_⟩
        by_cases e : q = r
        · rw [e] at hP ha ⊢; exact z.elim (fun z => absurd z hP) (fun z => by omega)
        · exact b5 q (by omega) hP ha)
    by_cases e : v r = -1
    · exact go_y e (keep (Or.inl e))
    · refine go_n e ?_
      obtain ⟨w1, w2⟩ := sOf_e (hs r (by omega)) e
      have ek : ((6 : Int32) * v r) + nI r = nI (ky v r) := by
        rw [w1, show (6 : Int32) * nI (sOf (v r)) = nI (6 * sOf (v r)) from pk_mul 6 _, nI_add]
        rfl
      have kb : ky v r < 2 ^ 30 := by unfold ky; omega
      rw [ek]
      by_cases e2 : ky v r < af
      · exact go_y ((hl _ kb).mpr e2) (keep (Or.inr e2))
      · refine go_n (fun z => e2 ((hl _ kb).mp z)) (go_n (by decide) ?_)
        have take : (∀ q, q < r → ¬ v q = -1 → af ≤ ky v q → ky v r ≤ ky v q) → ∀ x : Int32, x = nI r + (1 : Int32) → wp_M_next_32 post ms (d + 1) (nI t) (nI r) l4 x := fun z x ex => by
          rw [ex, nI_1]
          refine ih (r + 1) (nI r) (by omega) (Or.inr ⟨r, by omega, rfl, e, by omega, fun q hq hP ha => ?_⟩)
          by_cases e3 : q = r
          · rw [e3]; exact Nat.le_refl _
          · exact z q (by omega) hP ha
        rcases hB with ⟨b1, b2⟩ | ⟨j, b1, b2, b3, b4, b5⟩
        · exact go_y b1 (take (fun q hq hP ha => absurd (b2 q hq hP) (by omega)))
        · subst b2
          refine go_n (m1ne (by omega)) ?_
          rw [ix j (by omega), cl (by omega), hx j (by omega)]
          obtain ⟨w3, w4⟩ := sOf_e (hs j (by omega)) b3
          have cmp : v j ≤ v r ↔ sOf (v j) ≤ sOf (v r) := Iff.trans (by rw [← w1, ← w3]) (nI_leI (a := sOf (v j)) (b := sOf (v r)) (by omega) (by omega))
          refine ⟨iv j (by omega), ?_⟩
          by_cases e4 : sOf (v j) ≤ sOf (v r)
          · refine go_y (cmp.mpr e4) (fun x ex => ?_)
            rw [ex, nI_1]
            refine ih (r + 1) (nI j) (by omega) (Or.inr ⟨j, by omega, rfl, b3, b4, fun q hq hP ha => ?_⟩)
            by_cases e3 : q = r
            · rw [e3]; unfold ky; omega
            · exact b5 q (by omega) hP ha
          · refine go_n (fun z => e4 (cmp.mp z)) (take (fun q hq hP ha => ?_))
            have := b5 q hq hP ha
            unfold ky at *
            omega
theorem nI_nlm {k : Nat} (hk : k < 2 ^ 30) : ¬ nI k ≤ (-1 : Int32) := by
  intro z
  rw [Int32.le_iff_toInt_le, nI_toInt (by omega)] at z
  have : (-1 : Int32).toInt = -1 := by decide
  omega
theorem sm_next0 {post : Int32 → Unit → Prop} {ms v : Nat → Int32} {t : Nat} (ht : t < 60) (hs : ∀ q, q < 6 → sec (v q)) (hx : ∀ q, q < 6 → ms (60 * q + t) = v q) (h : ∀ b, BST v 0 6 b → post b ()) : wp_M_next post (nI t) (-1) ms :=
  go_y rfl ⟨7, sm_next32 ht hs hx (fun k hk => ⟨fun z => absurd z (nI_nlm hk), fun z => absurd z (by omega)⟩) h 6 0 (-1) (by omega) (Or.inl ⟨rfl, fun q hq => by omega⟩)⟩
theorem sm_nextj {post : Int32 → Unit → Prop} {ms v : Nat → Int32} {t j : Nat} (ht : t < 60) (hj : j < 6) (hs : ∀ q, q < 6 → sec (v q)) (hx : ∀ q, q < 6 → ms (60 * q + t) = v q) (hP : ¬ v j = -1) (h : ∀ b, BST v (ky v j + 1) 6 b → post b ()) : wp_M_next post (nI t) (nI j) ms := by
  refine go_n (m1ne (by omega)) ?_
  rw [show (60 : Int32) * nI j = nI (60 * j) from pk_mul 60 j, nI_add, cl (by omega), hx j hj]
  refine ⟨vin (by omega) (by omega), fun x ex => ?_⟩
  obtain ⟨w1, w2⟩ := sOf_e (hs j hj) hP
  have ek : x = nI (ky v j) := by
    rw [ex, w1, show (6 : Int32) * nI (sOf (v j)) = nI (6 * sOf (v j)) from pk_mul 6 _, nI_add]
    rfl
  have kb : ky v j < 2 ^ 30 := by unfold ky; omega
  exact ⟨7, sm_next32 ht hs hx (fun k hk => by rw [ek, nI_leI (by omega) (by omega)]; omega) h 6 0 (-1) (by omega) (Or.inl ⟨rfl, fun q hq => by omega⟩)⟩
theorem bst_of {v : Nat → Int32} {m i af : Nat} {od : Nat → Nat} {b : Int32} (hS : SRT v 6 m od) (hi : i ≤ m) (ha : ∀ n, n < m → (af ≤ ky v (od n) ↔ i ≤ n)) (hB : BST v af 6 b) : b = if i < m then nI (od i) else -1 := by
  obtain ⟨s1, s2, s3, s4⟩ := hS
  rcases hB with ⟨b1, b2⟩ | ⟨j, b1, b2, b3, b4, b5⟩
  · by_cases e : i < m
    · have := b2 (od i) (s2 i e).1 (s2 i e).2
      have := (ha i e).mpr (Nat.le_refl _)
      omega
    · rw [if_neg e]; exact b1
  · obtain ⟨n, hn, en⟩ := s4 j b1 b3
    subst en
    have q := (ha n hn).mp b4
    rw [if_pos (by omega)]
    have q2 := b5 (od i) (s2 i (by omega)).1 (s2 i (by omega)).2 ((ha i (by omega)).mpr (Nat.le_refl _))
    by_cases e : i = n
    · rw [e]; exact b2
    · have := s3 i n (by omega) hn
      omega

