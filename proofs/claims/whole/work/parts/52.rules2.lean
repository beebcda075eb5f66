-- rules, the class
theorem sx_fill {post : (Nat → Int32) → Prop} {v : Int32} {n : Nat} (hn : n < 2 ^ 31) {f0 : Nat → Int32} (h : ∀ f : Nat → Int32, (∀ j, j < n → f j = v) → post f) : wp_JA_fill_aIIV post n v f0 := by
  have loop : ∀ (d i : Nat) (f : Nat → Int32), i + d = n → (∀ j, j < i → f j = v) → wp_JA_fill_aIIV_5 post n (d + 1) v (nI i) (nI n) f := by
    intro d
    induction d with
    | zero =>
      intro i f hi hf
      obtain rfl : i = n := by omega
      exact ⟨fun _ => h f hf, fun q => absurd (nI_le (Nat.le_refl _) (by omega)) q⟩
    | succ d ih =>
      intro i f hi hf
      refine ⟨fun q => absurd q (nI_ge (by omega) (by omega)), fun _ => ⟨vin (by omega) (by omega), fun g eg x ex => ?_⟩⟩
      rw [cl (by omega)] at eg
      rw [ex, nI_1]
      refine ih (i + 1) g (by omega) (fun j hj => ?_)
      subst eg
      by_cases e : j = i
      · subst e; exact upd_s
      · rw [upd_n e]; exact hf j (by omega)
  intro x ex
  subst ex
  exact ⟨n + 1, loop n 0 f0 (by omega) (fun j hj => by omega)⟩
theorem dig_x {a c : Nat} {x : Int32} (h : 48 ≤ c) (e : x = (nI a * (10 : Int32) + nI c) - (48 : Int32)) : x = nI (10 * a + (c - 48)) := by
  rw [e, show nI a * (10 : Int32) = nI (a * 10) from pk_mul a 10, nI_add, show nI (a * 10 + c) - (48 : Int32) = nI (a * 10 + c - 48) from pk_sub (b := 48) (by omega)]
  congr 1
  omega
theorem sx_digit {post : Int32 → (Int32 × Int32) → Prop} {c num dg g : Nat} {G : Int32} (eG : G = nI g) (hc : c < 127) (hn : num ≤ 99999) (hd : dg ≤ 5) (hg : g ≤ 99999) (h0 : ¬ (48 ≤ c ∧ c ≤ 57 ∧ dg < 5 ∧ 10 * num + (c - 48) ≤ g) → ∀ u, post 0 u) (h1 : 48 ≤ c → c ≤ 57 → dg < 5 → 10 * num + (c - 48) ≤ g → post 1 (nI (10 * num + (c - 48)), nI (dg + 1))) : wp_XF_takesDigit post (nI c) G (nI num) (nI dg) := by
  subst eG
  by_cases a1 : c < 48
  · exact go_y (nI_lt (b := 48) a1 (by omega)) (h0 (by omega) _)
  refine go_n (nI_nlt (b := 48) (by omega) (by omega)) ?_
  by_cases a2 : 57 < c
  · exact go_y (nI_lt (a := 57) a2 (by omega)) (h0 (by omega) _)
  refine go_n (nI_nlt (a := 57) (by omega) (by omega)) ?_
  by_cases a3 : dg < 5
  · refine go_y (nI_lt (b := 5) a3 (by omega)) (fun x ex y ey => ?_)
    obtain rfl := dig_x (by omega) ex
    rw [ey, nI_1]
    by_cases a4 : 10 * num + (c - 48) ≤ g
    · exact go_n (nI_nlt a4 (by omega)) (h1 (by omega) (by omega) a3 a4)
    · exact go_y (nI_lt (by omega) (by omega)) (h0 (by omega) _)
  · exact go_n (nI_nlt (b := 5) (by omega) (by omega)) (h0 (by omega) _)
theorem sx_group {post : Int32 → (Int32 × Int32) → Prop} {c num dg : Nat} (hc : c < 127) (hn : num ≤ 9) (hd : dg ≤ 5) (h0 : ¬ (48 ≤ c ∧ c ≤ 57 ∧ dg < 5 ∧ 10 * num + (c - 48) < 10 ∧ (0 < 10 * num + (c - 48) ∨ dg + 1 < 5)) → ∀ u, post 0 u) (h1 : 48 ≤ c → c ≤ 57 → dg < 5 → 10 * num + (c - 48) < 10 → (0 < 10 * num + (c - 48) ∨ dg + 1 < 5) → post 1 (nI (10 * num + (c - 48)), nI (dg + 1))) : wp_XF_takesGroupDigit post (nI c) (nI num) (nI dg) := by
  refine sx_digit (g := 9) rfl hc (by omega) hd (by omega) (fun z u => go_y rfl (h0 (by omega) _)) (fun a1 a2 a3 a4 => go_n (by decide) ?_)
  by_cases b : 0 < 10 * num + (c - 48)
  · exact go_y (nI_lt (a := 0) b (by omega)) (h1 a1 a2 a3 (by omega) (Or.inl b))
  · refine go_n (nI_nlt (b := 10 * num + (c - 48)) (a := 0) (by omega) (by omega)) ?_
    by_cases d5 : dg + 1 < 5
    · exact go_n (nI_ge (b := 5) d5 (by omega)) (h1 a1 a2 a3 (by omega) (Or.inr d5))
    · exact go_y (nI_le (a := 5) (by omega) (by omega)) (h0 (by omega) _)
def RC (np npe rs ro rt : Nat → Int32) (n : Nat) : Prop := (∀ k, k < 5 → np k = prI rs rt k n) ∧ (∀ g, 1 ≤ g → g ≤ 9 → npe g = peI rs ro rt g n) ∧ ∀ c, c < n → (∃ k v : Nat, k < 5 ∧ rs c = nI k ∧ v ≤ 99999 ∧ rt c = nI v) ∨ (rs c = -1 ∧ ∃ u v : Nat, 1 ≤ u ∧ u ≤ 9 ∧ ro c = nI u ∧ v ≤ 100 ∧ rt c = nI v)
theorem prI_c {rs rt rs' rt' : Nat → Int32} {k : Nat} : ∀ n, (∀ c, c < n → rs c = rs' c ∧ rt c = rt' c) → prI rs rt k n = prI rs' rt' k n
  | 0, _ => rfl
  | n + 1, h => by rw [prI, prI, (h n (by omega)).1, (h n (by omega)).2, prI_c n (fun c hc => h c (by omega))]
theorem peI_c {rs ro rt rs' ro' rt' : Nat → Int32} {g : Nat} : ∀ n, (∀ c, c < n → rs c = rs' c ∧ ro c = ro' c ∧ rt c = rt' c) → peI rs ro rt g n = peI rs' ro' rt' g n
  | 0, _ => rfl
  | n + 1, h => by rw [peI, peI, (h n (by omega)).1, (h n (by omega)).2.1, (h n (by omega)).2.2, peI_c n (fun c hc => h c (by omega))]
theorem RC_c {np npe rs ro rt rs' ro' rt' : Nat → Int32} {n : Nat} (h : RC np npe rs ro rt n) (e : ∀ c, c < n → rs c = rs' c ∧ ro c = ro' c ∧ rt c = rt' c) : RC np npe rs' ro' rt' n := by
  obtain ⟨h1, h2, h3⟩ := h
  refine ⟨fun k hk => by rw [h1 k hk]; exact prI_c n (fun c hc => ⟨(e c hc).1, (e c hc).2.2⟩), fun g a b => by rw [h2 g a b]; exact peI_c n e, fun c hc => ?_⟩
  rw [← (e c hc).1, ← (e c hc).2.1, ← (e c hc).2.2]
  exact h3 c hc
theorem m1ne {k : Nat} (h : k < 2 ^ 31) : ¬ nI k = -1 := fun q => by
  have := nI_pos (n := k) h
  rw [q] at this
  exact this (by decide)
theorem RC_2 {np npe rs ro rt : Nat → Int32} {n k two : Nat} (h : RC np npe rs ro rt n) (hk : k < 5) (e : rs n = nI k) (ht : two ≤ 99999) (et : rt n = nI two) : RC (upd np k (nI two)) npe rs ro rt (n + 1) := by
  obtain ⟨h1, h2, h3⟩ := h
  refine ⟨fun i hi => ?_, fun g a b => ?_, fun c hc => ?_⟩
  · rw [prI, e]
    by_cases q : i = k
    · subst q; rw [upd_s, if_pos rfl, et]
    · rw [upd_n q, if_neg (nn (by omega) (by omega) (Ne.symm q)), h1 i hi]
  · rw [peI, if_neg (fun z => m1ne (by omega) (e.symm.trans z.1)), h2 g a b]
  · by_cases q : c = n
    · subst q; exact Or.inl ⟨k, two, hk, e, ht, et⟩
    · exact h3 c (by omega)
theorem RC_4 {np npe npe' rs ro rt : Nat → Int32} {n one two : Nat} (h : RC np npe rs ro rt n) (e : rs n = -1) (h1o : 1 ≤ one) (h9 : one ≤ 9) (eo : ro n = nI one) (ht : two ≤ 100) (et : rt n = nI two) (hp : ∀ j, j < 10 → npe' j = if one ≤ j ∧ npe j < nI two then nI two else npe j) : RC np npe' rs ro rt (n + 1) := by
  obtain ⟨h1, h2, h3⟩ := h
  refine ⟨fun i hi => ?_, fun g a b => ?_, fun c hc => ?_⟩
  · rw [prI, e, if_neg (fun z => m1ne (by omega) z.symm), h1 i hi]
  · rw [peI, e, eo, et, hp g (by omega), h2 g a b]
    by_cases q : one ≤ g ∧ peI rs ro rt g n < nI two
    · rw [if_pos q, if_pos ⟨rfl, nI_le q.1 (by omega), q.2⟩]
    · rw [if_neg q, if_neg (fun z => q ⟨(nI_leI (by omega) (by omega)).mp z.2.1, z.2.2⟩)]
  · by_cases q : c = n
    · subst q; exact Or.inr ⟨e, one, two, h1o, h9, eo, ht, et⟩
    · exact h3 c (by omega)
def PH (state sub num dig : Int32) (st many found one two : Nat) (rs : Nat → Int32) : Prop :=
  (st = 1 ∧ state = 1 ∧ two = 0 ∧ ∃ k, k < 5 ∧ sub = nI k ∧ rs found = nI k) ∨
  (∃ dg k, ((dg = 0 ∧ st + 1 = 3) ∨ (1 ≤ dg ∧ st = 3 ∧ many = dg)) ∧ dg ≤ 5 ∧ state = 2 ∧ num = nI two ∧ dig = nI dg ∧ two < 10 ^ dg ∧ k < 5 ∧ sub = nI k ∧ rs found = nI k) ∨
  (∃ dg, ((dg = 0 ∧ st + 1 = 5) ∨ (1 ≤ dg ∧ st = 5 ∧ many = dg)) ∧ dg ≤ 5 ∧ state = 3 ∧ num = nI one ∧ dig = nI dg ∧ (dg = 0 → one = 0) ∧ two = 0 ∧ rs found = -1) ∨
  (∃ dg, ((dg = 0 ∧ st + 1 = 7) ∨ (1 ≤ dg ∧ st = 7 ∧ many = dg)) ∧ dg ≤ 5 ∧ state = 4 ∧ num = nI two ∧ dig = nI dg ∧ (dg = 0 → two = 0) ∧ two ≤ 100 ∧ 1 ≤ one ∧ sub = nI one ∧ rs found = -1)
/-- a text half read: the class's state beside the reference's -/
def RL (np npe : Nat → Int32) (nc state sub num dig : Int32) (st many found one two : Nat) (rs ro rt : Nat → Int32) : Prop :=
  nc = nI found ∧ found ≤ 7 ∧ one ≤ 9 ∧ RC np npe rs ro rt found ∧ ((st = 0 ∧ state = 0) ∨ (ro found = nI one ∧ rt found = nI two ∧ PH state sub num dig st many found one two rs))
theorem p10 {a : Nat} (h : a ≤ 5) : 10 ^ a ≤ 100000 := (Nat.pow_le_pow_right (by omega) h : 10 ^ a ≤ 10 ^ 5)
/-- the end of a clause -/
theorem rl_end {np npe rs ro rt : Nat → Int32} {nc state sub num dig : Int32} {st many found one two : Nat} (hR : RL np npe nc state sub num dig st many found one two rs ro rt) : (¬ st = 3 ∧ ¬ st = 7 ∧ ∀ post : Int32 → ((Nat → Int32) × (Nat → Int32) × Int32) → Prop, (∀ u, post 0 u) → wp_XF_endsClause post np npe nc state sub num dig) ∨ ((st = 3 ∨ st = 7) ∧ ∃ np' npe', RC np' npe' rs ro rt (found + 1) ∧ ∀ post : Int32 → ((Nat → Int32) × (Nat → Int32) × Int32) → Prop, post 1 (np', npe', nI (found + 1)) → wp_XF_endsClause post np npe nc state sub num dig) := by
  obtain ⟨r1, r2, r3, r4, r5⟩ := hR
  subst r1
  rcases r5 with ⟨rfl, rfl⟩ | ⟨e1, e2, ⟨rfl, rfl, a, k, hk, ek, es⟩ | ⟨dg, k, hs, hd, rfl, rfl, rfl, h10, hk, rfl, es⟩ | ⟨dg, hs, hd, rfl, rfl, rfl, h0, h2, es⟩ | ⟨dg, hs, hd, rfl, rfl, rfl, h0, h2, h1, rfl, es⟩⟩
  · exact Or.inl ⟨by omega, by omega, fun post h => go_n (by decide) (go_n (by decide) (h _))⟩
  · exact Or.inl ⟨by omega, by omega, fun post h => go_n (by decide) (go_n (by decide) (h _))⟩
  · rcases hs with ⟨rfl, q⟩ | ⟨q, q2, q3⟩
    · exact Or.inl ⟨by omega, by omega, fun post h => go_y rfl (go_y rfl (h _))⟩
    · have := p10 hd
      refine Or.inr ⟨Or.inl q2, upd np k (nI two), npe, RC_2 r4 hk es (by omega) e2, fun post h => go_y rfl (go_n (nI_ne0 (by omega) (by omega)) (go_y rfl ⟨vin hk (by omega), fun f ef x ex => ?_⟩))⟩
      rw [cl (by omega)] at ef
      rw [ef, ex, nI_1]
      exact h
  · exact Or.inl ⟨by omega, by omega, fun post h => go_n (by decide) (go_n (by decide) (h _))⟩
  · rcases hs with ⟨rfl, q⟩ | ⟨q, q2, q3⟩
    · exact Or.inl ⟨by omega, by omega, fun post h => go_n (by decide) (go_y rfl (go_y rfl (h _)))⟩
    · have loop : ∀ (d g : Nat) (f : Nat → Int32), g + d = 10 → one ≤ g → (∀ j, j < 10 → f j = if one ≤ j ∧ j < g ∧ npe j < nI two then nI two else npe j) → ∃ f', (∀ j, j < 10 → f' j = if one ≤ j ∧ npe j < nI two then nI two else npe j) ∧ ∀ post : Int32 → ((Nat → Int32) × (Nat → Int32) × Int32) → Prop, post 1 (np, f', nI (found + 1)) → wp_XF_endsClause_54 post 4 (nI one) (nI two) (nI dg) (d + 1) (nI g) np f (nI found) := by
        intro d
        induction d with
        | zero =>
          intro g f hg ho hf
          obtain rfl : g = 10 := by omega
          refine ⟨f, fun j hj => ?_, fun post h => go_y (by decide) (fun x ex => by rw [ex, nI_1]; exact h)⟩
          rw [hf j hj]
          by_cases w : one ≤ j ∧ npe j < nI two
          · rw [if_pos w, if_pos ⟨w.1, hj, w.2⟩]
          · rw [if_neg w, if_neg (fun z => w ⟨z.1, z.2.2⟩)]
        | succ d ih =>
          intro g f hg ho hf
          have hv : vp_in (nI g) 10 := vin (by omega) (by omega)
          obtain ⟨f', p1, p2⟩ := ih (g + 1) (upd f g (if f g < nI two then nI two else f g)) (by omega) (by omega) (fun j hj => by
            by_cases w : j = g
            · subst w
              rw [upd_s, hf j hj, if_neg (show ¬ (one ≤ j ∧ j < j ∧ npe j < nI two) by omega)]
              by_cases w2 : npe j < nI two
              · rw [if_pos w2, if_pos ⟨ho, by omega, w2⟩]
              · rw [if_neg w2, if_neg (fun z => w2 z.2.2)]
            · rw [upd_n w, hf j hj]
              by_cases w2 : one ≤ j ∧ j < g ∧ npe j < nI two
              · rw [if_pos w2, if_pos ⟨w2.1, by omega, w2.2.2⟩]
              · rw [if_neg w2, if_neg (fun z => w2 ⟨z.1, by omega, z.2.2⟩)])
          refine ⟨f', p1, fun post h => go_n (nI_nlt (a := 9) (by omega) (by omega)) ⟨hv, hv, fun f1 ef x ex => ?_⟩⟩
          rw [cl (by omega)] at ef
          rw [ex, nI_1, ef]
          exact p2 post h
      obtain ⟨f', p1, p2⟩ := loop (10 - one) one npe (by omega) (Nat.le_refl _) (fun j hj => by rw [if_neg (fun z => by omega)])
      exact Or.inr ⟨Or.inr q2, np, f', RC_4 r4 es h1 r3 e1 h2 e2 p1, fun post h => go_n (by decide) (go_y rfl (go_n (nI_ne0 (by omega) (by omega)) (go_n (by decide) ⟨10 - one + 1, p2 post h⟩)))⟩
theorem rl_next {np npe rs ro rt : Nat → Int32} {nc state sub num dig : Int32} {st many found one two : Nat} (hR : RL np npe nc state sub num dig st many found one two rs ro rt) : (¬ ((st = 3 ∨ st = 7) ∧ found < 7) ∧ ∀ post : Int32 → ((Nat → Int32) × (Nat → Int32) × Int32 × Int32) → Prop, (∀ u, post 0 u) → wp_XF_beginsNext post np npe nc state sub num dig) ∨ ((st = 3 ∨ st = 7) ∧ found < 7 ∧ ∃ np' npe', RC np' npe' rs ro rt (found + 1) ∧ ∀ post : Int32 → ((Nat → Int32) × (Nat → Int32) × Int32 × Int32) → Prop, post 1 (np', npe', nI (found + 1), 0) → wp_XF_beginsNext post np npe nc state sub num dig) := by
  have h7 := hR.2.1
  rcases rl_end hR with ⟨a, b, h⟩ | ⟨a, np', npe', hc, h⟩
  · exact Or.inl ⟨by omega, fun post hp => h _ (fun u => go_y rfl (hp _))⟩
  · by_cases q : found < 7
    · exact Or.inr ⟨a, q, np', npe', hc, fun post hp => h _ (go_n (by decide) (go_y (nI_lt (b := 8) (by omega) (by omega)) hp))⟩
    · exact Or.inl ⟨by omega, fun post hp => h _ (go_n (by decide) (go_n (nI_nlt (b := 8) (by omega) (by omega)) (hp _)))⟩

