-- rules, both
def XF_ (c : Nat) (np npe : Nat → Int32) (nc state sub num dig : Int32) : Prop := ∀ post : Int32 → ((Nat → Int32) × (Nat → Int32) × Int32 × Int32 × Int32 × Int32 × Int32) → Prop, (∀ u, post 0 u) → wp_XF_takes post (nI c) np npe nc state sub num dig
def XG_ (c : Nat) (np npe : Nat → Int32) (nc state sub num dig : Int32) (st' many' found' one' two' : Nat) (rs' ro' rt' : Nat → Int32) : Prop := ∃ np' npe' nc' s' sub' num' dig', RL np' npe' nc' s' sub' num' dig' st' many' found' one' two' rs' ro' rt' ∧ ∀ post : Int32 → ((Nat → Int32) × (Nat → Int32) × Int32 × Int32 × Int32 × Int32 × Int32) → Prop, post 1 (np', npe', nc', s', sub', num', dig') → wp_XF_takes post (nI c) np npe nc state sub num dig
theorem rl_step {tx : Nat → Int32} {len i c : Nat} (hl : len ≤ 60) (hi : i < len) (ec : tx i = nI c) (hc : c < 127) {np npe rs ro rt : Nat → Int32} {nc state sub num dig : Int32} {st many found one two : Nat} (hR : RL np npe nc state sub num dig st many found one two rs ro rt) : (XF_ c np npe nc state sub num dig ∧ MF tx len i st many found rs ro rt) ∨ ∃ st' many' found' one' two' rs' ro' rt', XG_ c np npe nc state sub num dig st' many' found' one' two' rs' ro' rt' ∧ MG tx len i st many found rs ro rt st' many' found' rs' ro' rt' := by
  have hN := rl_next hR
  obtain ⟨r1, r2, r3, r4, r5⟩ := hR
  subst r1
  have U : ∀ {a b v : Int32}, RC np npe (upd rs found a) (upd ro found b) (upd rt found v) found := fun {a b v} => RC_c r4 (fun c hc => ⟨(upd_n (by omega)).symm, (upd_n (by omega)).symm, (upd_n (by omega)).symm⟩)
  have U2 : ∀ {b v : Int32}, RC np npe rs (upd ro found b) (upd rt found v) found := fun {b v} => RC_c r4 (fun c hc => ⟨rfl, (upd_n (by omega)).symm, (upd_n (by omega)).symm⟩)
  have U3 : ∀ {v : Int32}, RC np npe rs ro (upd rt found v) found := fun {v} => RC_c r4 (fun c hc => ⟨rfl, rfl, (upd_n (by omega)).symm⟩)
  rcases r5 with ⟨rfl, rfl⟩ | ⟨e1, e2, ⟨rfl, rfl, a, k, hk, ek, es⟩ | ⟨dg, k, hs, hd, rfl, rfl, rfl, h10, hk, rfl, es⟩ | ⟨dg, hs, hd, rfl, rfl, rfl, h0, h2, es⟩ | ⟨dg, hs, hd, rfl, rfl, rfl, h0, h2, h1, rfl, es⟩⟩
  · by_cases c1 : c = 103
    · refine Or.inr ⟨4, 0, found, 0, 0, _, _, _, ⟨np, npe, nI found, 3, sub, 0, 0, ⟨rfl, r2, by omega, U, Or.inr ⟨upd_s, upd_s, Or.inr (Or.inr (Or.inl ⟨0, Or.inl ⟨rfl, rfl⟩, by omega, rfl, rfl, rfl, fun _ => rfl, rfl, upd_s⟩))⟩⟩, fun post h => ?_⟩, m0g hl hi ec hc r2 c1⟩
      subst c1
      exact go_n (by decide) (go_n (by decide) (go_y rfl (go_y rfl ⟨Or.inr rfl, Or.inr rfl, h⟩)))
    · have hne : ¬ nI c = (103 : Int32) := nn (b := 103) (by omega) (by omega) c1
      by_cases c2 : c < 48
      · exact Or.inl ⟨fun post h => go_n (by decide) (go_n (by decide) (go_y rfl (go_n hne (go_y (nI_lt (b := 48) c2 (by omega)) ⟨Or.inl rfl, h _⟩)))), m0x hl hi ec hc r2 c1 (Or.inl c2)⟩
      · by_cases c3 : c < 53
        · refine Or.inr ⟨1, 0, found, 0, 0, _, _, _, ⟨np, npe, nI found, 1, nI (c - 48), num, dig, ⟨rfl, r2, by omega, U, Or.inr ⟨upd_s, upd_s, Or.inl ⟨rfl, rfl, rfl, c - 48, by omega, rfl, upd_s⟩⟩⟩, fun post h => go_n (by decide) (go_n (by decide) (go_y rfl (go_n hne (go_n (nI_nlt (b := 48) (by omega) (by omega)) (go_y (nI_lt (b := 53) c3 (by omega)) (fun x ex => ⟨Or.inr rfl, ?_⟩))))))⟩, m0d hl hi ec hc r2 (by omega) (by omega)⟩
          rw [show nI c - (48 : Int32) = nI (c - 48) from pk_sub (b := 48) (by omega)] at ex
          rw [ex]
          exact h
        · exact Or.inl ⟨fun post h => go_n (by decide) (go_n (by decide) (go_y rfl (go_n hne (go_n (nI_nlt (b := 48) (by omega) (by omega)) (go_n (nI_nlt (b := 53) (by omega) (by omega)) ⟨Or.inl rfl, h _⟩))))), m0x hl hi ec hc r2 c1 (Or.inr (by omega))⟩
  · by_cases c1 : c = 61
    · refine Or.inr ⟨2, many, found, one, two, _, _, _, ⟨np, npe, nI found, 2, sub, 0, 0, ⟨rfl, r2, r3, r4, Or.inr ⟨e1, e2, Or.inr (Or.inl ⟨0, k, Or.inl ⟨rfl, rfl⟩, by omega, rfl, by rw [a]; rfl, rfl, by omega, hk, ek, es⟩)⟩⟩, fun post h => ?_⟩, m1y hl hi ec hc c1⟩
      subst c1
      exact go_n (by decide) (go_n (by decide) (go_n (by decide) (go_y rfl (go_y rfl (go_n (by decide) h)))))
    · have hne : ¬ nI c = (61 : Int32) := nn (b := 61) (by omega) (by omega) c1
      exact Or.inl ⟨fun post h => go_n (by decide) (go_n (by decide) (go_n (by decide) (go_y rfl (go_n hne (h _))))), m1x hl hi ec hc c1⟩
  · have hp := p10 hd
    by_cases c1 : c = 44
    · rcases hN with ⟨b, hX⟩ | ⟨b, b2, np', npe', q, hX⟩
      · refine Or.inl ⟨fun post h => ?_, mxx hl hi ec hc r2 hd e1 e2 (Or.inl (by omega)) r3 (by omega) (by omega) (by omega)⟩
        subst c1
        exact go_n (by decide) (go_n (by decide) (go_n (by decide) (go_n (by decide) (go_y rfl (go_y rfl (hX _ (fun u => ⟨Or.inl rfl, h _⟩)))))))
      · refine Or.inr ⟨0, many, found + 1, 0, 0, _, _, _, ⟨np', npe', nI (found + 1), 0, nI k, nI two, nI dg, ⟨rfl, by omega, by omega, q, Or.inl ⟨rfl, rfl⟩⟩, fun post h => ?_⟩, mcm hl hi ec hc r2 hd e1 e2 c1 b b2⟩
        subst c1
        exact go_n (by decide) (go_n (by decide) (go_n (by decide) (go_n (by decide) (go_y rfl (go_y rfl (hX _ ⟨Or.inr rfl, h⟩))))))
    · have hne : ¬ nI c = (44 : Int32) := nn (b := 44) (by omega) (by omega) c1
      have go : ∀ post : Int32 → ((Nat → Int32) × (Nat → Int32) × Int32 × Int32 × Int32 × Int32 × Int32) → Prop, (¬ (48 ≤ c ∧ c ≤ 57 ∧ dg < 5 ∧ 10 * two + (c - 48) ≤ 99999) → ∀ u, post 0 u) → (48 ≤ c → c ≤ 57 → dg < 5 → post 1 (np, npe, nI found, 2, nI k, nI (10 * two + (c - 48)), nI (dg + 1))) → wp_XF_takes post (nI c) np npe (nI found) 2 (nI k) (nI two) (nI dg) := fun post g0 g1 => go_n (by decide) (go_n (by decide) (go_n (by decide) (go_n (by decide) (go_y rfl (go_n hne (sx_digit (g := 99999) rfl hc (by omega) hd (by omega) (fun z u => ⟨Or.inl rfl, g0 z _⟩) (fun a1 a2 a3 a4 => ⟨Or.inr rfl, g1 a1 a2 a3⟩)))))))
      by_cases c2 : 48 ≤ c ∧ c ≤ 57
      · by_cases c3 : dg < 5
        · have q := p10 (a := dg + 1) (by omega)
          have q2 : 10 ^ (dg + 1) = 10 ^ dg * 10 := Nat.pow_succ 10 dg
          exact Or.inr ⟨3, dg + 1, found, one, 10 * two + (c - 48), _, _, _, ⟨np, npe, nI found, 2, nI k, nI (10 * two + (c - 48)), nI (dg + 1), ⟨rfl, r2, r3, U3, Or.inr ⟨e1, upd_s, Or.inr (Or.inl ⟨dg + 1, k, Or.inr ⟨by omega, rfl, rfl⟩, by omega, rfl, rfl, rfl, by omega, hk, rfl, es⟩)⟩⟩, fun post h => go post (fun z => by omega) (fun _ _ _ => h)⟩, m3y hl hi ec hc r2 hd e1 e2 c2.1 c2.2 hs c3⟩
        · exact Or.inl ⟨fun post h => go post (fun _ => h) (fun _ _ z => absurd z c3), m3x hl hi ec hc r2 hd e1 e2 c2.1 c2.2 hs (by omega)⟩
      · exact Or.inl ⟨fun post h => go post (fun _ => h) (fun a1 a2 _ => absurd ⟨a1, a2⟩ c2), mxx hl hi ec hc r2 hd e1 e2 (by omega) r3 (by omega) (by omega) (by omega)⟩
  · by_cases c1 : c = 45
    · by_cases c2 : 1 ≤ one
      · have hst : st = 5 := by omega
        subst hst
        refine Or.inr ⟨6, many, found, one, two, _, _, _, ⟨np, npe, nI found, 4, nI one, 0, 0, ⟨rfl, r2, r3, r4, Or.inr ⟨e1, e2, Or.inr (Or.inr (Or.inr ⟨0, Or.inl ⟨rfl, rfl⟩, by omega, rfl, by rw [h2]; rfl, rfl, fun _ => h2, by omega, c2, rfl, es⟩))⟩⟩, fun post h => ?_⟩, m5h (dg := dg) (st := 5) hl hi ec hc r2 hd e1 e2 c1 c2 r3⟩
        subst c1
        exact go_n (by decide) (go_n (by decide) (go_n (by decide) (go_n (by decide) (go_n (by decide) (go_y rfl (go_y rfl (go_n (nI_nlt (b := 1) c2 (by omega)) (go_y (nI_le (b := 9) r3 (by omega)) ⟨Or.inr rfl, Or.inr rfl, h⟩))))))))
      · refine Or.inl ⟨fun post h => ?_, mxx hl hi ec hc r2 hd e1 e2 (Or.inl (by omega)) r3 (by omega) (by omega) (by omega)⟩
        subst c1
        exact go_n (by decide) (go_n (by decide) (go_n (by decide) (go_n (by decide) (go_n (by decide) (go_y rfl (go_y rfl (go_y (nI_lt (b := 1) (by omega) (by omega)) ⟨Or.inl rfl, h _⟩)))))))
    · have hne : ¬ nI c = (45 : Int32) := nn (b := 45) (by omega) (by omega) c1
      have go : ∀ post : Int32 → ((Nat → Int32) × (Nat → Int32) × Int32 × Int32 × Int32 × Int32 × Int32) → Prop, (¬ (48 ≤ c ∧ c ≤ 57 ∧ dg < 5 ∧ 10 * one + (c - 48) < 10 ∧ (0 < 10 * one + (c - 48) ∨ dg + 1 < 5)) → ∀ u, post 0 u) → (48 ≤ c → c ≤ 57 → dg < 5 → 10 * one + (c - 48) < 10 → (0 < 10 * one + (c - 48) ∨ dg + 1 < 5) → post 1 (np, npe, nI found, 3, sub, nI (10 * one + (c - 48)), nI (dg + 1))) → wp_XF_takes post (nI c) np npe (nI found) 3 sub (nI one) (nI dg) := fun post g0 g1 => go_n (by decide) (go_n (by decide) (go_n (by decide) (go_n (by decide) (go_n (by decide) (go_y rfl (go_n hne (sx_group hc r3 hd (fun z u => ⟨Or.inl rfl, g0 z _⟩) (fun a1 a2 a3 a4 a5 => ⟨Or.inr rfl, g1 a1 a2 a3 a4 a5⟩))))))))
      by_cases c2 : 48 ≤ c ∧ c ≤ 57
      · by_cases c3 : dg < 5 ∧ 10 * one + (c - 48) < 10 ∧ (0 < 10 * one + (c - 48) ∨ dg + 1 < 5)
        · exact Or.inr ⟨5, dg + 1, found, 10 * one + (c - 48), 0, _, _, _, ⟨np, npe, nI found, 3, sub, nI (10 * one + (c - 48)), nI (dg + 1), ⟨rfl, r2, by omega, U2, Or.inr ⟨upd_s, upd_s, Or.inr (Or.inr (Or.inl ⟨dg + 1, Or.inr ⟨by omega, rfl, rfl⟩, by omega, rfl, rfl, rfl, by omega, rfl, es⟩))⟩⟩, fun post h => go post (fun z => absurd ⟨c2.1, c2.2, c3⟩ z) (fun _ _ _ _ _ => h)⟩, m5y hl hi ec hc r2 hd e1 e2 c2.1 c2.2 hs c3.1 c3.2.1 c3.2.2⟩
        · exact Or.inl ⟨fun post h => go post (fun _ => h) (fun _ _ z1 z2 z3 => absurd ⟨z1, z2, z3⟩ c3), m5x hl hi ec hc r2 hd e1 e2 c2.1 c2.2 hs r3 (by omega)⟩
      · exact Or.inl ⟨fun post h => go post (fun _ => h) (fun a1 a2 _ _ _ => absurd ⟨a1, a2⟩ c2), mxx hl hi ec hc r2 hd e1 e2 (by omega) r3 (by omega) (by omega) (by omega)⟩
  · by_cases c1 : c = 44
    · rcases hN with ⟨b, hX⟩ | ⟨b, b2, np', npe', q, hX⟩
      · refine Or.inl ⟨fun post h => ?_, mxx hl hi ec hc r2 hd e1 e2 (Or.inl (by omega)) r3 (by omega) (by omega) (by omega)⟩
        subst c1
        exact go_n (by decide) (go_y (by decide) (go_y rfl (hX _ (fun u => ⟨Or.inl rfl, h _⟩))))
      · refine Or.inr ⟨0, many, found + 1, 0, 0, _, _, _, ⟨np', npe', nI (found + 1), 0, nI one, nI two, nI dg, ⟨rfl, by omega, by omega, q, Or.inl ⟨rfl, rfl⟩⟩, fun post h => ?_⟩, mcm hl hi ec hc r2 hd e1 e2 c1 b b2⟩
        subst c1
        exact go_n (by decide) (go_y (by decide) (go_y rfl (hX _ ⟨Or.inr rfl, h⟩)))
    · have hne : ¬ nI c = (44 : Int32) := nn (b := 44) (by omega) (by omega) c1
      have go : ∀ post : Int32 → ((Nat → Int32) × (Nat → Int32) × Int32 × Int32 × Int32 × Int32 × Int32) → Prop, (¬ (48 ≤ c ∧ c ≤ 57 ∧ dg < 5 ∧ 10 * two + (c - 48) ≤ 100) → ∀ u, post 0 u) → (48 ≤ c → c ≤ 57 → dg < 5 → 10 * two + (c - 48) ≤ 100 → post 1 (np, npe, nI found, 4, nI one, nI (10 * two + (c - 48)), nI (dg + 1))) → wp_XF_takes post (nI c) np npe (nI found) 4 (nI one) (nI two) (nI dg) := fun post g0 g1 => go_n (by decide) (go_y (by decide) (go_n hne (sx_digit (g := 100) rfl hc (by omega) hd (by omega) (fun z u => ⟨Or.inl rfl, g0 z _⟩) (fun a1 a2 a3 a4 => ⟨Or.inr rfl, g1 a1 a2 a3 a4⟩))))
      by_cases c2 : 48 ≤ c ∧ c ≤ 57
      · by_cases c3 : dg < 5 ∧ 10 * two + (c - 48) ≤ 100
        · exact Or.inr ⟨7, dg + 1, found, one, 10 * two + (c - 48), _, _, _, ⟨np, npe, nI found, 4, nI one, nI (10 * two + (c - 48)), nI (dg + 1), ⟨rfl, r2, r3, U3, Or.inr ⟨e1, upd_s, Or.inr (Or.inr (Or.inr ⟨dg + 1, Or.inr ⟨by omega, rfl, rfl⟩, by omega, rfl, rfl, rfl, by omega, by omega, h1, rfl, es⟩))⟩⟩, fun post h => go post (fun z => absurd ⟨c2.1, c2.2, c3⟩ z) (fun _ _ _ _ => h)⟩, m7y hl hi ec hc r2 hd e1 e2 c2.1 c2.2 hs c3.1 c3.2⟩
        · exact Or.inl ⟨fun post h => go post (fun _ => h) (fun _ _ z1 z2 => absurd ⟨z1, z2⟩ c3), m7x hl hi ec hc r2 hd e1 e2 c2.1 c2.2 hs h2 (by omega)⟩
      · exact Or.inl ⟨fun post h => go post (fun _ => h) (fun a1 a2 _ _ => absurd ⟨a1, a2⟩ c2), mxx hl hi ec hc r2 hd e1 e2 (by omega) r3 (by omega) (by omega) (by omega)⟩
theorem rl_run {tx xtx : Nat → Int32} {len : Nat} (hl : len ≤ 60) (h0 : 0 < len) (ht : ∀ i, i < len → ∃ c, c < 127 ∧ tx i = nI c ∧ xtx i = nI c) : ∀ (d i : Nat), i + d = len → ∀ {np npe rs ro rt : Nat → Int32} {nc state sub num dig : Int32} {st many found one two : Nat}, RL np npe nc state sub num dig st many found one two rs ro rt →
    (∃ w : Nat, w ≤ 60 ∧ (∀ post : Int32 → ((Nat → Int32) × (Nat → Int32) × Int32 × Int32 × Int32 × Int32 × Int32) → Prop, (∀ u, post (nI w) u) → wp_XF_firstWrong_34 post xtx (d + 1) (nI len) (nI i) np npe nc state sub num dig) ∧ ∀ post : Int32 → (Int32 × (Nat → Int32) × (Nat → Int32) × (Nat → Int32)) → Prop, (∀ u, post (nI w) u) → wp_M_fault_11 post (nI len) tx (d + 1) (nI st) (nI many) (nI i) (nI found) rs ro rt) ∨
    (∃ (m : Nat) (rs' ro' rt' np' npe' : Nat → Int32) (s a b c : Int32), m ≤ 8 ∧ RC np' npe' rs' ro' rt' m ∧ (∀ post : Int32 → ((Nat → Int32) × (Nat → Int32) × Int32 × Int32 × Int32 × Int32 × Int32) → Prop, post (-1) (np', npe', nI m, s, a, b, c) → wp_XF_firstWrong_34 post xtx (d + 1) (nI len) (nI i) np npe nc state sub num dig) ∧ ∀ post : Int32 → (Int32 × (Nat → Int32) × (Nat → Int32) × (Nat → Int32)) → Prop, post (-1) (nI m, rs', ro', rt') → wp_M_fault_11 post (nI len) tx (d + 1) (nI st) (nI many) (nI i) (nI found) rs ro rt) := by
  intro d
  induction d with
  | zero =>
    intro i hi np npe rs ro rt nc state sub num dig st many found one two hR
    obtain rfl : i = len := by omega
    have hf := hR.2.1
    have hst : st ≤ 7 := by
      obtain ⟨-, -, -, -, q⟩ := hR
      rcases q with ⟨q, -⟩ | ⟨-, -, ⟨q, -⟩ | ⟨dg, k, q, -⟩ | ⟨dg, q, -⟩ | ⟨dg, q, -⟩⟩ <;> omega
    have n0 : ¬ nI i = 0 := nI_ne0 h0 (by omega)
    rcases rl_end hR with ⟨a, b, hX⟩ | ⟨a, np', npe', hc, hX⟩
    · refine Or.inl ⟨i, hl, fun post h => ⟨fun _ => hX _ (fun u => go_y rfl (h _)), fun q => absurd (nI_le (Nat.le_refl _) (by omega)) q⟩, fun post h => ⟨fun _ => go_n n0 (go_n (nn (b := 3) (by omega) (by omega) a) (go_n (nn (b := 7) (by omega) (by omega) b) (go_n n0 (fun x ex => go_y rfl (h _))))), fun q => absurd (nI_le (Nat.le_refl _) (by omega)) q⟩⟩
    · refine Or.inr ⟨found + 1, rs, ro, rt, np', npe', state, sub, num, dig, by omega, hc, fun post h => ⟨fun _ => hX _ (go_n (by decide) h), fun q => absurd (nI_le (Nat.le_refl _) (by omega)) q⟩, fun post h => ⟨fun _ => go_n n0 ?_, fun q => absurd (nI_le (Nat.le_refl _) (by omega)) q⟩⟩
      have E : wp_M_fault_461 post (nI i) tx (nI found) rs ro rt := go_n n0 (fun x ex => go_n (by decide) (by rw [ex, nI_1]; exact h))
      rcases a with rfl | rfl
      · exact go_y rfl E
      · exact go_n (by decide) (go_y rfl E)
  | succ d ih =>
    intro i hi np npe rs ro rt nc state sub num dig st many found one two hR
    obtain ⟨c, hc, ec, ecx⟩ := ht i (by omega)
    have hv : vp_in (nI i) 60 := vin (by omega) (by omega)
    have op : ∀ {post : Int32 → ((Nat → Int32) × (Nat → Int32) × Int32 × Int32 × Int32 × Int32 × Int32) → Prop}, wp_XF_takes (fun r_11 u => match u with | (f_12, f_13, x_14, x_15, x_16, x_17, x_18) => ((r_11 = 0 → post (nI i) (f_12, f_13, x_14, x_15, x_16, x_17, x_18)) ∧ (¬ (r_11 = 0) → (∀ x_20 : Int32, x_20 = nI i + (1 : Int32) → (wp_XF_firstWrong_34 post xtx (d + 1)) (nI len) x_20 f_12 f_13 x_14 x_15 x_16 x_17 x_18)))) (nI c) np npe nc state sub num dig → wp_XF_firstWrong_34 post xtx (d + 1 + 1) (nI len) (nI i) np npe nc state sub num dig := fun {post} h => ⟨fun q => absurd q (nI_ge (by omega) (by omega)), fun _ => ⟨hv, by rw [cl (by omega), ecx]; exact h⟩⟩
    rcases rl_step hl (by omega) ec hc hR with ⟨hX, hM⟩ | ⟨st', many', found', one', two', rs', ro', rt', ⟨np', npe', nc', s', sub', num', dig', hr, hX⟩, hM⟩
    · exact Or.inl ⟨i, by omega, fun post h => op (hX _ (fun u => go_y rfl (h _))), fun post h => hM (d + 1) post h⟩
    · have key : ∀ post : Int32 → ((Nat → Int32) × (Nat → Int32) × Int32 × Int32 × Int32 × Int32 × Int32) → Prop, wp_XF_firstWrong_34 post xtx (d + 1) (nI len) (nI (i + 1)) np' npe' nc' s' sub' num' dig' → wp_XF_firstWrong_34 post xtx (d + 1 + 1) (nI len) (nI i) np npe nc state sub num dig := fun post h => op (hX _ (go_n (by decide) (fun x ex => by rw [ex, nI_1]; exact h)))
      rcases ih (i + 1) (by omega) hr with ⟨w, hw, a, b⟩ | ⟨m, rs2, ro2, rt2, np2, npe2, s2, a2, b2, c2, hm, hc2, a, b⟩
      · exact Or.inl ⟨w, hw, fun post h => key post (a post h), fun post h => hM (d + 1) post (b post h)⟩
      · exact Or.inr ⟨m, rs2, ro2, rt2, np2, npe2, s2, a2, b2, c2, hm, hc2, fun post h => key post (a post h), fun post h => hM (d + 1) post (b post h)⟩

