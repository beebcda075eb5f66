-- rules
theorem go_y {P A Q : Prop} (h : P) (a : A) : (P → A) ∧ (¬ P → Q) := ⟨fun _ => a, fun z => absurd h z⟩
theorem go_n {P A Q : Prop} (h : ¬ P) (q : Q) : (P → A) ∧ (¬ P → Q) := ⟨fun z => absurd z h, fun _ => q⟩
/-- the reference's reading of a text goes on -/
def MG (tx : Nat → Int32) (len i st many found : Nat) (rs ro rt : Nat → Int32) (st' many' found' : Nat) (rs' ro' rt' : Nat → Int32) : Prop := ∀ (n : Nat) (post : Int32 → (Int32 × (Nat → Int32) × (Nat → Int32) × (Nat → Int32)) → Prop), wp_M_fault_11 post (nI len) tx n (nI st') (nI many') (nI (i + 1)) (nI found') rs' ro' rt' → wp_M_fault_11 post (nI len) tx (n + 1) (nI st) (nI many) (nI i) (nI found) rs ro rt
/-- .. or ends here -/
def MF (tx : Nat → Int32) (len i st many found : Nat) (rs ro rt : Nat → Int32) : Prop := ∀ (n : Nat) (post : Int32 → (Int32 × (Nat → Int32) × (Nat → Int32) × (Nat → Int32)) → Prop), (∀ u, post (nI i) u) → wp_M_fault_11 post (nI len) tx (n + 1) (nI st) (nI many) (nI i) (nI found) rs ro rt
theorem nn {a b : Nat} (ha : a < 2 ^ 31) (hb : b < 2 ^ 31) (h : a ≠ b) : ¬ nI a = nI b := fun q => h ((nI_eq ha hb).mp q)
theorem m0g {tx : Nat → Int32} {len i c : Nat} {many found : Nat} {rs ro rt : Nat → Int32} (hl : len ≤ 60) (hi : i < len) (ec : tx i = nI c) (hc : c < 127) (hf : found ≤ 7) (h : c = 103) : MG tx len i 0 many found rs ro rt 4 0 found (upd rs found (-1)) (upd ro found 0) (upd rt found 0) := by
  intro n post h1
  subst h
  refine ⟨fun q => absurd q (nI_ge hi (by omega)), fun _ => ⟨vin (by omega) (by omega), fun x ex => ?_⟩⟩
  rw [cl (by omega), ec] at ex
  subst ex
  have hv : vp_in (nI found) 9 := vin (by omega) (by omega)
  have hcl : (nI found).toNatClampNeg = found := cl (by omega)
  have A : wp_M_fault_64 post (nI len) tx (wp_M_fault_11 post (nI len) tx n) (nI i) (nI 103) (nI found) rs ro rt := by
    refine go_y rfl ⟨hv, fun f1 e1 => ⟨hv, fun f2 e2 => ⟨hv, fun f3 e3 => go_y rfl (go_n (by decide) (fun x hx => ?_))⟩⟩⟩
    rw [hcl] at e1 e2 e3
    rw [e1, e2, e3, hx, nI_1]
    exact h1
  exact sm_within (fun _ => go_y rfl (go_y rfl A)) (fun _ _ => go_y rfl (go_y rfl A))
theorem m0d {tx : Nat → Int32} {len i c : Nat} {many found : Nat} {rs ro rt : Nat → Int32} (hl : len ≤ 60) (hi : i < len) (ec : tx i = nI c) (hc : c < 127) (hf : found ≤ 7) (h : 48 ≤ c) (h2 : c ≤ 52) : MG tx len i 0 many found rs ro rt 1 0 found (upd rs found (nI (c - 48))) (upd ro found 0) (upd rt found 0) := by
  intro n post h1
  refine ⟨fun q => absurd q (nI_ge hi (by omega)), fun _ => ⟨vin (by omega) (by omega), fun x ex => ?_⟩⟩
  rw [cl (by omega), ec] at ex
  subst ex
  have hv : vp_in (nI found) 9 := vin (by omega) (by omega)
  have hcl : (nI found).toNatClampNeg = found := cl (by omega)
  have hne : ¬ nI c = (103 : Int32) := nn (b := 103) (by omega) (by omega) (by omega)
  have A : wp_M_fault_64 post (nI len) tx (wp_M_fault_11 post (nI len) tx n) (nI i) (nI c) (nI found) rs ro rt := by
    refine go_n hne ⟨hv, fun f1 e1 => ⟨hv, fun f2 e2 => ⟨hv, fun f3 e3 => go_n hne (go_n (by decide) (fun x hx => ?_))⟩⟩⟩
    rw [hcl] at e1 e2 e3
    rw [show nI c - (48 : Int32) = nI (c - 48) from pk_sub h] at e1
    rw [e1, e2, e3, hx, nI_1]
    exact h1
  have B := sm_within (post := fun r_28 _ => ((r_28 = 0 → wp_M_fault_69 post (nI len) tx (wp_M_fault_11 post (nI len) tx n) (nI i) (nI c) (0 : Int32) (nI found) rs ro rt) ∧ (¬ (r_28 = 0) → wp_M_fault_64 post (nI len) tx (wp_M_fault_11 post (nI len) tx n) (nI i) (nI c) (nI found) rs ro rt))) (a := nI c) (lo := 48) (hi := 52) (fun z => (z.elim (nI_nlt (b := 48) h (by omega)) (nI_nlt (a := 52) h2 (by omega))).elim) (fun _ _ => go_n (by decide) A)
  exact sm_within (fun _ => go_y rfl (go_n hne B)) (fun _ _ => go_y rfl (go_n hne B))
theorem m0x {tx : Nat → Int32} {len i c : Nat} {many found : Nat} {rs ro rt : Nat → Int32} (hl : len ≤ 60) (hi : i < len) (ec : tx i = nI c) (hc : c < 127) (hf : found ≤ 7) (h : c ≠ 103) (h2 : c < 48 ∨ 52 < c) : MF tx len i 0 many found rs ro rt := by
  intro n post h1
  refine ⟨fun q => absurd q (nI_ge hi (by omega)), fun _ => ⟨vin (by omega) (by omega), fun x ex => ?_⟩⟩
  rw [cl (by omega), ec] at ex
  subst ex
  have hv : vp_in (nI found) 9 := vin (by omega) (by omega)
  have hne : ¬ nI c = (103 : Int32) := nn (b := 103) (by omega) (by omega) h
  have A : wp_M_fault_69 post (nI len) tx (wp_M_fault_11 post (nI len) tx n) (nI i) (nI c) 0 (nI found) rs ro rt := go_n hne ⟨hv, fun f1 e1 => ⟨hv, fun f2 e2 => ⟨hv, fun f3 e3 => go_n hne (go_y rfl (h1 _))⟩⟩⟩
  have B := sm_within (post := fun r_28 _ => ((r_28 = 0 → wp_M_fault_69 post (nI len) tx (wp_M_fault_11 post (nI len) tx n) (nI i) (nI c) (0 : Int32) (nI found) rs ro rt) ∧ (¬ (r_28 = 0) → wp_M_fault_64 post (nI len) tx (wp_M_fault_11 post (nI len) tx n) (nI i) (nI c) (nI found) rs ro rt))) (a := nI c) (lo := 48) (hi := 52) (fun _ => go_y rfl A) (fun y z => by
    rcases h2 with h2 | h2
    · exact absurd (nI_lt (b := 48) h2 (by omega)) y
    · exact absurd (nI_lt (a := 52) h2 (by omega)) z)
  exact sm_within (fun _ => go_y rfl (go_n hne B)) (fun _ _ => go_y rfl (go_n hne B))
theorem m1y {tx : Nat → Int32} {len i c : Nat} {many found : Nat} {rs ro rt : Nat → Int32} (hl : len ≤ 60) (hi : i < len) (ec : tx i = nI c) (hc : c < 127) (h : c = 61) : MG tx len i 1 many found rs ro rt 2 many found rs ro rt := by
  intro n post h1
  subst h
  refine ⟨fun q => absurd q (nI_ge hi (by omega)), fun _ => ⟨vin (by omega) (by omega), fun x ex => ?_⟩⟩
  rw [cl (by omega), ec] at ex
  subst ex
  have A : ∀ x : Int32, x = nI i + (1 : Int32) → wp_M_fault_11 post (nI len) tx n (2 : Int32) (nI many) x (nI found) rs ro rt := fun x hx => by rw [hx, nI_1]; exact h1
  exact sm_within (fun _ => go_n (by decide) (go_y rfl (go_y rfl A))) (fun _ _ => go_n (by decide) (go_y rfl (go_y rfl A)))
theorem m1x {tx : Nat → Int32} {len i c : Nat} {many found : Nat} {rs ro rt : Nat → Int32} (hl : len ≤ 60) (hi : i < len) (ec : tx i = nI c) (hc : c < 127) (h : c ≠ 61) : MF tx len i 1 many found rs ro rt := by
  intro n post h1
  refine ⟨fun q => absurd q (nI_ge hi (by omega)), fun _ => ⟨vin (by omega) (by omega), fun x ex => ?_⟩⟩
  rw [cl (by omega), ec] at ex
  subst ex
  have hne : ¬ nI c = (61 : Int32) := nn (b := 61) (by omega) (by omega) h
  exact sm_within (fun _ => go_n (by decide) (go_y rfl (go_n hne (h1 _)))) (fun _ _ => go_n (by decide) (go_y rfl (go_n hne (h1 _))))
theorem dig_e {a c : Nat} {x : Int32} (h : 48 ≤ c) (e : x = ((10 : Int32) * nI a + nI c) - (48 : Int32)) : x = nI (10 * a + (c - 48)) := by
  rw [e, show (10 : Int32) * nI a = nI (10 * a) from pk_mul 10 a, nI_add, show nI (10 * a + c) - (48 : Int32) = nI (10 * a + c - 48) from pk_sub (b := 48) (by omega)]
  congr 1
  omega
theorem m294 {post : Int32 → (Int32 × (Nat → Int32) × (Nat → Int32) × (Nat → Int32)) → Prop} {k : Int32 → Int32 → Int32 → Int32 → (Nat → Int32) → (Nat → Int32) → (Nat → Int32) → Prop} {tx : Nat → Int32} {len st many l3 v : Int32} {found : Nat} {rs ro rt : Nat → Int32} (hf : found ≤ 7) (h5 : ¬ st = 5) : ((∀ u, post l3 u) → wp_M_fault_293 post len tx k st many l3 v (nI found) rs ro rt) ∧ (k st many (l3 + 1) (nI found) rs ro (upd rt found v) → wp_M_fault_289 post len tx k st many l3 v (nI found) rs ro rt) := by
  have hv : vp_in (nI found) 9 := vin (by omega) (by omega)
  have hcl : (nI found).toNatClampNeg = found := cl (by omega)
  constructor
  · intro h
    exact go_n h5 ⟨hv, hv, fun f1 e1 => go_n h5 ⟨hv, fun f2 e2 => go_y rfl (h _)⟩⟩
  · intro h
    refine go_n h5 ⟨hv, hv, fun f1 e1 => go_n h5 ⟨hv, fun f2 e2 => go_n (by decide) (fun x hx => ?_)⟩⟩
    rw [hcl, upd_id] at e1
    rw [hcl] at e2
    rw [e1, e2, hx]
    exact h
theorem m295 {post : Int32 → (Int32 × (Nat → Int32) × (Nat → Int32) × (Nat → Int32)) → Prop} {k : Int32 → Int32 → Int32 → Int32 → (Nat → Int32) → (Nat → Int32) → (Nat → Int32) → Prop} {tx : Nat → Int32} {len many l3 v : Int32} {found : Nat} {rs ro rt : Nat → Int32} (hf : found ≤ 7) : ((∀ u, post l3 u) → wp_M_fault_293 post len tx k 5 many l3 v (nI found) rs ro rt) ∧ (k 5 many (l3 + 1) (nI found) rs (upd ro found v) (upd rt found 0) → wp_M_fault_289 post len tx k 5 many l3 v (nI found) rs ro rt) := by
  have hv : vp_in (nI found) 9 := vin (by omega) (by omega)
  have hcl : (nI found).toNatClampNeg = found := cl (by omega)
  constructor
  · intro h
    exact go_y rfl ⟨hv, fun f1 e1 => go_y rfl ⟨hv, fun f2 e2 => go_y rfl (h _)⟩⟩
  · intro h
    refine go_y rfl ⟨hv, fun f1 e1 => go_y rfl ⟨hv, fun f2 e2 => go_n (by decide) (fun x hx => ?_)⟩⟩
    rw [hcl] at e1 e2
    rw [e1, e2, hx]
    exact h
/-- a digit: from an even state to the odd one above, or within an odd one -/
theorem mdig {post : Int32 → (Int32 × (Nat → Int32) × (Nat → Int32) × (Nat → Int32)) → Prop} {tx : Nat → Int32} {len i c n : Nat} {found dg : Nat} {rs ro rt : Nat → Int32} (hl : len ≤ 60) (hi : i < len) (ec : tx i = nI c) (hc : c < 127) (h : 48 ≤ c) (h2 : c ≤ 57) (od : Nat) (ho : od = 3 ∨ od = 5 ∨ od = 7) {st many : Nat} (hs : (dg = 0 ∧ st + 1 = od) ∨ (1 ≤ dg ∧ st = od ∧ many = dg)) (h1 : wp_M_fault_210 post (nI len) tx (wp_M_fault_11 post (nI len) tx n) (nI (dg + 1)) (nI i) (nI c) (nI od) (nI found) rs ro rt) : wp_M_fault_11 post (nI len) tx (n + 1) (nI st) (nI many) (nI i) (nI found) rs ro rt := by
  refine ⟨fun q => absurd q (nI_ge hi (by omega)), fun _ => ⟨vin (by omega) (by omega), fun x ex => ?_⟩⟩
  rw [cl (by omega), ec] at ex
  subst ex
  refine sm_within (fun z => (z.elim (nI_nlt (b := 48) h (by omega)) (nI_nlt (a := 57) h2 (by omega))).elim) (fun _ _ => ?_)
  rcases hs with ⟨rfl, e⟩ | ⟨h0, rfl, rfl⟩
  · rcases ho with rfl | rfl | rfl
    · obtain rfl : st = 2 := by omega
      exact go_n (by decide) (go_n (by decide) (go_n (by decide) (go_y rfl (go_y rfl h1))))
    · obtain rfl : st = 4 := by omega
      exact go_n (by decide) (go_n (by decide) (go_n (by decide) (go_n (by decide) (go_y rfl (go_n (by decide) (go_y rfl h1))))))
    · obtain rfl : st = 6 := by omega
      exact go_n (by decide) (go_n (by decide) (go_n (by decide) (go_n (by decide) (go_n (by decide) (go_y rfl (go_n (by decide) (go_n (by decide) (go_y rfl h1))))))))
  · rw [← nI_1] at h1
    rcases ho with rfl | rfl | rfl
    · exact go_n (by decide) (go_n (by decide) (go_n (by decide) (go_n (by decide) (go_n (by decide) (go_n (by decide) (go_n (by decide) (go_n (by decide) (go_n (by decide) h1))))))))
    · exact go_n (by decide) (go_n (by decide) (go_n (by decide) (go_n (by decide) (go_n (by decide) (go_n (by decide) (go_n (by decide) (go_n (by decide) (go_n (by decide) h1))))))))
    · exact go_n (by decide) (go_n (by decide) (go_n (by decide) (go_n (by decide) (go_n (by decide) (go_n (by decide) (go_n (by decide) (go_n (by decide) (go_n (by decide) h1))))))))

theorem m3y {tx : Nat → Int32} {len i c : Nat} {many found dg st one two : Nat} {rs ro rt : Nat → Int32} (hl : len ≤ 60) (hi : i < len) (ec : tx i = nI c) (hc : c < 127) (hf : found ≤ 7) (hdg : dg ≤ 5) (e1 : ro found = nI one) (e2 : rt found = nI two) (h : 48 ≤ c) (h2 : c ≤ 57) (hs : (dg = 0 ∧ st + 1 = 3) ∨ (1 ≤ dg ∧ st = 3 ∧ many = dg)) (hg : dg < 5) : MG tx len i st many found rs ro rt 3 (dg + 1) found rs ro (upd rt found (nI (10 * two + (c - 48)))) := by
  intro n post h1
  refine mdig hl hi ec hc h h2 3 (Or.inl rfl) hs (go_n (by decide) ⟨vin (by omega) (by omega), fun x ex => ?_⟩)
  rw [cl (by omega), e2] at ex
  obtain rfl := dig_e h ex
  rw [← nI_1 i] at h1
  exact go_n (nI_ge (b := 6) (by omega) (by omega)) (go_n (by decide) (go_n (by decide) ((m294 hf (by decide)).2 h1)))
theorem m3x {tx : Nat → Int32} {len i c : Nat} {many found dg st one two : Nat} {rs ro rt : Nat → Int32} (hl : len ≤ 60) (hi : i < len) (ec : tx i = nI c) (hc : c < 127) (hf : found ≤ 7) (hdg : dg ≤ 5) (e1 : ro found = nI one) (e2 : rt found = nI two) (h : 48 ≤ c) (h2 : c ≤ 57) (hs : (dg = 0 ∧ st + 1 = 3) ∨ (1 ≤ dg ∧ st = 3 ∧ many = dg)) (hg : dg = 5) : MF tx len i st many found rs ro rt := by
  intro n post h1
  subst hg
  exact mdig hl hi ec hc h h2 3 (Or.inl rfl) hs (go_n (by decide) ⟨vin (by omega) (by omega), fun x ex => go_y (by decide) ((m294 hf (by decide)).1 h1)⟩)
theorem m7y {tx : Nat → Int32} {len i c : Nat} {many found dg st one two : Nat} {rs ro rt : Nat → Int32} (hl : len ≤ 60) (hi : i < len) (ec : tx i = nI c) (hc : c < 127) (hf : found ≤ 7) (hdg : dg ≤ 5) (e1 : ro found = nI one) (e2 : rt found = nI two) (h : 48 ≤ c) (h2 : c ≤ 57) (hs : (dg = 0 ∧ st + 1 = 7) ∨ (1 ≤ dg ∧ st = 7 ∧ many = dg)) (hg : dg < 5) (hv : 10 * two + (c - 48) ≤ 100) : MG tx len i st many found rs ro rt 7 (dg + 1) found rs ro (upd rt found (nI (10 * two + (c - 48)))) := by
  intro n post h1
  refine mdig hl hi ec hc h h2 7 (Or.inr (Or.inr rfl)) hs (go_n (by decide) ⟨vin (by omega) (by omega), fun x ex => ?_⟩)
  rw [cl (by omega), e2] at ex
  obtain rfl := dig_e h ex
  rw [← nI_1 i] at h1
  exact go_n (nI_ge (b := 6) (by omega) (by omega)) (go_n (by decide) (go_y rfl (go_n (nI_nlt (a := 100) hv (by omega)) ((m294 hf (by decide)).2 h1))))
theorem m7x {tx : Nat → Int32} {len i c : Nat} {many found dg st one two : Nat} {rs ro rt : Nat → Int32} (hl : len ≤ 60) (hi : i < len) (ec : tx i = nI c) (hc : c < 127) (hf : found ≤ 7) (hdg : dg ≤ 5) (e1 : ro found = nI one) (e2 : rt found = nI two) (h : 48 ≤ c) (h2 : c ≤ 57) (hs : (dg = 0 ∧ st + 1 = 7) ∨ (1 ≤ dg ∧ st = 7 ∧ many = dg)) (ht : two ≤ 100) (hg : dg = 5 ∨ 100 < 10 * two + (c - 48)) : MF tx len i st many found rs ro rt := by
  intro n post h1
  refine mdig hl hi ec hc h h2 7 (Or.inr (Or.inr rfl)) hs (go_n (by decide) ⟨vin (by omega) (by omega), fun x ex => ?_⟩)
  rw [cl (by omega), e2] at ex
  obtain rfl := dig_e h ex
  by_cases hg5 : dg = 5
  · subst hg5
    exact go_y (by decide) ((m294 hf (by decide)).1 h1)
  · exact go_n (nI_ge (b := 6) (by omega) (by omega)) (go_n (by decide) (go_y rfl (go_y (nI_lt (a := 100) (by omega) (by omega)) ((m294 hf (by decide)).1 h1))))
theorem m5y {tx : Nat → Int32} {len i c : Nat} {many found dg st one two : Nat} {rs ro rt : Nat → Int32} (hl : len ≤ 60) (hi : i < len) (ec : tx i = nI c) (hc : c < 127) (hf : found ≤ 7) (hdg : dg ≤ 5) (e1 : ro found = nI one) (e2 : rt found = nI two) (h : 48 ≤ c) (h2 : c ≤ 57) (hs : (dg = 0 ∧ st + 1 = 5) ∨ (1 ≤ dg ∧ st = 5 ∧ many = dg)) (hg : dg < 5) (hv : 10 * one + (c - 48) < 10) (hz : 0 < 10 * one + (c - 48) ∨ dg + 1 < 5) : MG tx len i st many found rs ro rt 5 (dg + 1) found rs (upd ro found (nI (10 * one + (c - 48)))) (upd rt found 0) := by
  intro n post h1
  refine mdig hl hi ec hc h h2 5 (Or.inr (Or.inl rfl)) hs (go_y rfl ⟨vin (by omega) (by omega), fun x ex => ?_⟩)
  rw [cl (by omega), e1] at ex
  obtain rfl := dig_e h ex
  rw [← nI_1 i] at h1
  have A : wp_M_fault_276 post (nI len) tx (wp_M_fault_11 post (nI len) tx n) (nI 5) (nI (dg + 1)) (nI i) (nI (10 * one + (c - 48))) (nI found) rs ro rt := go_n (by decide) ((m295 hf).2 h1)
  refine go_n (nI_ge (b := 6) (by omega) (by omega)) (go_y rfl (go_n (nI_ge (b := 10) (by omega) (by omega)) ?_))
  by_cases hz0 : 0 < 10 * one + (c - 48)
  · exact go_y (nI_lt (a := 0) hz0 (by omega)) A
  · exact go_n (nI_nlt (b := 10 * one + (c - 48)) (a := 0) (by omega) (by omega)) (go_n (nI_ge (b := 5) (by omega) (by omega)) A)
theorem m5x {tx : Nat → Int32} {len i c : Nat} {many found dg st one two : Nat} {rs ro rt : Nat → Int32} (hl : len ≤ 60) (hi : i < len) (ec : tx i = nI c) (hc : c < 127) (hf : found ≤ 7) (hdg : dg ≤ 5) (e1 : ro found = nI one) (e2 : rt found = nI two) (h : 48 ≤ c) (h2 : c ≤ 57) (hs : (dg = 0 ∧ st + 1 = 5) ∨ (1 ≤ dg ∧ st = 5 ∧ many = dg)) (ho : one ≤ 9) (hg : dg = 5 ∨ 10 ≤ 10 * one + (c - 48) ∨ (10 * one + (c - 48) = 0 ∧ dg + 1 = 5)) : MF tx len i st many found rs ro rt := by
  intro n post h1
  refine mdig hl hi ec hc h h2 5 (Or.inr (Or.inl rfl)) hs (go_y rfl ⟨vin (by omega) (by omega), fun x ex => ?_⟩)
  rw [cl (by omega), e1] at ex
  obtain rfl := dig_e h ex
  by_cases hg5 : dg = 5
  · subst hg5
    exact go_y (by decide) ((m295 hf).1 h1)
  · refine go_n (nI_ge (b := 6) (by omega) (by omega)) (go_y rfl ?_)
    by_cases h10 : 10 ≤ 10 * one + (c - 48)
    · exact go_y (nI_le (a := 10) h10 (by omega)) ((m295 hf).1 h1)
    · refine go_n (nI_ge (b := 10) (by omega) (by omega)) ?_
      rw [show 10 * one + (c - 48) = 0 by omega]
      exact go_n (by decide) (go_y (nI_le (a := 5) (by omega) (by omega)) ((m295 hf).1 h1))
theorem m5h {tx : Nat → Int32} {len i c : Nat} {many found dg st one two : Nat} {rs ro rt : Nat → Int32} (hl : len ≤ 60) (hi : i < len) (ec : tx i = nI c) (hc : c < 127) (hf : found ≤ 7) (hdg : dg ≤ 5) (e1 : ro found = nI one) (e2 : rt found = nI two) (h : c = 45) (h0 : 0 < one) (ho : one ≤ 9) : MG tx len i 5 many found rs ro rt 6 many found rs ro rt := by
  intro n post h1
  subst h
  refine ⟨fun q => absurd q (nI_ge hi (by omega)), fun _ => ⟨vin (by omega) (by omega), fun x ex => ?_⟩⟩
  rw [cl (by omega), ec] at ex
  subst ex
  refine sm_within (fun _ => ?_) (fun z => absurd (show nI 45 < (48 : Int32) by decide) z)
  refine go_n (by decide) (go_n (by decide) (go_y rfl (go_y rfl (go_y rfl ⟨vin (by omega) (by omega), ?_⟩))))
  rw [cl (by omega), e1]
  refine go_n (nI_nle h0 (by omega)) (fun x hx => ?_)
  rw [hx, nI_1]
  exact h1
theorem mcm {tx : Nat → Int32} {len i c : Nat} {many found dg st one two : Nat} {rs ro rt : Nat → Int32} (hl : len ≤ 60) (hi : i < len) (ec : tx i = nI c) (hc : c < 127) (hf : found ≤ 7) (hdg : dg ≤ 5) (e1 : ro found = nI one) (e2 : rt found = nI two) (h : c = 44) (hs : st = 3 ∨ st = 7) (h7 : found < 7) : MG tx len i st many found rs ro rt 0 many (found + 1) rs ro rt := by
  intro n post h1
  subst h
  refine ⟨fun q => absurd q (nI_ge hi (by omega)), fun _ => ⟨vin (by omega) (by omega), fun x ex => ?_⟩⟩
  rw [cl (by omega), ec] at ex
  subst ex
  refine sm_within (fun _ => ?_) (fun z => absurd (show nI 44 < (48 : Int32) by decide) z)
  have A : wp_M_fault_402 post (nI len) tx (wp_M_fault_11 post (nI len) tx n) (nI many) (nI i) (nI found) rs ro rt := by
    refine go_n (nI_ge (b := 7) (by omega) (by omega)) (fun x ex => go_n (by decide) (fun y ey => ?_))
    rw [ex, ey, nI_1, nI_1]
    exact h1
  rcases hs with rfl | rfl
  · exact go_n (by decide) (go_n (by decide) (go_y rfl (go_n (by decide) (go_y rfl (go_y rfl A)))))
  · exact go_n (by decide) (go_n (by decide) (go_y rfl (go_n (by decide) (go_y rfl (go_n (by decide) (go_y rfl A))))))
theorem mxx {tx : Nat → Int32} {len i c : Nat} {many found dg st one two : Nat} {rs ro rt : Nat → Int32} (hl : len ≤ 60) (hi : i < len) (ec : tx i = nI c) (hc : c < 127) (hf : found ≤ 7) (hdg : dg ≤ 5) (e1 : ro found = nI one) (e2 : rt found = nI two) (h : c < 48 ∨ 57 < c) (ho : one ≤ 9) (hs : st = 2 ∨ st = 3 ∨ st = 4 ∨ st = 5 ∨ st = 6 ∨ st = 7) (h3 : ¬ (c = 44 ∧ (st = 3 ∨ st = 7) ∧ found < 7)) (h5 : ¬ (c = 45 ∧ st = 5 ∧ 0 < one)) : MF tx len i st many found rs ro rt := by
  intro n post h1
  refine ⟨fun q => absurd q (nI_ge hi (by omega)), fun _ => ⟨vin (by omega) (by omega), fun x ex => ?_⟩⟩
  rw [cl (by omega), ec] at ex
  subst ex
  refine sm_within (fun _ => ?_) (fun y z => by
    rcases h with h | h
    · exact absurd (nI_lt (b := 48) h (by omega)) y
    · exact absurd (nI_lt (a := 57) h (by omega)) z)
  have A : ∀ s, s = 0 → wp_M_fault_416 post (nI len) tx (wp_M_fault_11 post (nI len) tx n) (nI many) (nI i) s (nI found) rs ro rt := fun s es x ex => go_y es (h1 _)
  have B : found = 7 → wp_M_fault_402 post (nI len) tx (wp_M_fault_11 post (nI len) tx n) (nI many) (nI i) (nI found) rs ro rt := fun e7 => by
    subst e7
    exact go_y (by decide) (A 0 rfl)
  by_cases e44 : c = 44
  · subst e44
    rcases hs with rfl | rfl | rfl | rfl | rfl | rfl
    · exact go_n (by decide) (go_n (by decide) (go_y rfl (go_n (by decide) (go_y rfl (go_n (by decide) (go_n (by decide) (A 0 rfl)))))))
    · exact go_n (by decide) (go_n (by decide) (go_y rfl (go_n (by decide) (go_y rfl (go_y rfl (B (by omega)))))))
    · exact go_n (by decide) (go_n (by decide) (go_y rfl (go_n (by decide) (go_y rfl (go_n (by decide) (go_n (by decide) (A 0 rfl)))))))
    · exact go_n (by decide) (go_n (by decide) (go_y rfl (go_y rfl (go_n (by decide) (h1 _)))))
    · exact go_n (by decide) (go_n (by decide) (go_y rfl (go_n (by decide) (go_y rfl (go_n (by decide) (go_n (by decide) (A 0 rfl)))))))
    · exact go_n (by decide) (go_n (by decide) (go_y rfl (go_n (by decide) (go_y rfl (go_n (by decide) (go_y rfl (B (by omega))))))))
  · have n44 : ¬ nI c = (44 : Int32) := nn (b := 44) (by omega) (by omega) e44
    rcases hs with rfl | rfl | rfl | rfl | rfl | rfl
    · exact go_n (by decide) (go_n (by decide) (go_y rfl (go_n (by decide) (go_n n44 (A 0 rfl)))))
    · exact go_n (by decide) (go_n (by decide) (go_y rfl (go_n (by decide) (go_n n44 (A 0 rfl)))))
    · exact go_n (by decide) (go_n (by decide) (go_y rfl (go_n (by decide) (go_n n44 (A 0 rfl)))))
    · refine go_n (by decide) (go_n (by decide) (go_y rfl (go_y rfl ?_)))
      by_cases e45 : c = 45
      · subst e45
        refine go_y rfl ⟨vin (by omega) (by omega), ?_⟩
        rw [cl (by omega), e1, show one = 0 by omega]
        exact go_y (by decide) (h1 _)
      · exact go_n (nn (b := 45) (by omega) (by omega) e45) (h1 _)
    · exact go_n (by decide) (go_n (by decide) (go_y rfl (go_n (by decide) (go_n n44 (A 0 rfl)))))
    · exact go_n (by decide) (go_n (by decide) (go_y rfl (go_n (by decide) (go_n n44 (A 0 rfl)))))

