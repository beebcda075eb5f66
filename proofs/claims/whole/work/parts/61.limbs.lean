-- the class's rows of limbs
def XL (w : Nat → Int64) (R V : Nat) : Prop := ∀ i, i < 5 → w (5 * R + i) = lN (dg 1000000000 i V)
theorem x_ix (R i : Nat) : nI R * (5 : Int32) + nI i = nI (5 * R + i) := by
  rw [show nI R * (5 : Int32) = nI (R * 5) from pk_mul R 5, nI_add, Nat.mul_comm]
theorem sx_mix6 {post : (Nat → Int64) → Prop} {R Q V W x y : Nat} {w0 : Nat → Int64} (hR : R < 23) (hQ : Q < 23) (hx : x ≤ 16) (hy : y ≤ 16) (h : ∀ w, XL w R (V * x + W * y) → (∀ q, (q < 5 * R ∨ 5 * R + 5 ≤ q) → w q = w0 q) → post w) : ∀ (d i : Nat) (w : Nat → Int64), i + d = 5 → (∀ q, q < 5 → w (5 * R + q) = lN (dg 1000000000 q (if q < i then V * x + W * y else V))) → (∀ q, i ≤ q → q < 5 → w (5 * Q + q) = lN (dg 1000000000 q W)) → (∀ q, (q < 5 * R ∨ 5 * R + 5 ≤ q) → w q = w0 q) → wp_XC_mix_6 post (d + 1) (nI R) (nI x) (nI Q) (nI y) (lN (cry 1000000000 V W x y i)) (nI i) w := by
  intro d
  induction d with
  | zero =>
    intro i w hi h1 h2 h3
    obtain rfl : i = 5 := by omega
    exact go_y (by decide) (h w (fun q hq => by rw [h1 q hq, if_pos hq]) h3)
  | succ d ih =>
    intro i w hi h1 h2 h3
    have hd := dg_lt (B := 1000000000) (i := i) (V := V) (by omega)
    have hw := dg_lt (B := 1000000000) (i := i) (V := W) (by omega)
    have hc := cry_le (B := 1000000000) (i := i) (V := V) (W := W) (x := x) (y := y) (by omega)
    have hdx := Nat.mul_le_mul (Nat.le_of_lt hd) hx
    have hdy := Nat.mul_le_mul (Nat.le_of_lt hw) hy
    have hz : dg 1000000000 i V * x + dg 1000000000 i W * y + cry 1000000000 V W x y i < 2 ^ 63 := by omega
    have ivR : vp_in (nI (5 * R + i)) 115 := vin (by omega) (by omega)
    refine go_n (nI_ge (b := 5) (by omega) (by omega)) ?_
    rw [x_ix, x_ix, cl (by omega), cl (by omega), h1 i (by omega), if_neg (by omega), h2 i (Nat.le_refl _) (by omega), nI_l (by omega), nI_l (by omega), lN_mul, lN_mul, lN_add, lN_add]
    refine ⟨ivR, vin (by omega) (by omega), fun z ez => ⟨ivR, fun f ef u eu v ev => ?_⟩⟩
    subst ez
    rw [show lN (dg 1000000000 i V * x + dg 1000000000 i W * y + cry 1000000000 V W x y i) - lN (dg 1000000000 i V * x + dg 1000000000 i W * y + cry 1000000000 V W x y i) / (1000000000 : Int64) * (1000000000 : Int64) = lN ((dg 1000000000 i V * x + dg 1000000000 i W * y + cry 1000000000 V W x y i) % 1000000000) from pk_lRem (b := 1000000000) hz (by omega) (by omega), mx_dig (by omega)] at ef
    rw [show lN (dg 1000000000 i V * x + dg 1000000000 i W * y + cry 1000000000 V W x y i) / (1000000000 : Int64) = lN ((dg 1000000000 i V * x + dg 1000000000 i W * y + cry 1000000000 V W x y i) / 1000000000) from pk_lDiv (b := 1000000000) hz (by omega) (by omega), mx_cry (by omega)] at eu
    rw [ef, eu, ev, nI_1]
    refine ih (i + 1) _ (by omega) (fun q hq => ?_) (fun q hq h5 => ?_) (fun q hq => by rw [pk_uLn (by omega)]; exact h3 q hq)
    · by_cases e : q = i
      · rw [e, pk_uLs, if_pos (by omega)]
      · rw [pk_uLn (by omega), h1 q hq]
        by_cases e2 : q < i
        · rw [if_pos e2, if_pos (by omega)]
        · rw [if_neg e2, if_neg (by omega)]
    · rw [pk_uLn (by omega)]
      exact h2 q (by omega) h5
theorem sx_mix {post : (Nat → Int64) → Prop} {R Q V W x y : Nat} {w : Nat → Int64} (hR : R < 23) (hQ : Q < 23) (hx : x ≤ 16) (hy : y ≤ 16) (hV : XL w R V) (hW : XL w Q W) (h : ∀ w', XL w' R (V * x + W * y) → (∀ q, (q < 5 * R ∨ 5 * R + 5 ≤ q) → w' q = w q) → post w') : wp_XC_mix post (nI R) (nI x) (nI Q) (nI y) w := by
  have := sx_mix6 hR hQ hx hy h 5 0 w (by omega) (fun q hq => by rw [if_neg (by omega)]; exact hV q hq) (fun q _ hq => hW q hq) (fun q _ => rfl)
  rw [cry_0] at this
  exact ⟨6, this⟩
def XS (p a b n : Nat) (w : Nat → Int64) : Prop := (∀ j, j ≤ p → XL w j (dst a b n j)) ∧ XL w 21 (tooMany a b p n) ∧ XL w 22 (b ^ n)
theorem XL_f {w w' : Nat → Int64} {R j V : Nat} (h : XL w j V) (hn : j ≠ R) (hf : ∀ q, (q < 5 * R ∨ 5 * R + 5 ≤ q) → w' q = w q) : XL w' j V := fun i hi => by
  rw [hf _ (by omega)]
  exact h i hi
theorem sx_inv22 {post : (Nat → Int64) → Prop} {p a b n : Nat} (hp : p ≤ 20) (hab : a ≤ b) (hb : b ≤ 16) (h : ∀ w, XS p a b (n + 1) w → post w) : ∀ (c : Nat) (w : Nat → Int64), c ≤ p → (∀ j, j ≤ p → XL w j (dst a b (if j ≤ c then n else n + 1) j)) → XL w 21 (tooMany a b p (n + 1)) → XL w 22 (b ^ (n + 1)) → wp_XC_inviteOne_22 post (c + 1) (nI a) (nI b) (nI c) w := by
  intro c
  induction c with
  | zero =>
    intro w hc h1 h2 h3
    have v0 := h1 0 (by omega)
    rw [if_pos (Nat.le_refl _)] at v0
    refine go_y (by decide) ?_
    rw [pk_sub hab]
    refine sx_mix (R := 0) (Q := 0) (y := 0) (by omega) (by omega) (by omega) (by omega) v0 v0 (fun w' g1 g2 => h w' ⟨fun j hj => ?_, XL_f h2 (by omega) g2, XL_f h3 (by omega) g2⟩)
    by_cases e : j = 0
    · subst e
      rw [Nat.mul_zero, Nat.add_zero] at g1
      rw [dst]
      exact g1
    · have := h1 j hj
      rw [if_neg (by omega)] at this
      exact XL_f this e g2
  | succ c ih =>
    intro w hc h1 h2 h3
    have v0 := h1 (c + 1) (by omega)
    have v1 := h1 c (by omega)
    rw [if_pos (by omega)] at v0 v1
    refine go_n (nI_nle (by omega) (by omega)) ?_
    rw [pk_sub hab, nI_pred]
    refine sx_mix (by omega) (by omega) (by omega) (by omega) v0 v1 (fun w' g1 g2 x ex => ?_)
    rw [ex, pk_m1]
    refine ih w' (by omega) (fun j hj => ?_) (XL_f h2 (by omega) g2) (XL_f h3 (by omega) g2)
    by_cases e : j = c + 1
    · subst e
      rw [if_neg (by omega), dst]
      exact g1
    · have := h1 j hj
      by_cases e2 : j ≤ c
      · rw [if_pos (by omega)] at this ⊢
        exact XL_f this e g2
      · rw [if_neg (by omega)] at this ⊢
        exact XL_f this e g2
theorem sx_inviteOne {post : (Nat → Int64) → Prop} {p a b n : Nat} {w : Nat → Int64} (hp : p ≤ 20) (hab : a ≤ b) (hb : b ≤ 16) (hn : n < 28) (hX : XS p a b n w) (h : ∀ w, XS p a b (n + 1) w → post w) : wp_XC_inviteOne post (nI p) (nI a) (nI b) w := by
  obtain ⟨x1, x2, x3⟩ := hX
  refine sx_mix (R := 22) (Q := 22) (y := 0) (by omega) (by omega) hb (by omega) x3 x3 (fun w1 g1 g2 => ?_)
  refine sx_mix (R := 21) (by omega) (by omega) hb (by omega) (XL_f x2 (by omega) g2) (XL_f (x1 p (Nat.le_refl _)) (by omega) g2) (fun w2 g3 g4 => ?_)
  rw [Nat.mul_zero, Nat.add_zero, ← Nat.pow_succ] at g1
  rw [← many_s hab hn (by omega)] at g3
  refine ⟨p + 1, sx_inv22 hp hab hb h p w2 (Nat.le_refl _) (fun j hj => ?_) g3 (XL_f g1 (by omega) g4)⟩
  rw [if_pos hj]
  exact XL_f (XL_f (x1 j hj) (by omega) g2) (by omega) g4
theorem sx_fillL {post : (Nat → Int64) → Prop} {v : Int64} {n : Nat} (hn : n < 2 ^ 31) {f0 : Nat → Int64} (h : ∀ f : Nat → Int64, (∀ j, j < n → f j = v) → post f) : wp_JA_fill_aJJV post n v f0 := by
  intro x ex
  have loop : ∀ (d i : Nat) (f : Nat → Int64), i + d = n → (∀ j, j < i → f j = v) → wp_JA_fill_aJJV_6 post n (d + 1) v (nI i) (nI n) f := by
    intro d
    induction d with
    | zero =>
      intro i f hi h1
      obtain rfl : i = n := by omega
      exact go_y (nI_le (Nat.le_refl _) hn) (h f h1)
    | succ d ih =>
      intro i f hi h1
      refine go_n (nI_ge (by omega) hn) ⟨vin (by omega) hn, fun g eg y ey => ?_⟩
      rw [eg, ey, nI_1, cl (by omega)]
      refine ih (i + 1) _ (by omega) (fun j hj => ?_)
      by_cases e : j = i
      · rw [e]; exact pk_uLs
      · rw [pk_uLn e]; exact h1 j (by omega)
  rw [ex]
  exact ⟨n + 1, loop n 0 f0 (by omega) (fun j hj => by omega)⟩
theorem sx_invite {post : (Nat → Int64) → Prop} {p a b g : Nat} {w : Nat → Int64} (hp : p ≤ 20) (hab : a ≤ b) (hb : b ≤ 16) (hg : g ≤ 28) (h : ∀ w, XS p a b g w → post w) : wp_XC_invite post (nI g) (nI p) (nI a) (nI b) w := by
  have loop : ∀ (d n : Nat) (w : Nat → Int64), n + d = g → XS p a b n w → wp_XC_invite_26 post (d + 1) (nI g) (nI p) (nI a) (nI b) (nI n) w := by
    intro d
    induction d with
    | zero =>
      intro n w hn hX
      obtain rfl : n = g := by omega
      exact go_y (nI_le (Nat.le_refl _) (by omega)) (h w hX)
    | succ d ih =>
      intro n w hn hX
      refine go_n (nI_ge (by omega) (by omega)) (sx_inviteOne hp hab hb (by omega) hX (fun w' hX' x ex => ?_))
      rw [ex, nI_1]
      exact ih (n + 1) w' (by omega) hX'
  refine sx_fillL (by omega) (fun f hf f2 e2 f3 e3 => ⟨g + 1, loop g 0 f3 (by omega) ?_⟩)
  have r0 : ∀ q, q < 115 → f3 q = if q = 0 ∨ q = 110 then 1 else 0 := fun q hq => by
    subst e3
    show vp_updL f2 110 1 q = _
    by_cases e : q = 110
    · rw [e, pk_uLs]; rfl
    · rw [pk_uLn e]
      subst e2
      show vp_updL f 0 1 q = _
      by_cases e0 : q = 0
      · rw [e0, pk_uLs]; rfl
      · rw [pk_uLn e0, hf q hq, if_neg (by omega)]
  have row1 : ∀ R V, R < 23 → (R = 0 ∨ R = 22) → V = 1 → XL f3 R V := fun R V hR h0 hV i hi => by
    rw [hV, dg_1 (by omega), r0 _ (by omega)]
    by_cases e : i = 0
    · rw [if_pos (by omega), if_pos e]; rfl
    · rw [if_neg (by omega), if_neg e]; rfl
  have rowz : ∀ R V, 0 < R → R < 22 → V = 0 → XL f3 R V := fun R V hR h0 hV i hi => by
    rw [hV, dg_0, r0 _ (by omega), if_neg (by omega)]
    rfl
  refine ⟨fun j hj => ?_, rowz 21 _ (by omega) (by omega) (many_0 a b p), row1 22 _ (by omega) (Or.inr rfl) (Nat.pow_zero b)⟩
  by_cases e : j = 0
  · subst e; exact row1 0 _ (by omega) (Or.inl rfl) rfl
  · exact rowz j _ (by omega) (by omega) (dst_0 a b 0 j (by omega))
