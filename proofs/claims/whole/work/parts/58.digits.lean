-- the reference's rows of digits
def MD (md : Nat → Int32) (r V : Nat) : Prop := ∀ i, i < 42 → md (42 * r + i) = nI (dg 10 i V)
theorem m_ix (r i : Nat) : (42 : Int32) * nI r + nI i = nI (42 * r + i) := by
  rw [show (42 : Int32) * nI r = nI (42 * r) from pk_mul 42 r, nI_add]
theorem sm_g27 {post : (Nat → Int32) → Prop} {av be : Nat → Int32} {k : Int32 → Int32 → Int32 → (Nat → Int32) → Prop} {s x y r V W : Nat} {md0 : Nat → Int32} (hs : s < 8) (hr : r ≤ 28) (hx : x + y ≤ 16) (ea : av s = nI y) (hW : 0 < r → MD md0 (r - 1) W) (hW0 : r = 0 → W = 0) (h : ∀ md, MD md r (V * x + W * y) → (∀ q, (q < 42 * r ∨ 42 * r + 42 ≤ q) → md q = md0 q) → k (nI s) (nI x) (nI r + (-1 : Int32)) md) : ∀ (d i : Nat) (md : Nat → Int32), i + d = 42 → (∀ q, q < 42 → md (42 * r + q) = nI (dg 10 q (if q < i then V * x + W * y else V))) → (∀ q, (q < 42 * r ∨ 42 * r + 42 ≤ q) → md q = md0 q) → wp_M_guest_27 post av be k (d + 1) (nI s) (nI x) (nI r) (nI (cry 10 V W x y i)) (nI i) md := by
  intro d
  induction d with
  | zero =>
    intro i md hi h1 h2
    obtain rfl : i = 42 := by omega
    exact go_y (by decide) (fun z ez => by rw [ez]; exact h md (fun q hq => by rw [h1 q hq, if_pos hq]) h2)
  | succ d ih =>
    intro i md hi h1 h2
    have step : wp_M_guest_56 post av be k (wp_M_guest_27 post av be k (d + 1)) (nI s) (nI x) (nI r) (nI (cry 10 V W x y i)) (nI i) (nI (dg 10 i W)) md := by
      have iv : vp_in (nI (42 * r + i)) 1260 := vin (by omega) (by omega)
      have hd := dg_lt (B := 10) (i := i) (V := V) (by omega)
      have hw := dg_lt (B := 10) (i := i) (V := W) (by omega)
      have hc := cry_le (B := 10) (i := i) (V := V) (W := W) (x := x) (y := y) (by omega)
      have hdx := Nat.mul_le_mul_right x (show dg 10 i V ≤ 9 by omega)
      have hdy := Nat.mul_le_mul_right y (show dg 10 i W ≤ 9 by omega)
      unfold wp_M_guest_56
      rw [m_ix, cl (by omega), cl (by omega), h1 i (by omega), if_neg (by omega), ea, pk_mul, pk_mul, nI_add, nI_add]
      refine ⟨iv, vin hs (by omega), fun z ez => ⟨iv, fun f ef w ew u eu => ?_⟩⟩
      subst ez
      rw [show nI (dg 10 i V * x + dg 10 i W * y + cry 10 V W x y i) - nI (dg 10 i V * x + dg 10 i W * y + cry 10 V W x y i) / (10 : Int32) * (10 : Int32) = nI ((dg 10 i V * x + dg 10 i W * y + cry 10 V W x y i) % 10) from pk_rem (d := 10) (by omega) (by omega) (by omega), mx_dig (by omega)] at ef
      rw [show nI (dg 10 i V * x + dg 10 i W * y + cry 10 V W x y i) / (10 : Int32) = nI ((dg 10 i V * x + dg 10 i W * y + cry 10 V W x y i) / 10) from pk_div (d := 10) (by omega) (by omega) (by omega), mx_cry (by omega)] at ew
      rw [ef, ew, eu, nI_1]
      refine ih (i + 1) _ (by omega) (fun q hq => ?_) (fun q hq => by rw [upd_n (by omega)]; exact h2 q hq)
      by_cases e : q = i
      · rw [e, upd_s, if_pos (by omega)]
      · rw [upd_n (by omega), h1 q hq]
        by_cases e2 : q < i
        · rw [if_pos e2, if_pos (by omega)]
        · rw [if_neg e2, if_neg (by omega)]
    refine go_n (nI_ge (b := 42) (by omega) (by omega)) ?_
    by_cases e : r = 0
    · subst e
      refine go_y (by decide) ?_
      have := hW0 rfl
      subst this
      rw [dg_0] at step
      exact step
    · refine go_n (nI_nle (by omega) (by omega)) ?_
      obtain ⟨r, rfl⟩ : ∃ r', r = r' + 1 := ⟨r - 1, by omega⟩
      have hw := hW (by omega) i (by omega)
      rw [nI_pred, m_ix, cl (by omega), h2 _ (by omega), show 42 * r + i = 42 * (r + 1 - 1) + i by omega, hw]
      exact ⟨vin (by omega) (by omega), step⟩
theorem sm_row {post : (Nat → Int32) → Prop} {av be : Nat → Int32} {k : Int32 → Int32 → Int32 → (Nat → Int32) → Prop} {s x y r V W : Nat} {md0 : Nat → Int32} (hs : s < 8) (hr : r ≤ 28) (hx : x + y ≤ 16) (ea : av s = nI y) (hV : MD md0 r V) (hW : 0 < r → MD md0 (r - 1) W) (hW0 : r = 0 → W = 0) (h : ∀ md, MD md r (V * x + W * y) → (∀ q, (q < 42 * r ∨ 42 * r + 42 ≤ q) → md q = md0 q) → k (nI s) (nI x) (nI r + (-1 : Int32)) md) : wp_M_guest_27 post av be k 43 (nI s) (nI x) (nI r) 0 0 md0 := by
  have := sm_g27 (post := post) (be := be) (V := V) hs hr hx ea hW hW0 h 42 0 md0 (by omega) (fun q hq => by rw [if_neg (by omega)]; exact hV q hq) (fun q _ => rfl)
  rw [cry_0] at this
  exact this
def MR (a b n : Nat) (md : Nat → Int32) : Prop := ∀ j, j < 29 → MD md j (dst a b n j)
theorem sm_g17 {post : (Nat → Int32) → Prop} {av be : Nat → Int32} {s a b n : Nat} (hs : s < 8) (hab : a ≤ b) (hb : b ≤ 16) (ea : av s = nI a) (h : ∀ md, MR a b (n + 1) md → post md) : ∀ (r : Nat) (md : Nat → Int32), r ≤ 28 → (∀ j, j < 29 → MD md j (dst a b (if j ≤ r then n else n + 1) j)) → wp_M_guest_17 post av be (r + 2) (nI s) (nI (b - a)) (nI r) md := by
  intro r
  induction r with
  | zero =>
    intro md hr hM
    refine go_n (nI_pos (by omega)) ⟨43, sm_row (V := dst a b n 0) (W := 0) (x := b - a) (y := a) hs hr (by omega) ea (by have := hM 0 (by omega); rw [if_pos (by omega)] at this; exact this) (fun z => by omega) (fun _ => rfl) (fun md' g1 g2 => ?_)⟩
    refine go_y (by decide) (h md' (fun j hj => ?_))
    by_cases e : j = 0
    · subst e
      have e2 : dst a b (n + 1) 0 = dst a b n 0 * (b - a) + 0 * a := by rw [dst, Nat.zero_mul, Nat.add_zero]
      rw [e2]
      exact g1
    · intro q hq
      rw [g2 _ (by omega)]
      have := hM j hj q hq
      rw [if_neg (by omega)] at this
      exact this
  | succ r ih =>
    intro md hr hM
    refine go_n (nI_pos (by omega)) ⟨43, sm_row (V := dst a b n (r + 1)) (W := dst a b n r) (x := b - a) (y := a) hs hr (by omega) ea (by have := hM (r + 1) (by omega); rw [if_pos (by omega)] at this; exact this) (fun _ => ?_) (fun z => by omega) (fun md' g1 g2 => ?_)⟩
    · have := hM r (by omega)
      rw [if_pos (by omega)] at this
      exact this
    · rw [pk_m1]
      refine ih md' (by omega) (fun j hj => ?_)
      by_cases e : j = r + 1
      · subst e
        rw [if_neg (by omega), dst]
        exact g1
      · intro q hq
        rw [g2 _ (by omega)]
        have := hM j hj q hq
        by_cases e2 : j ≤ r
        · rw [if_pos (by omega)] at this ⊢
          exact this
        · rw [if_neg (by omega)] at this ⊢
          exact this
theorem sm_guest {post : (Nat → Int32) → Prop} {av be md : Nat → Int32} {s a b n : Nat} (hs : s < 8) (hab : a ≤ b) (hb : b ≤ 16) (ea : av s = nI a) (eb : be s = nI b) (hM : MR a b n md) (h : ∀ md, MR a b (n + 1) md → post md) : wp_M_guest post (nI s) av be md := by
  refine ⟨vin hs (by omega), vin hs (by omega), fun x ex => ⟨30, ?_⟩⟩
  rw [cl (by omega), ea, eb, pk_sub hab] at ex
  rw [ex]
  exact sm_g17 hs hab hb ea h 28 md (by omega) (fun j hj => by rw [if_pos (by omega)]; exact hM j hj)
theorem sm_blank {post : (Nat → Int32) → Prop} {md : Nat → Int32} {a b : Nat} (h : ∀ md, MR a b 0 md → post md) : wp_M_blank post md := by
  have loop : ∀ (d i : Nat) (md : Nat → Int32), i + d = 1260 → (∀ q, q < i → md q = 0) → wp_M_blank_2 post (d + 1) (nI i) md := by
    intro d
    induction d with
    | zero =>
      intro i md hi h1
      obtain rfl : i = 1260 := by omega
      refine go_y (by decide) (fun f ef => h f (fun j hj i hi => ?_))
      subst ef
      show upd md 0 1 (42 * j + i) = _
      by_cases e : j = 0
      · subst e
        rw [show dst a b 0 0 = 1 from rfl, dg_1 (by omega)]
        by_cases e2 : i = 0
        · subst e2
          exact upd_s
        · rw [if_neg e2, upd_n (by omega), h1 _ (by omega)]
          rfl
      · rw [dst_0 a b 0 j (by omega), dg_0, upd_n (by omega), h1 _ (by omega)]
        rfl
    | succ d ih =>
      intro i md hi h1
      refine go_n (nI_ge (b := 1260) (by omega) (by omega)) ⟨vin (by omega) (by omega), fun f ef x ex => ?_⟩
      rw [ef, ex, nI_1, cl (by omega)]
      refine ih (i + 1) _ (by omega) (fun q hq => ?_)
      by_cases e : q = i
      · rw [e]; exact upd_s
      · rw [upd_n e]; exact h1 q (by omega)
  exact ⟨1261, loop 1260 0 md (by omega) (fun q hq => by omega)⟩
-- the sum
theorem ab_lin (B i p : Nat) (V : Nat → Nat) (m : Nat) : sumTo (aby p (fun j => V j % B ^ (i + 1))) m = sumTo (aby p (fun j => V j % B ^ i)) m + B ^ i * sumTo (aby p (fun j => dg B i (V j))) m := by
  refine sumTo_lin m (fun j _ => ?_)
  unfold aby
  by_cases e : p < j
  · rw [if_pos e, if_pos e, if_pos e]; exact dg_lo B i (V j)
  · rw [if_neg e, if_neg e, if_neg e, Nat.mul_zero]
theorem ab_md (M p : Nat) (V : Nat → Nat) (m : Nat) : sumTo (aby p V) m % M = sumTo (aby p (fun j => V j % M)) m % M := by
  refine sumTo_md m (fun j _ => ?_)
  unfold aby
  by_cases e : p < j
  · rw [if_pos e, if_pos e, Nat.mod_mod]
  · rw [if_neg e, if_neg e]
theorem ab_s {p q : Nat} {F : Nat → Nat} (h : p < q) : sumTo (aby p F) (q + 1) = sumTo (aby p F) q + F q := by
  rw [sumTo]
  congr 1
  exact if_pos h
theorem ab_b {p m c : Nat} {F : Nat → Nat} (h : ∀ j, F j ≤ c) : sumTo (aby p F) m ≤ m * c := sumTo_le m (fun j _ => by
  unfold aby
  by_cases e : p < j
  · rw [if_pos e]; exact h j
  · rw [if_neg e]; exact Nat.zero_le _)
theorem ab_cry {P p m : Nat} {V : Nat → Nat} (hP : 0 < P) : sumTo (aby p (fun j => V j % P)) m / P ≤ m := by
  refine Nat.div_le_of_le_mul ?_
  rw [Nat.mul_comm]
  exact ab_b (fun j => Nat.le_of_lt (Nat.mod_lt _ hP))
theorem sm_sum {post : (Nat → Int32) → Prop} {md0 : Nat → Int32} {p : Nat} {V : Nat → Nat} (hp : p ≤ 20) (hM : ∀ j, j < 29 → MD md0 j (V j)) (h : ∀ md : Nat → Int32, (∀ i, i < 42 → md (1218 + i) = nI (dg 10 i (sumTo (aby p V) 29))) → post md) : wp_M_sum post (nI (p + 1)) md0 := by
  have inner : ∀ (k : Int32 → Int32 → Int32 → (Nat → Int32) → Prop) (i c : Nat) (md : Nat → Int32), i < 42 → c ≤ 29 → (∀ j, j < 29 → MD md j (V j)) → (∀ w, w = c + sumTo (aby p (fun j => dg 10 i (V j))) 29 → k (nI (p + 1)) (nI (w / 10)) (nI (i + 1)) (upd md (1218 + i) (nI (w % 10)))) → ∀ (d q : Nat), q + d = 29 → p < q → wp_M_sum_16 post k (d + 1) (nI (p + 1)) (nI i) (nI (c + sumTo (aby p (fun j => dg 10 i (V j))) q)) (nI q) md := by
    intro k i c md hi hc hM' hk d
    induction d with
    | zero =>
      intro q hq hpq
      obtain rfl : q = 29 := by omega
      have hb : sumTo (aby p (fun j => dg 10 i (V j))) 29 ≤ 29 * 9 := ab_b (fun j => by have := dg_lt (B := 10) (i := i) (V := V j) (by omega); omega)
      refine go_y (by decide) ?_
      rw [show (1218 : Int32) + nI i = nI (1218 + i) from nI_add 1218 i, cl (by omega)]
      refine ⟨vin (by omega) (by omega), fun f ef x ex y ey => ?_⟩
      rw [show nI (c + sumTo (aby p (fun j => dg 10 i (V j))) 29) - nI (c + sumTo (aby p (fun j => dg 10 i (V j))) 29) / (10 : Int32) * (10 : Int32) = _ from pk_rem (d := 10) (by omega) (by omega) (by omega)] at ef
      rw [show nI (c + sumTo (aby p (fun j => dg 10 i (V j))) 29) / (10 : Int32) = _ from pk_div (d := 10) (by omega) (by omega) (by omega)] at ex
      rw [ef, ex, ey, nI_1]
      exact hk _ rfl
    | succ d ih =>
      intro q hq hpq
      refine go_n (fun z => absurd ((nI_ltI (a := 28) (b := q) (by omega) (by omega)).mp z) (by omega)) ?_
      rw [m_ix, cl (by omega), hM' q (by omega) i hi]
      refine ⟨vin (by omega) (by omega), fun x ex y ey => ?_⟩
      rw [ex, ey, nI_1, nI_add, Nat.add_assoc, ← ab_s (F := fun j => dg 10 i (V j)) hpq]
      exact ih (q + 1) (by omega) (by omega)
  have loop : ∀ (d i : Nat) (md : Nat → Int32), i + d = 42 → (∀ j, j < 29 → MD md j (V j)) → (∀ q, q < i → md (1218 + q) = nI (dg 10 q (sumTo (aby p V) 29))) → wp_M_sum_4 post (d + 1) (nI (p + 1)) (nI (sumTo (aby p (fun j => V j % 10 ^ i)) 29 / 10 ^ i)) (nI i) md := by
    intro d
    induction d with
    | zero =>
      intro i md hi h1 h2
      obtain rfl : i = 42 := by omega
      exact go_y (by decide) (h md h2)
    | succ d ih =>
      intro i md hi h1 h2
      have hP : 0 < 10 ^ i := Nat.pow_pos (by omega)
      refine go_n (nI_ge (b := 42) (by omega) (by omega)) ⟨28 - p + 1, ?_⟩
      have := inner (wp_M_sum_4 post (d + 1)) i (sumTo (aby p (fun j => V j % 10 ^ i)) 29 / 10 ^ i) md (by omega) (ab_cry hP) h1 (fun w ew => ?_) (28 - p) (p + 1) (by omega) (by omega)
      · rw [ab_lo (Nat.le_refl _), Nat.add_zero] at this
        exact this
      · rw [ew, cy_d hP, ← ab_lin, ← Nat.pow_succ]
        refine ih (i + 1) _ (by omega) (fun j hj q hq => by rw [upd_n (by omega)]; exact h1 j hj q hq) (fun q hq => ?_)
        by_cases e : q = i
        · rw [e, upd_s, cy_m (T := sumTo (aby p V) 29) hP]
          · rfl
          · rw [← ab_lin, ← Nat.pow_succ]
            exact ab_md _ _ _ _
        · rw [upd_n (by omega)]
          exact h2 q (by omega)
  have := loop 42 0 md0 (by omega) hM (fun q hq => by omega)
  have e0 : sumTo (aby p (fun j => V j % 10 ^ 0)) 29 / 10 ^ 0 = 0 := by
    have : sumTo (aby p (fun j => V j % 10 ^ 0)) 29 ≤ 29 * 0 := ab_b (fun j => by rw [Nat.pow_zero, Nat.mod_one]; exact Nat.le_refl _)
    have e1 : sumTo (aby p (fun j => V j % 10 ^ 0)) 29 = 0 := by omega
    rw [e1, Nat.zero_div]
  rw [e0] at this
  exact ⟨43, this⟩
