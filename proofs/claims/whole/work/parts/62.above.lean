-- the class's comparison of the risk
theorem x_sg (a : Int64) : (0 : Int64) ≤ a ^^^ (1000000000 : Int64) ↔ 0 ≤ a.toInt := by
  have m : (a ^^^ (1000000000 : Int64)).toBitVec.msb = a.toBitVec.msb := by
    rw [Int64.toBitVec_xor, BitVec.msb_xor, show (1000000000 : Int64).toBitVec.msb = false by decide, Bool.xor_false]
  rw [Int64.le_iff_toInt_le, show (0 : Int64).toInt = 0 by decide]
  rw [BitVec.msb_eq_toInt, BitVec.msb_eq_toInt] at m
  have m2 : ((a ^^^ (1000000000 : Int64)).toInt < 0) ↔ (a.toInt < 0) := decide_eq_decide.mp m
  omega
theorem bm64 {z : Int} (h1 : -2 ^ 63 ≤ z) (h2 : z < 2 ^ 63) : z.bmod (2 ^ 64) = z := Int.bmod_eq_of_le (by omega) (by omega)
theorem x_q (a : Int64) : ∃ t : Int, (a / (1000000000 : Int64)).toInt = t ∧ (a / (1000000000 : Int64) * (1000000000 : Int64)).toInt = t * 1000000000 ∧ ((0 ≤ a.toInt ∨ a.toInt % 1000000000 = 0) → t = a.toInt / 1000000000) ∧ (¬ 0 ≤ a.toInt → ¬ a.toInt % 1000000000 = 0 → t = a.toInt / 1000000000 + 1) := by
  have l := Int64.le_toInt a
  have u := Int64.toInt_lt a
  have eB : (1000000000 : Int64).toInt = 1000000000 := by decide
  have q : (a / (1000000000 : Int64)).toInt = a.toInt.tdiv 1000000000 := by rw [Int64.toInt_div_of_ne_right _ _ (by decide), eB]
  have td := Int.tdiv_eq_ediv (a := a.toInt) (b := 1000000000)
  rw [show Int.sign 1000000000 = 1 from rfl] at td
  refine ⟨a.toInt.tdiv 1000000000, q, ?_, fun h => ?_, fun h h' => ?_⟩
  · rw [Int64.toInt_mul, q, eB]
    by_cases hd : 0 ≤ a.toInt ∨ (1000000000 : Int) ∣ a.toInt
    · rw [if_pos hd] at td
      exact bm64 (by omega) (by omega)
    · rw [if_neg hd] at td
      exact bm64 (by omega) (by omega)
  · rw [if_pos (by omega)] at td
    omega
  · rw [if_neg (by omega)] at td
    omega
theorem sx_floorDiv {post : Int64 → Unit → Prop} {a : Int64} (h : ∀ r : Int64, r.toInt = a.toInt / 1000000000 → post r ()) : wp_JM_floorDiv post a 1000000000 := by
  have l := Int64.le_toInt a
  have u := Int64.toInt_lt a
  obtain ⟨t, q1, q2, q3, q4⟩ := x_q a
  have sg := x_sg a
  refine ⟨by decide, fun x ex => ?_⟩
  subst ex
  refine ⟨fun z => h _ ?_, fun z => ⟨fun y => h _ ?_, fun y => h _ ?_⟩⟩
  · rw [q1]; exact q3 (Or.inl (sg.mp z))
  · have := congrArg Int64.toInt y
    rw [q2] at this
    rw [q1]
    omega
  · have hn : ¬ 0 ≤ a.toInt := fun w => z (sg.mpr w)
    have hm : ¬ a.toInt % 1000000000 = 0 := fun w => y (Int64.toInt_inj.mp (by rw [q2, q3 (Or.inr w)]; omega))
    have := q4 hn hm
    rw [Int64.toInt_sub, q1, show (1 : Int64).toInt = 1 by decide, bm64 (by omega) (by omega)]
    omega
theorem sx_floorMod {post : Int64 → Unit → Prop} {a : Int64} (h : ∀ r : Int64, (r = 0 ↔ a.toInt % 1000000000 = 0) → post r ()) : wp_JM_floorMod post a 1000000000 := by
  have l := Int64.le_toInt a
  have u := Int64.toInt_lt a
  obtain ⟨t, q1, q2, q3, q4⟩ := x_q a
  have sg := x_sg a
  have e0 : (0 : Int64).toInt = 0 := by decide
  have tb : -1000000000 < a.toInt - t * 1000000000 ∧ a.toInt - t * 1000000000 < 1000000000 := by
    by_cases hd : 0 ≤ a.toInt ∨ a.toInt % 1000000000 = 0
    · have := q3 hd
      omega
    · have := q4 (by omega) (by omega)
      omega
  have q5 : (a - a / (1000000000 : Int64) * (1000000000 : Int64)).toInt = a.toInt - t * 1000000000 := by
    rw [Int64.toInt_sub, q2]
    exact bm64 (by omega) (by omega)
  refine ⟨by decide, fun x ex => ?_⟩
  subst ex
  have iz : (a - a / (1000000000 : Int64) * (1000000000 : Int64)) = 0 ↔ a.toInt - t * 1000000000 = 0 := by
    rw [← Int64.toInt_inj, q5, e0]
  refine ⟨fun z => h _ ?_, fun z => ⟨fun y => h _ ?_, fun y => h _ ?_⟩⟩
  · have := q3 (Or.inl (sg.mp z))
    rw [iz]
    omega
  · have := iz.mp y
    rw [iz]
    omega
  · have hn : ¬ 0 ≤ a.toInt := fun w => z (sg.mpr w)
    have hm : ¬ a.toInt % 1000000000 = 0 := fun w => y (iz.mpr (by have := q3 (Or.inr w); omega))
    have := q4 hn hm
    rw [← Int64.toInt_inj, Int64.toInt_add, q5, e0, show (1000000000 : Int64).toInt = 1000000000 by decide, bm64 (by omega) (by omega)]
    omega
theorem ix_s {Z D P : Int} (hP : 0 < P) : (Z + P * D) / P = Z / P + D := Int.add_mul_ediv_left Z D (by omega)
theorem ix_d {Z D P B : Int} (hP : 0 < P) : (Z / P + D) / B = (Z + P * D) / (P * B) := by
  rw [← Int.ediv_ediv_of_nonneg (by omega), ix_s hP]
theorem ix_m {Z D P B : Int} (hP : 0 < P) : (Z + P * D) % (P * B) = 0 ↔ (Z % P = 0 ∧ (Z / P + D) % B = 0) := by
  constructor
  · intro h
    obtain ⟨c, hc⟩ := Int.dvd_of_emod_eq_zero h
    rw [Int.mul_assoc] at hc
    refine ⟨Int.emod_eq_zero_of_dvd ⟨B * c - D, ?_⟩, ?_⟩
    · rw [Int.mul_sub]
      omega
    · rw [← ix_s hP, hc, Int.mul_ediv_cancel_left _ (by omega)]
      exact Int.mul_emod_right B c
  · rintro ⟨h1, h2⟩
    obtain ⟨c, hc⟩ := Int.dvd_of_emod_eq_zero h1
    obtain ⟨e, he⟩ := Int.dvd_of_emod_eq_zero h2
    rw [hc, Int.mul_ediv_cancel_left _ (by omega)] at he
    refine Int.emod_eq_zero_of_dvd ⟨e, ?_⟩
    rw [hc, ← Int.mul_add, he, Int.mul_assoc]
def dz (T A ra rb i : Nat) : Int := ((T % 1000000000 ^ i * rb : Nat) : Int) - ((A % 1000000000 ^ i * ra : Nat) : Int)
theorem dz_s (T A ra rb i : Nat) : dz T A ra rb (i + 1) = dz T A ra rb i + ((1000000000 ^ i : Nat) : Int) * (((dg 1000000000 i T * rb : Nat) : Int) - ((dg 1000000000 i A * ra : Nat) : Int)) := by
  unfold dz
  rw [pr_lin (dg_lo 1000000000 i T), pr_lin (dg_lo 1000000000 i A), Int.natCast_add, Int.natCast_add, Int.natCast_mul (1000000000 ^ i), Int.natCast_mul (1000000000 ^ i), Int.mul_sub]
  omega
theorem dz_b {T A ra rb i : Nat} (hra : ra ≤ 1000) (hrb : rb ≤ 1000) : -1000 ≤ dz T A ra rb i / ((1000000000 ^ i : Nat) : Int) ∧ dz T A ra rb i / ((1000000000 ^ i : Nat) : Int) ≤ 1000 := by
  have hP : 0 < 1000000000 ^ i := Nat.pow_pos (by omega)
  have h1 := Nat.mul_le_mul (Nat.le_of_lt (Nat.mod_lt T hP)) hrb
  have h2 := Nat.mul_le_mul (Nat.le_of_lt (Nat.mod_lt A hP)) hra
  unfold dz
  generalize 1000000000 ^ i = P at *
  generalize T % P * rb = u at *
  generalize A % P * ra = v at *
  exact ⟨Int.le_ediv_of_mul_le (by omega) (by omega), Int.ediv_le_of_le_mul (by omega) (by omega)⟩
theorem sx_isAbove {post : Int32 → Unit → Prop} {w : Nat → Int64} {T A ra rb : Nat} (hra : ra ≤ 1000) (hrb : rb ≤ 1000) (hT : XL w 21 T) (hA : XL w 22 A) (bT : T < 10 ^ 42) (bA : A < 10 ^ 42) (h1 : A * ra < T * rb → post 1 ()) (h0 : ¬ A * ra < T * rb → post 0 ()) : wp_XC_isAbove post (nI ra) (nI rb) w := by
  have loop : ∀ (d i : Nat) (l3 : Int64) (l5 : Int32), i + d = 5 → l3.toInt = dz T A ra rb i / ((1000000000 ^ i : Nat) : Int) → ((l5 = 0 ∧ dz T A ra rb i % ((1000000000 ^ i : Nat) : Int) = 0) ∨ (l5 = 1 ∧ ¬ dz T A ra rb i % ((1000000000 ^ i : Nat) : Int) = 0)) → wp_XC_isAbove_8 post w (d + 1) (nI ra) (nI rb) l3 l5 (nI i) := by
    intro d
    induction d with
    | zero =>
      intro i l3 l5 hi e3 e5
      obtain rfl : i = 5 := by omega
      refine go_y (by decide) ?_
      have b3 : (10 : Nat) ^ 42 < 1000000000 ^ 5 := by decide
      have ed : dz T A ra rb 5 = ((T * rb : Nat) : Int) - ((A * ra : Nat) : Int) := by
        unfold dz
        rw [Nat.mod_eq_of_lt (Nat.lt_trans bT b3), Nat.mod_eq_of_lt (Nat.lt_trans bA b3)]
      rw [ed] at e3 e5
      rw [show ((1000000000 ^ 5 : Nat) : Int) = 1000000000000000000000000000000000000000000000 from rfl] at e3 e5
      have z0 : (0 : Int64).toInt = 0 := by decide
      have hk : (10 : Nat) ^ 42 * 1000 = 1000000000000000000000000000000000000000000000 := by decide
      have hs : T * rb < 1000000000000000000000000000000000000000000000 := by
        have h9 : T * rb ≤ T * 1000 := Nat.mul_le_mul_left T hrb
        have h8 : T * 1000 < 10 ^ 42 * 1000 := Nat.mul_lt_mul_of_pos_right bT (by decide)
        rw [hk] at h8
        exact Nat.lt_of_le_of_lt h9 h8
      by_cases p : l3 < (0 : Int64)
      · refine go_y p (h0 ?_)
        rw [Int64.lt_iff_toInt_lt, z0, e3] at p
        omega
      · refine go_n p ?_
        rw [Int64.lt_iff_toInt_lt, z0, e3] at p
        rcases e5 with ⟨f1, f2⟩ | ⟨f1, f2⟩
        · exact go_y f1 (h0 (by omega))
        · exact go_n (by rw [f1]; decide) (h1 (by omega))
    | succ d ih =>
      intro i l3 l5 hi e3 e5
      have hP : 0 < ((1000000000 ^ i : Nat) : Int) := by
        have : 0 < 1000000000 ^ i := Nat.pow_pos (by omega)
        omega
      have bd := dz_b (T := T) (A := A) (i := i) hra hrb
      have hd := dg_lt (B := 1000000000) (i := i) (V := T) (by omega)
      have hw := dg_lt (B := 1000000000) (i := i) (V := A) (by omega)
      have hdx := Nat.mul_le_mul (Nat.le_of_lt hd) hrb
      have hdy := Nat.mul_le_mul (Nat.le_of_lt hw) hra
      refine go_n (nI_ge (b := 5) (by omega) (by omega)) ?_
      rw [show (105 : Int32) + nI i = nI (105 + i) from nI_add 105 i, show (110 : Int32) + nI i = nI (110 + i) from nI_add 110 i, cl (by omega), cl (by omega), hT i (by omega), hA i (by omega), nI_l (by omega), nI_l (by omega), lN_mul, lN_mul]
      refine ⟨vin (by omega) (by omega), vin (by omega) (by omega), fun x ex => ?_⟩
      have xt : x.toInt = dz T A ra rb i / ((1000000000 ^ i : Nat) : Int) + (((dg 1000000000 i T * rb : Nat) : Int) - ((dg 1000000000 i A * ra : Nat) : Int)) := by
        rw [ex, Int64.toInt_add, Int64.toInt_sub, pk_lT (by omega), pk_lT (by omega), bm64 (z := ((dg 1000000000 i T * rb : Nat) : Int) - ((dg 1000000000 i A * ra : Nat) : Int)) (by omega) (by omega), e3, bm64 (by omega) (by omega)]
        omega
      have eP : ((1000000000 ^ (i + 1) : Nat) : Int) = ((1000000000 ^ i : Nat) : Int) * 1000000000 := by
        rw [Nat.pow_succ, Int.natCast_mul]
        rfl
      have im := ix_m (Z := dz T A ra rb i) (D := ((dg 1000000000 i T * rb : Nat) : Int) - ((dg 1000000000 i A * ra : Nat) : Int)) (B := 1000000000) hP
      rw [← dz_s, ← eP, ← xt] at im
      refine sx_floorDiv (fun r er => ?_)
      rw [xt, ix_d hP, ← dz_s, ← eP] at er
      rcases e5 with ⟨f1, f2⟩ | ⟨f1, f2⟩
      · refine go_y f1 (sx_floorMod (fun u eu => ⟨fun z y ey => ?_, fun z y ey => ?_⟩))
        · rw [ey, nI_1]
          exact ih (i + 1) r 0 (by omega) er (Or.inl ⟨rfl, im.mpr ⟨f2, eu.mp z⟩⟩)
        · rw [ey, nI_1]
          exact ih (i + 1) r 1 (by omega) er (Or.inr ⟨rfl, fun y => z (eu.mpr (im.mp y).2)⟩)
      · refine go_n (by rw [f1]; decide) (fun y ey => ?_)
        rw [ey, nI_1]
        exact ih (i + 1) r 1 (by omega) er (Or.inr ⟨rfl, fun y => f2 (im.mp y).1⟩)
  refine ⟨6, loop 5 0 0 0 (by omega) ?_ (Or.inl ⟨rfl, ?_⟩)⟩
  · unfold dz
    rw [Nat.pow_zero, Nat.mod_one, Nat.mod_one, Nat.zero_mul, Nat.zero_mul]
    decide
  · rw [Nat.pow_zero]
    exact Int.emod_one _
theorem sx_greatest {post : Int32 → (Nat → Int64) → Prop} {p a b ra rb : Nat} {w : Nat → Int64} (hp : p ≤ 20) (hab : a ≤ b) (hb : b ≤ 16) (hra : ra ≤ 1000) (hrb : rb ≤ 1000) (h : ∀ w, post (nI (mostN p a b ra rb)) w) : wp_XC_greatestSafe post (nI p) (nI a) (nI b) (nI ra) (nI rb) w := by
  have loop : ∀ (f n : Nat) (w : Nat → Int64), n + f = p + 8 → XS p a b n w → (∀ w, post (nI (mgo (fun n => decide (ra * b ^ n < tooMany a b p n * rb)) f n)) w) → wp_XC_greatestSafe_16 post (f + 1) (nI p) (nI a) (nI b) (nI ra) (nI rb) (nI n) (nI (n + 1)) w := by
    intro f
    induction f with
    | zero =>
      intro n w hn hX h
      refine go_y ?_ (h w)
      rw [show nI p + (8 : Int32) = nI (p + 8) from nI_add p 8]
      exact nI_lt (by omega) (by omega)
    | succ f ih =>
      intro n w hn hX h
      refine go_n ?_ (sx_inviteOne hp hab hb (by omega) hX (fun w' hX' => ?_))
      · rw [show nI p + (8 : Int32) = nI (p + 8) from nI_add p 8]
        exact fun z => absurd ((nI_ltI (by omega) (by omega)).mp z) (by omega)
      · have b1 := pow_b hb (show n + 1 ≤ 28 by omega)
        have b2 := many_b (p := p) hab (show n + 1 ≤ 28 by omega)
        refine sx_isAbove hra hrb hX'.2.1 hX'.2.2 (Nat.lt_of_le_of_lt b2 b1) b1 (fun z => go_n (by decide) ?_) (fun z => go_y rfl (fun x ex => ?_))
        · have H := h w'
          rw [Nat.mul_comm] at z
          rw [mgo, if_pos (decide_eq_true z)] at H
          exact H
        · rw [ex, nI_1]
          refine ih (n + 1) w' (by omega) hX' (fun w2 => ?_)
          have H := h w2
          rw [Nat.mul_comm] at z
          rw [mgo, if_neg (fun y => z (of_decide_eq_true y))] at H
          exact H
  refine sx_invite hp hab hb (by omega) (fun w' hX x ex => ⟨9, ?_⟩)
  rw [ex, nI_1]
  exact loop 8 p w' rfl hX h
theorem sx_digitMany {post : Int32 → Unit → Prop} {p a b n k : Nat} {w : Nat → Int64} (hX : XS p a b n w) (hk : k < 40) (h : post (nI (dg 10 k (tooMany a b p n))) ()) : wp_XC_digitOfTooMany post (nI k) w := by
  have hl := dg_lt (B := 1000000000) (i := k / 9) (V := tooMany a b p n) (by omega)
  have ed : nI k / (9 : Int32) = nI (k / 9) := pk_div (d := 9) (by omega) (by omega) (by omega)
  have er : nI k - nI k / (9 : Int32) * (9 : Int32) = nI (k % 9) := pk_rem (d := 9) (by omega) (by omega) (by omega)
  unfold wp_XC_digitOfTooMany
  rw [er, ed, show (105 : Int32) + nI (k / 9) = nI (105 + k / 9) from nI_add 105 _, cl (by omega)]
  refine ⟨vin (by omega) (by omega), sx_digitOf (n := dg 1000000000 (k / 9) (tooMany a b p n)) (p := k % 9) (by omega) (by omega) (hX.2.1 _ (by omega)) rfl ?_⟩
  have e : dg 1000000000 (k / 9) (tooMany a b p n) / 10 ^ (k % 9) % 10 = dg 10 k (tooMany a b p n) := by
    unfold dg
    have e9 : (1000000000 : Nat) = 10 ^ (k % 9) * 10 ^ (9 - k % 9) := by
      rw [← Nat.pow_add, show k % 9 + (9 - k % 9) = 9 by omega]
    have ek : (1000000000 : Nat) ^ (k / 9) * 10 ^ (k % 9) = 10 ^ k := by
      rw [show (1000000000 : Nat) = 10 ^ 9 from rfl, ← Nat.pow_mul, ← Nat.pow_add, show 9 * (k / 9) + k % 9 = k by omega]
    have e10 : (10 : Nat) ^ (9 - k % 9) = 10 * 10 ^ (8 - k % 9) := by
      rw [show 9 - k % 9 = 8 - k % 9 + 1 by omega, Nat.pow_succ, Nat.mul_comm]
    rw [← ek, ← Nat.div_div_eq_div_mul]
    generalize tooMany a b p n / 1000000000 ^ (k / 9) = u
    rw [e9, Nat.mod_mul_right_div_self, e10, Nat.mod_mul_right_mod]
  rw [e]
  exact h
