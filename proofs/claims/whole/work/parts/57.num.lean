-- numbers by their digits
def dg (B i V : Nat) : Nat := V / B ^ i % B
theorem dg_lt {B i V : Nat} (hB : 0 < B) : dg B i V < B := Nat.mod_lt _ hB
theorem dg_lo (B i V : Nat) : V % B ^ (i + 1) = V % B ^ i + B ^ i * dg B i V := Nat.mod_pow_succ
theorem dg_0 (B i : Nat) : dg B i 0 = 0 := by
  unfold dg
  rw [Nat.zero_div, Nat.zero_mod]
theorem dg_1 {B i : Nat} (hB : 1 < B) : dg B i 1 = if i = 0 then 1 else 0 := by
  unfold dg
  by_cases e : i = 0
  · rw [if_pos e, e, Nat.pow_zero, Nat.div_one, Nat.mod_eq_of_lt hB]
  · rw [if_neg e, Nat.div_eq_of_lt (Nat.one_lt_pow e hB), Nat.zero_mod]
theorem cy_s {S D P : Nat} (hP : 0 < P) : (S + P * D) / P = S / P + D := Nat.add_mul_div_left _ _ hP
theorem cy_d {S D P B : Nat} (hP : 0 < P) : (S / P + D) / B = (S + P * D) / (P * B) := by
  rw [← Nat.div_div_eq_div_mul, cy_s hP]
theorem cy_m {S D P B T : Nat} (hP : 0 < P) (h : T % (P * B) = (S + P * D) % (P * B)) : (S / P + D) % B = T / P % B := by
  rw [← Nat.mod_mul_right_div_self T, h, Nat.mod_mul_right_div_self, cy_s hP]
theorem mx_lo (B i V W x y : Nat) : V % B ^ (i + 1) * x + W % B ^ (i + 1) * y = (V % B ^ i * x + W % B ^ i * y) + B ^ i * (dg B i V * x + dg B i W * y) := by
  rw [dg_lo B i V, dg_lo B i W]
  simp only [Nat.add_mul, Nat.mul_add, Nat.mul_assoc]
  omega
theorem mx_md (M V W x y : Nat) : (V * x + W * y) % M = (V % M * x + W % M * y) % M := by
  rw [Nat.add_mod (V * x), Nat.add_mod (V % M * x), Nat.mod_mul_mod, Nat.mod_mul_mod]
/-- what is carried to the place i -/
def cry (B V W x y i : Nat) : Nat := (V % B ^ i * x + W % B ^ i * y) / B ^ i
theorem mx_dig {B i V W x y : Nat} (hB : 0 < B) : (dg B i V * x + dg B i W * y + cry B V W x y i) % B = dg B i (V * x + W * y) := by
  unfold cry
  rw [Nat.add_comm, cy_m (T := V * x + W * y) (Nat.pow_pos hB)]
  · rfl
  · rw [← Nat.pow_succ, ← mx_lo]
    exact mx_md _ _ _ _ _
theorem mx_cry {B i V W x y : Nat} (hB : 0 < B) : (dg B i V * x + dg B i W * y + cry B V W x y i) / B = cry B V W x y (i + 1) := by
  unfold cry
  rw [Nat.add_comm, cy_d (Nat.pow_pos hB), ← mx_lo, ← Nat.pow_succ]
theorem cry_0 {B V W x y : Nat} : cry B V W x y 0 = 0 := by
  unfold cry
  rw [Nat.pow_zero, Nat.mod_one, Nat.mod_one, Nat.zero_mul, Nat.zero_mul]
theorem cry_le {B i V W x y : Nat} (hB : 0 < B) : cry B V W x y i ≤ x + y := by
  unfold cry
  have hP : 0 < B ^ i := Nat.pow_pos hB
  refine Nat.div_le_of_le_mul ?_
  rw [Nat.mul_add]
  exact Nat.add_le_add (Nat.mul_le_mul_right x (Nat.le_of_lt (Nat.mod_lt _ hP))) (Nat.mul_le_mul_right y (Nat.le_of_lt (Nat.mod_lt _ hP)))
-- sums
theorem sumTo_lin {F G H : Nat → Nat} {P : Nat} : ∀ m, (∀ j, j < m → F j = G j + P * H j) → sumTo F m = sumTo G m + P * sumTo H m := by
  intro m
  induction m with
  | zero => intro _; rfl
  | succ m ih =>
    intro h
    rw [sumTo, sumTo, sumTo, ih (fun j hj => h j (by omega)), h m (by omega), Nat.mul_add]
    omega
theorem sumTo_md {F G : Nat → Nat} {M : Nat} : ∀ m, (∀ j, j < m → F j % M = G j % M) → sumTo F m % M = sumTo G m % M := by
  intro m
  induction m with
  | zero => intro _; rfl
  | succ m ih =>
    intro h
    rw [sumTo, sumTo, Nat.add_mod, ih (fun j hj => h j (by omega)), h m (by omega), ← Nat.add_mod]
theorem sumTo_c {F G : Nat → Nat} : ∀ m, (∀ j, j < m → F j = G j) → sumTo F m = sumTo G m := by
  intro m
  induction m with
  | zero => intro _; rfl
  | succ m ih =>
    intro h
    rw [sumTo, sumTo, ih (fun j hj => h j (by omega)), h m (by omega)]
theorem sumTo_mono {F G : Nat → Nat} : ∀ m, (∀ j, j < m → F j ≤ G j) → sumTo F m ≤ sumTo G m := by
  intro m
  induction m with
  | zero => intro _; exact Nat.le_refl _
  | succ m ih =>
    intro h
    rw [sumTo, sumTo]
    exact Nat.add_le_add (ih (fun j hj => h j (by omega))) (h m (by omega))
theorem sumTo_le {F : Nat → Nat} {c : Nat} : ∀ m, (∀ j, j < m → F j ≤ c) → sumTo F m ≤ m * c := by
  intro m
  induction m with
  | zero => intro _; exact Nat.zero_le _
  | succ m ih =>
    intro h
    rw [sumTo, Nat.succ_mul]
    exact Nat.add_le_add (ih (fun j hj => h j (by omega))) (h m (by omega))
theorem sumTo_one {F : Nat → Nat} : ∀ m j, j < m → F j ≤ sumTo F m := by
  intro m
  induction m with
  | zero => intro j hj; omega
  | succ m ih =>
    intro j hj
    rw [sumTo]
    by_cases e : j = m
    · rw [e]; exact Nat.le_add_left _ _
    · exact Nat.le_trans (ih j (by omega)) (Nat.le_add_right _ _)
/-- those above p alone -/
def aby (p : Nat) (F : Nat → Nat) (j : Nat) : Nat := if p < j then F j else 0
theorem ab_lo {p m : Nat} {F : Nat → Nat} : m ≤ p + 1 → sumTo (aby p F) m = 0 := by
  induction m with
  | zero => intro _; rfl
  | succ m ih =>
    intro h
    rw [sumTo, ih (by omega), Nat.zero_add]
    exact if_neg (by omega)
theorem tooMany_ab (a b p n : Nat) : tooMany a b p n = sumTo (aby p (dst a b n)) 29 := rfl
-- the ways
theorem dst_0 (a b : Nat) : ∀ n j, n < j → dst a b n j = 0 := by
  intro n
  induction n with
  | zero =>
    intro j hj
    rw [dst]
    exact if_neg (by omega)
  | succ n ih =>
    intro j hj
    obtain ⟨j, rfl⟩ : ∃ j', j = j' + 1 := ⟨j - 1, by omega⟩
    rw [dst, ih (j + 1) (by omega), ih j (by omega), Nat.zero_mul, Nat.zero_mul]
theorem dst_sum (a b n : Nat) : ∀ m, sumTo (dst a b (n + 1)) (m + 1) = sumTo (dst a b n) (m + 1) * (b - a) + sumTo (dst a b n) m * a := by
  intro m
  induction m with
  | zero =>
    simp only [sumTo, dst, Nat.zero_mul, Nat.zero_add, Nat.add_zero]
  | succ m ih =>
    rw [sumTo, ih, show sumTo (dst a b n) (m + 1 + 1) = sumTo (dst a b n) (m + 1) + dst a b n (m + 1) from rfl, show sumTo (dst a b n) (m + 1) = sumTo (dst a b n) m + dst a b n m from rfl, dst]
    simp only [Nat.add_mul]
    omega
theorem dst_all {a b : Nat} (h : a ≤ b) : ∀ n, n ≤ 28 → sumTo (dst a b n) 29 = b ^ n := by
  intro n
  induction n with
  | zero => intro _; rfl
  | succ n ih =>
    intro hn
    have e : sumTo (dst a b n) 28 = sumTo (dst a b n) 29 := by
      rw [show sumTo (dst a b n) 29 = sumTo (dst a b n) 28 + dst a b n 28 from rfl, dst_0 a b n 28 (by omega)]
      rfl
    rw [dst_sum a b n 28, e, ih (by omega), ← Nat.mul_add, Nat.sub_add_cancel h, Nat.pow_succ]
theorem dst_ab (a b p n : Nat) : ∀ m, sumTo (aby p (dst a b (n + 1))) (m + 1) = sumTo (aby p (dst a b n)) (m + 1) * (b - a) + (sumTo (aby p (dst a b n)) m + (if p < m then dst a b n p else 0)) * a := by
  intro m
  induction m with
  | zero =>
    rw [ab_lo (by omega), ab_lo (by omega), if_neg (by omega)]
    simp only [sumTo, Nat.zero_mul, Nat.add_zero]
  | succ m ih =>
    rw [sumTo, ih, show sumTo (aby p (dst a b n)) (m + 1 + 1) = sumTo (aby p (dst a b n)) (m + 1) + aby p (dst a b n) (m + 1) from rfl, show sumTo (aby p (dst a b n)) (m + 1) = sumTo (aby p (dst a b n)) m + aby p (dst a b n) m from rfl]
    unfold aby
    by_cases e : p < m
    · rw [if_pos (show p < m + 1 by omega), if_pos (show p < m + 1 by omega), if_pos e, if_pos e, if_pos (show p < m + 1 by omega), dst]
      simp only [Nat.add_mul]
      omega
    · by_cases e2 : p = m
      · rw [if_pos (show p < m + 1 by omega), if_pos (show p < m + 1 by omega), if_neg e, if_neg e, if_pos (show p < m + 1 by omega), dst, e2]
        simp only [Nat.add_mul]
        omega
      · rw [if_neg (show ¬ p < m + 1 by omega), if_neg (show ¬ p < m + 1 by omega), if_neg e, if_neg e, if_neg (show ¬ p < m + 1 by omega)]
        simp only [Nat.add_zero]
theorem many_s {a b p n : Nat} (h : a ≤ b) (hn : n < 28) (hp : p < 28) : tooMany a b p (n + 1) = tooMany a b p n * b + dst a b n p * a := by
  have e : sumTo (aby p (dst a b n)) 28 = sumTo (aby p (dst a b n)) 29 := by
    rw [show sumTo (aby p (dst a b n)) 29 = sumTo (aby p (dst a b n)) 28 + aby p (dst a b n) 28 from rfl, show aby p (dst a b n) 28 = dst a b n 28 from if_pos hp, dst_0 a b n 28 (by omega)]
    rfl
  rw [tooMany_ab, tooMany_ab, dst_ab a b p n 28, e, if_pos hp, Nat.add_mul, ← Nat.add_assoc, ← Nat.mul_add, Nat.sub_add_cancel h]
theorem many_0 (a b p : Nat) : tooMany a b p 0 = 0 := by
  have : tooMany a b p 0 ≤ 29 * 0 := sumTo_le 29 (fun j _ => by
    show (if p < j then dst a b 0 j else 0) ≤ 0
    by_cases e : p < j
    · rw [if_pos e, dst_0 a b 0 j (by omega)]; exact Nat.le_refl _
    · rw [if_neg e]; exact Nat.le_refl _)
  omega
theorem pow_b {b n : Nat} (hb : b ≤ 16) (hn : n ≤ 28) : b ^ n < 10 ^ 42 := by
  have h1 : b ^ n ≤ 16 ^ n := Nat.pow_le_pow_left hb n
  have h2 : 16 ^ n ≤ 16 ^ 28 := Nat.pow_le_pow_right (by omega) hn
  have h3 : 16 ^ 28 < 10 ^ 42 := by decide
  omega
theorem dst_b {a b n j : Nat} (h : a ≤ b) (hn : n ≤ 28) (hj : j < 29) : dst a b n j ≤ b ^ n := by
  rw [← dst_all h n hn]
  exact sumTo_one 29 j hj
theorem many_b {a b p n : Nat} (h : a ≤ b) (hn : n ≤ 28) : tooMany a b p n ≤ b ^ n := by
  rw [← dst_all h n hn]
  refine sumTo_mono 29 (fun j _ => ?_)
  by_cases e : p < j
  · show (if p < j then dst a b n j else 0) ≤ _
    rw [if_pos e]; exact Nat.le_refl _
  · show (if p < j then dst a b n j else 0) ≤ _
    rw [if_neg e]; exact Nat.zero_le _
-- two numbers held against each other, from the last place on
theorem cmp_s {X Y P B : Nat} (hP : 0 < P) : Y % (P * B) < X % (P * B) ↔ (Y / P % B < X / P % B ∨ (Y / P % B = X / P % B ∧ Y % P < X % P)) := by
  rw [Nat.mod_mul, Nat.mod_mul]
  have hx := Nat.mod_lt X hP
  have hy := Nat.mod_lt Y hP
  rcases Nat.lt_trichotomy (Y / P % B) (X / P % B) with e | e | e
  · have := Nat.mul_le_mul_left P (show Y / P % B + 1 ≤ X / P % B from e)
    rw [Nat.mul_add] at this
    exact ⟨fun _ => Or.inl e, fun _ => by omega⟩
  · rw [e]
    exact ⟨fun z => Or.inr ⟨rfl, by omega⟩, fun z => by omega⟩
  · have := Nat.mul_le_mul_left P (show X / P % B + 1 ≤ Y / P % B from e)
    rw [Nat.mul_add] at this
    exact ⟨fun z => by omega, fun z => by omega⟩
theorem cmp_e {X Y M : Nat} (hM : 0 < M) : Y < X ↔ (Y / M < X / M ∨ (Y / M = X / M ∧ Y % M < X % M)) := by
  have hx := Nat.mod_lt X hM
  have hy := Nat.mod_lt Y hM
  have h1 := Nat.div_add_mod X M
  have h2 := Nat.div_add_mod Y M
  rcases Nat.lt_trichotomy (Y / M) (X / M) with e | e | e
  · have := Nat.mul_le_mul_left M (show Y / M + 1 ≤ X / M from e)
    rw [Nat.mul_add] at this
    exact ⟨fun _ => Or.inl e, fun _ => by omega⟩
  · rw [e] at h2 ⊢
    exact ⟨fun z => Or.inr ⟨rfl, by omega⟩, fun z => by omega⟩
  · have := Nat.mul_le_mul_left M (show X / M + 1 ≤ Y / M from e)
    rw [Nat.mul_add] at this
    exact ⟨fun z => by omega, fun z => by omega⟩
