-- the reference's comparison of the risk
theorem all_lin (B i : Nat) (V : Nat → Nat) (m : Nat) : sumTo (fun j => V j % B ^ (i + 1)) m = sumTo (fun j => V j % B ^ i) m + B ^ i * sumTo (fun j => dg B i (V j)) m :=
  sumTo_lin m (fun j _ => dg_lo B i (V j))
theorem all_md (M : Nat) (V : Nat → Nat) (m : Nat) : sumTo V m % M = sumTo (fun j => V j % M) m % M :=
  sumTo_md m (fun j _ => by rw [Nat.mod_mod])
theorem pr_lin {S P D c T : Nat} (h : T = S + P * D) : T * c = S * c + P * (D * c) := by
  rw [h, Nat.add_mul, Nat.mul_assoc]
theorem pr_md {T S M c : Nat} (h : T % M = S % M) : T * c % M = S * c % M := by
  rw [← Nat.mod_mul_mod, h, Nat.mod_mul_mod]
theorem pr_cry {S P c : Nat} (hP : 0 < P) (h : S ≤ 29 * P) (hc : c ≤ 1000) : S * c / P ≤ 29000 := by
  refine Nat.div_le_of_le_mul ?_
  refine Nat.le_trans (Nat.mul_le_mul h hc) (Nat.le_of_eq ?_)
  rw [Nat.mul_comm 29 P, Nat.mul_assoc]
theorem sm_much {post : Int32 → Unit → Prop} {pl rav rbv md : Nat → Int32} {s p ra rb : Nat} {V : Nat → Nat} (hs : s < 8) (hp : p ≤ 20) (hra : ra ≤ 1000) (hrb : rb ≤ 1000) (ep : pl s = nI p) (ea : rav s = nI ra) (eb : rbv s = nI rb) (hM : ∀ j, j < 29 → MD md j (V j)) (hV : ∀ j, j < 29 → V j < 10 ^ 42) (h1 : sumTo V 29 * ra < sumTo (aby p V) 29 * rb → post 1 ()) (h0 : ¬ sumTo V 29 * ra < sumTo (aby p V) 29 * rb → post 0 ()) : wp_M_isTooMuch post (nI s) pl rav rbv md := by
  have hvs : vp_in (nI s) 8 := vin hs (by omega)
  have inner : ∀ (k : Int32 → Int32 → Int32 → Int32 → Int32 → Prop) (i c3 c4 : Nat) (l2 : Int32), i < 42 → c3 ≤ 29000 → c4 ≤ 29000 → (∀ w3 w4, w3 = c3 + sumTo (aby p (fun j => dg 10 i (V j))) 29 * rb → w4 = c4 + sumTo (fun j => dg 10 i (V j)) 29 * ra → k (nI s) (if w3 % 10 = w4 % 10 then l2 else if w3 % 10 ≤ w4 % 10 then 0 else 1) (nI (w3 / 10)) (nI (w4 / 10)) (nI (i + 1))) → ∀ (d q : Nat), q + d = 29 → wp_M_isTooMuch_20 post pl rav rbv md k (d + 1) (nI s) l2 (nI (c3 + sumTo (aby p (fun j => dg 10 i (V j))) q * rb)) (nI (c4 + sumTo (fun j => dg 10 i (V j)) q * ra)) (nI i) (nI q) := by
    intro k i c3 c4 l2 hi hc3 hc4 hk d
    have h9 : ∀ j, dg 10 i (V j) ≤ 9 := fun j => by have := dg_lt (B := 10) (i := i) (V := V j) (by omega); omega
    induction d with
    | zero =>
      intro q hq
      obtain rfl : q = 29 := by omega
      have b3 : sumTo (aby p (fun j => dg 10 i (V j))) 29 * rb ≤ 29 * 9 * 1000 := Nat.mul_le_mul (ab_b h9) hrb
      have b4 : sumTo (fun j => dg 10 i (V j)) 29 * ra ≤ 29 * 9 * 1000 := Nat.mul_le_mul (sumTo_le 29 (fun j _ => h9 j)) hra
      have K := hk _ _ rfl rfl
      have g3 : c3 + sumTo (aby p (fun j => dg 10 i (V j))) 29 * rb < 2 ^ 30 := by omega
      have g4 : c4 + sumTo (fun j => dg 10 i (V j)) 29 * ra < 2 ^ 30 := by omega
      generalize c3 + sumTo (aby p (fun j => dg 10 i (V j))) 29 * rb = w3 at K g3 ⊢
      generalize c4 + sumTo (fun j => dg 10 i (V j)) 29 * ra = w4 at K g4 ⊢
      refine go_y (by decide) ?_
      rw [show nI w3 - nI w3 / (10 : Int32) * (10 : Int32) = nI (w3 % 10) from pk_rem (d := 10) (by omega) (by omega) (by omega), show nI w4 - nI w4 / (10 : Int32) * (10 : Int32) = nI (w4 % 10) from pk_rem (d := 10) (by omega) (by omega) (by omega), show nI w3 / (10 : Int32) = nI (w3 / 10) from pk_div (d := 10) (by omega) (by omega) (by omega), show nI w4 / (10 : Int32) = nI (w4 / 10) from pk_div (d := 10) (by omega) (by omega) (by omega)]
      by_cases e : w3 % 10 = w4 % 10
      · rw [if_pos e] at K
        exact go_y (by rw [e]) (fun x ex y ey z ez => by rw [ex, ey, ez, nI_1]; exact K)
      · rw [if_neg e] at K
        refine go_n (nn (by omega) (by omega) e) ?_
        by_cases e2 : w3 % 10 ≤ w4 % 10
        · rw [if_pos e2] at K
          exact go_y (nI_le e2 (by omega)) (fun x ex y ey z ez => by rw [ex, ey, ez, nI_1]; exact K)
        · rw [if_neg e2] at K
          exact go_n (nI_ge (by omega) (by omega)) (fun x ex y ey z ez => by rw [ex, ey, ez, nI_1]; exact K)
    | succ d ih =>
      intro q hq
      refine go_n (fun z => absurd ((nI_ltI (a := 28) (b := q) (by omega) (by omega)).mp z) (by omega)) ?_
      rw [m_ix, cl (by omega), hM q (by omega) i hi]
      refine ⟨vin (by omega) (by omega), fun x ex => ⟨hvs, ?_⟩⟩
      subst ex
      rw [cl (by omega), ep, ea, eb]
      have e4 : nI (c4 + sumTo (fun j => dg 10 i (V j)) q * ra) + nI (dg 10 i (V q)) * nI ra = nI (c4 + sumTo (fun j => dg 10 i (V j)) (q + 1) * ra) := by
        rw [pk_mul, nI_add, sumTo, Nat.add_mul, Nat.add_assoc]
      by_cases e : q ≤ p
      · refine go_y (nI_le e (by omega)) ⟨hvs, fun y ey z ez => ?_⟩
        rw [ey, ez, nI_1, e4]
        have IH := ih (q + 1) (by omega)
        rw [ab_lo (m := q + 1) (by omega)] at IH
        rw [ab_lo (m := q) (by omega)]
        exact IH
      · refine go_n (nI_ge (by omega) (by omega)) ⟨hvs, fun w ew => ⟨hvs, fun y ey z ez => ?_⟩⟩
        rw [ew, ey, ez, nI_1, e4]
        have IH := ih (q + 1) (by omega)
        rw [ab_s (by omega), Nat.add_mul, ← Nat.add_assoc] at IH
        rw [pk_mul, nI_add]
        exact IH
  have loop : ∀ (d i : Nat), i + d = 42 → wp_M_isTooMuch_10 post pl rav rbv md (d + 1) (nI s) (if sumTo V 29 * ra % 10 ^ i < sumTo (aby p V) 29 * rb % 10 ^ i then 1 else 0) (nI (sumTo (aby p (fun j => V j % 10 ^ i)) 29 * rb / 10 ^ i)) (nI (sumTo (fun j => V j % 10 ^ i) 29 * ra / 10 ^ i)) (nI i) := by
    intro d
    have c3 : ∀ i, sumTo (aby p (fun j => V j % 10 ^ i)) 29 * rb / 10 ^ i ≤ 29000 := fun i => pr_cry (Nat.pow_pos (by omega)) (ab_b (fun j => Nat.le_of_lt (Nat.mod_lt _ (Nat.pow_pos (by omega))))) hrb
    have c4 : ∀ i, sumTo (fun j => V j % 10 ^ i) 29 * ra / 10 ^ i ≤ 29000 := fun i => pr_cry (Nat.pow_pos (by omega)) (sumTo_le 29 (fun j _ => Nat.le_of_lt (Nat.mod_lt _ (Nat.pow_pos (by omega))))) hra
    induction d with
    | zero =>
      intro i hi
      obtain rfl : i = 42 := by omega
      refine go_y (by decide) ?_
      have q3 := c3 42
      have q4 := c4 42
      have e3 : sumTo (aby p (fun j => V j % 10 ^ 42)) 29 = sumTo (aby p V) 29 := sumTo_c 29 (fun j hj => by
        unfold aby
        by_cases e : p < j
        · rw [if_pos e, if_pos e]; exact Nat.mod_eq_of_lt (hV j hj)
        · rw [if_neg e, if_neg e])
      have e4 : sumTo (fun j => V j % 10 ^ 42) 29 = sumTo V 29 := sumTo_c 29 (fun j hj => Nat.mod_eq_of_lt (hV j hj))
      rw [e3] at q3 ⊢
      rw [e4] at q4 ⊢
      have C := cmp_e (X := sumTo (aby p V) 29 * rb) (Y := sumTo V 29 * ra) (M := 10 ^ 42) (by decide)
      generalize sumTo (aby p V) 29 * rb / 10 ^ 42 = w3 at C q3 ⊢
      generalize sumTo V 29 * ra / 10 ^ 42 = w4 at C q4 ⊢
      by_cases e : w3 = w4
      · subst e
        refine go_y rfl ?_
        by_cases e2 : sumTo V 29 * ra % 10 ^ 42 < sumTo (aby p V) 29 * rb % 10 ^ 42
        · rw [if_pos e2]
          exact ⟨Or.inr rfl, h1 (C.mpr (Or.inr ⟨rfl, e2⟩))⟩
        · rw [if_neg e2]
          exact ⟨Or.inl rfl, h0 (fun z => (C.mp z).elim (fun y => by omega) (fun y => e2 y.2))⟩
      · refine go_n (nn (by omega) (by omega) e) ?_
        by_cases e2 : w3 ≤ w4
        · exact go_y (nI_le e2 (by omega)) (h0 (fun z => (C.mp z).elim (fun y => by omega) (fun y => e y.1.symm)))
        · exact go_n (nI_ge (by omega) (by omega)) (h1 (C.mpr (Or.inl (by omega))))
    | succ d ih =>
      intro i hi
      have hP : 0 < 10 ^ i := Nat.pow_pos (by omega)
      refine go_n (nI_ge (b := 42) (by omega) (by omega)) ⟨30, ?_⟩
      have := inner (wp_M_isTooMuch_10 post pl rav rbv md (d + 1)) i _ _ (if sumTo V 29 * ra % 10 ^ i < sumTo (aby p V) 29 * rb % 10 ^ i then 1 else 0) (by omega) (c3 i) (c4 i) (fun w3 w4 e3 e4 => ?_) 29 0 (by omega)
      · rw [sumTo, sumTo, Nat.zero_mul, Nat.zero_mul, Nat.add_zero, Nat.add_zero] at this
        exact this
      · have d3 : w3 % 10 = sumTo (aby p V) 29 * rb / 10 ^ i % 10 := by
          rw [e3]
          refine cy_m hP ?_
          rw [← pr_lin (ab_lin 10 i p V 29), ← Nat.pow_succ]
          exact pr_md (ab_md _ _ _ _)
        have d4 : w4 % 10 = sumTo V 29 * ra / 10 ^ i % 10 := by
          rw [e4]
          refine cy_m hP ?_
          rw [← pr_lin (all_lin 10 i V 29), ← Nat.pow_succ]
          exact pr_md (all_md _ _ _)
        have f3 : w3 / 10 = sumTo (aby p (fun j => V j % 10 ^ (i + 1))) 29 * rb / 10 ^ (i + 1) := by
          rw [e3, cy_d hP, ← pr_lin (ab_lin 10 i p V 29), ← Nat.pow_succ]
        have f4 : w4 / 10 = sumTo (fun j => V j % 10 ^ (i + 1)) 29 * ra / 10 ^ (i + 1) := by
          rw [e4, cy_d hP, ← pr_lin (all_lin 10 i V 29), ← Nat.pow_succ]
        have C := cmp_s (X := sumTo (aby p V) 29 * rb) (Y := sumTo V 29 * ra) (P := 10 ^ i) (B := 10) hP
        rw [← Nat.pow_succ, ← d3, ← d4] at C
        have IH := ih (i + 1) (by omega)
        rw [← f3, ← f4] at IH
        have fl : (if w3 % 10 = w4 % 10 then (if sumTo V 29 * ra % 10 ^ i < sumTo (aby p V) 29 * rb % 10 ^ i then (1 : Int32) else 0) else if w3 % 10 ≤ w4 % 10 then 0 else 1) = (if sumTo V 29 * ra % 10 ^ (i + 1) < sumTo (aby p V) 29 * rb % 10 ^ (i + 1) then (1 : Int32) else 0) := by
          by_cases e : w3 % 10 = w4 % 10
          · rw [if_pos e]
            by_cases e2 : sumTo V 29 * ra % 10 ^ i < sumTo (aby p V) 29 * rb % 10 ^ i
            · rw [if_pos e2, if_pos (C.mpr (Or.inr ⟨e.symm, e2⟩))]
            · rw [if_neg e2, if_neg (fun z => (C.mp z).elim (fun y => by omega) (fun y => e2 y.2))]
          · rw [if_neg e]
            by_cases e2 : w3 % 10 ≤ w4 % 10
            · rw [if_pos e2, if_neg (fun z => (C.mp z).elim (fun y => by omega) (fun y => e y.1.symm))]
            · rw [if_neg e2, if_pos (C.mpr (Or.inl (by omega)))]
        rw [fl]
        exact IH
  have := loop 42 0 (by omega)
  rw [if_neg (by rw [Nat.pow_zero, Nat.mod_one, Nat.mod_one]; omega)] at this
  have z3 : sumTo (aby p (fun j => V j % 10 ^ 0)) 29 = 0 := by
    have : sumTo (aby p (fun j => V j % 10 ^ 0)) 29 ≤ 29 * 0 := ab_b (fun j => by rw [Nat.pow_zero, Nat.mod_one]; exact Nat.le_refl _)
    omega
  have z4 : sumTo (fun j => V j % 10 ^ 0) 29 = 0 := by
    have : sumTo (fun j => V j % 10 ^ 0) 29 ≤ 29 * 0 := sumTo_le 29 (fun j _ => by rw [Nat.pow_zero, Nat.mod_one]; exact Nat.le_refl _)
    omega
  rw [z3, z4, Nat.zero_mul, Nat.zero_mul, Nat.zero_div] at this
  exact ⟨43, this⟩
