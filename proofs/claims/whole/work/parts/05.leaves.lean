theorem d_XS_init_0 : decode b_XS_init 0 = .ok (.aload_n 0, 1) := by decide +kernel
theorem d_XS_init_1 : decode b_XS_init 1 = .ok (.invokespecial 3, 3) := by decide +kernel
theorem d_XS_init_4 : decode b_XS_init 4 = .ok (.aload_n 0, 1) := by decide +kernel
theorem d_XS_init_5 : decode b_XS_init 5 = .ok (.bipush 8, 2) := by decide +kernel
theorem d_XS_init_7 : decode b_XS_init 7 = .ok (.newarray .int, 2) := by decide +kernel
theorem d_XS_init_9 : decode b_XS_init 9 = .ok (.putfield 9, 3) := by decide +kernel
theorem d_XS_init_12 : decode b_XS_init 12 = .ok (.aload_n 0, 1) := by decide +kernel
theorem d_XS_init_13 : decode b_XS_init 13 = .ok (.bipush 8, 2) := by decide +kernel
theorem d_XS_init_15 : decode b_XS_init 15 = .ok (.newarray .int, 2) := by decide +kernel
theorem d_XS_init_17 : decode b_XS_init 17 = .ok (.putfield 15, 3) := by decide +kernel
theorem d_XS_init_20 : decode b_XS_init 20 = .ok (.aload_n 0, 1) := by decide +kernel
theorem d_XS_init_21 : decode b_XS_init 21 = .ok (.bipush 8, 2) := by decide +kernel
theorem d_XS_init_23 : decode b_XS_init 23 = .ok (.newarray .int, 2) := by decide +kernel
theorem d_XS_init_25 : decode b_XS_init 25 = .ok (.putfield 18, 3) := by decide +kernel
theorem d_XS_init_28 : decode b_XS_init 28 = .ok (.aload_n 0, 1) := by decide +kernel
theorem d_XS_init_29 : decode b_XS_init 29 = .ok (.bipush 8, 2) := by decide +kernel
theorem d_XS_init_31 : decode b_XS_init 31 = .ok (.newarray .int, 2) := by decide +kernel
theorem d_XS_init_33 : decode b_XS_init 33 = .ok (.putfield 21, 3) := by decide +kernel
theorem d_XS_init_36 : decode b_XS_init 36 = .ok (.aload_n 0, 1) := by decide +kernel
theorem d_XS_init_37 : decode b_XS_init 37 = .ok (.bipush 8, 2) := by decide +kernel
theorem d_XS_init_39 : decode b_XS_init 39 = .ok (.newarray .int, 2) := by decide +kernel
theorem d_XS_init_41 : decode b_XS_init 41 = .ok (.putfield 24, 3) := by decide +kernel
theorem d_XS_init_44 : decode b_XS_init 44 = .ok (.return_, 1) := by decide +kernel
def wp_XS_init (post : ((Nat) × (Nat) × (Nat) × (Nat) × (Nat) × (Nat → Int32) × (Nat → Int32) × (Nat → Int32) × (Nat → Int32) × (Nat → Int32) × (Int32)) → Prop) : Prop := (∀ q_1 : Nat, (∀ q_2 : Nat, (∀ q_3 : Nat, (∀ q_4 : Nat, (∀ q_5 : Nat, post (q_1, q_2, q_3, q_4, q_5, (fun _ => (0 : Int32)), (fun _ => (0 : Int32)), (fun _ => (0 : Int32)), (fun _ => (0 : Int32)), (fun _ => (0 : Int32)), (0 : Int32)))))))
set_option maxHeartbeats 4000000 in
set_option maxRecDepth 100000 in
theorem c_XS_init (l : Launch) (hl9 : l.stackTraces = false) (dC : Nat → ClassId) (dI : Nat → Nat → Nat) (cI cJ cZ : ClassId) (q_0 : Nat) (post : ((Nat) × (Nat) × (Nat) × (Nat) × (Nat) × (Nat → Int32) × (Nat → Int32) × (Nat → Int32) × (Nat → Int32) × (Nat → Int32) × (Int32)) → Prop) (hw : wp_XS_init post) : Kv l y_XS_init b_XS_init 1 none ({ frames := 1, cells := 5, slots := 40, locals := 22 } : Room) dC dI cI cJ cZ [.ref q_0] [(q_0, .inr (1, [.null, .null, .null, .null, .null, .int (0 : Int32)]))] post (fun u : (Nat) × (Nat) × (Nat) × (Nat) × (Nat) × (Nat → Int32) × (Nat → Int32) × (Nat → Int32) × (Nat → Int32) × (Nat → Int32) × (Int32) => [(q_0, .inr (1, [.ref u.1, .ref u.2.1, .ref u.2.2.1, .ref u.2.2.2.1, .ref u.2.2.2.2.1, .int u.2.2.2.2.2.2.2.2.2.2])), (u.1, .inl (cI, 8, .inl u.2.2.2.2.2.1)), (u.2.1, .inl (cI, 8, .inl u.2.2.2.2.2.2.1)), (u.2.2.1, .inl (cI, 8, .inl u.2.2.2.2.2.2.2.1)), (u.2.2.2.1, .inl (cI, 8, .inl u.2.2.2.2.2.2.2.2.1)), (u.2.2.2.2.1, .inl (cI, 8, .inl u.2.2.2.2.2.2.2.2.2.1))]) := by
  refine mkv hl9 (own := R_XS) rfl (by decide) ?_
  intro p e s m args below meth c A C0 hnm eav hP hD
  obtain ⟨-, hx, hb, hml, hr, hown, hts, hlocks, hK, hZ, hA, hNS⟩ := id C0
  subst eav
  have hS : va_S A s.heap s.heap [] := va_S.rf
  have hl := lv_entry ([.ref q_0]) (n := 1) (Nat.le_of_ble_eq_true rfl)
  rw [lg_entry_eq]
  generalize (lg_sl ([.ref q_0]) ++ List.replicate (1 - (lg_sl ([.ref q_0])).length) Slot.unset).toArray = ls at hl ⊢
  have hl : lv_has ls 1 [(0, .ref q_0)] := hl
  unfold wp_XS_init at hw
  refine lv_aload_n hx hb d_XS_init_0 rfl (lv_at hl 0 rfl) ?_
  refine W.objInit hx hb hown (hts _ k_6) (hts _ k_1) (hts _ k_2) rfl (by rw [hml]; exact hl.1) rfl d_XS_init_1 (Nat.le_of_ble_eq_true rfl) (Nat.le_of_ble_eq_true rfl) ?_
  refine W.eq (g2 := F0 m 4 _ []) rfl ?_
  refine lv_aload_n hx hb d_XS_init_4 rfl (lv_at hl 0 rfl) ?_
  refine lv_bipush (v := (8 : Int32)) hx hb d_XS_init_5 (by decide) ?_
  refine nwaI C0 k_7 hP hD hS (N9 := 8) (by decide) (by decide) (by decide) (by decide) (by decide) d_XS_init_7 (fun q_1 H hP hD hS => ?_)
  have hw := hw q_1
  have hP : va_P (dC, dI) classes [(q_0, .inr (1, [.null, .null, .null, .null, .null, .int (0 : Int32)])), (q_1, .inl (cI, 8, .inl (fun _ => (0 : Int32))))] H := hP
  have hD : va_D A [(q_0, .inr (1, [.null, .null, .null, .null, .null, .int (0 : Int32)])), (q_1, .inl (cI, 8, .inl (fun _ => (0 : Int32))))] := hD
  refine va_putF (D := (dC, dI)) (ci := 1) (v := .ref q_1) (ty := (.array .int)) (C := R_XS) (T := F_XS) (N := 6) hx hb hts i_XS t_XS t_XS_ok n_XS hown hK hP hD hS 0 rfl rfl 0 (by decide) (hts _ k_8) (fun _ h9 => h9) rfl hnm rfl (by decide +kernel) rfl rfl (Nat.le_of_ble_eq_true rfl) d_XS_init_9 (fun H locs hP hD hS => ?_)
  have hP : va_P (dC, dI) classes [(q_0, .inr (1, [.ref q_1, .null, .null, .null, .null, .int (0 : Int32)])), (q_1, .inl (cI, 8, .inl (fun _ => (0 : Int32))))] H := hP
  have hD : va_D A [(q_0, .inr (1, [.ref q_1, .null, .null, .null, .null, .int (0 : Int32)])), (q_1, .inl (cI, 8, .inl (fun _ => (0 : Int32))))] := hD
  refine lv_aload_n hx hb d_XS_init_12 rfl (lv_at hl 0 rfl) ?_
  refine lv_bipush (v := (8 : Int32)) hx hb d_XS_init_13 (by decide) ?_
  refine nwaI C0 k_7 hP hD hS (N9 := 8) (by decide) (by decide) (by decide) (by decide) (by decide) d_XS_init_15 (fun q_2 H hP hD hS => ?_)
  have hw := hw q_2
  have hP : va_P (dC, dI) classes [(q_0, .inr (1, [.ref q_1, .null, .null, .null, .null, .int (0 : Int32)])), (q_1, .inl (cI, 8, .inl (fun _ => (0 : Int32)))), (q_2, .inl (cI, 8, .inl (fun _ => (0 : Int32))))] H := hP
  have hD : va_D A [(q_0, .inr (1, [.ref q_1, .null, .null, .null, .null, .int (0 : Int32)])), (q_1, .inl (cI, 8, .inl (fun _ => (0 : Int32)))), (q_2, .inl (cI, 8, .inl (fun _ => (0 : Int32))))] := hD
  refine va_putF (D := (dC, dI)) (ci := 1) (v := .ref q_2) (ty := (.array .int)) (C := R_XS) (T := F_XS) (N := 6) hx hb hts i_XS t_XS t_XS_ok n_XS hown hK hP hD hS 0 rfl rfl 1 (by decide) (hts _ k_9) (fun _ h9 => h9) rfl hnm rfl (by decide +kernel) rfl rfl (Nat.le_of_ble_eq_true rfl) d_XS_init_17 (fun H locs hP hD hS => ?_)
  have hP : va_P (dC, dI) classes [(q_0, .inr (1, [.ref q_1, .ref q_2, .null, .null, .null, .int (0 : Int32)])), (q_1, .inl (cI, 8, .inl (fun _ => (0 : Int32)))), (q_2, .inl (cI, 8, .inl (fun _ => (0 : Int32))))] H := hP
  have hD : va_D A [(q_0, .inr (1, [.ref q_1, .ref q_2, .null, .null, .null, .int (0 : Int32)])), (q_1, .inl (cI, 8, .inl (fun _ => (0 : Int32)))), (q_2, .inl (cI, 8, .inl (fun _ => (0 : Int32))))] := hD
  refine lv_aload_n hx hb d_XS_init_20 rfl (lv_at hl 0 rfl) ?_
  refine lv_bipush (v := (8 : Int32)) hx hb d_XS_init_21 (by decide) ?_
  refine nwaI C0 k_7 hP hD hS (N9 := 8) (by decide) (by decide) (by decide) (by decide) (by decide) d_XS_init_23 (fun q_3 H hP hD hS => ?_)
  have hw := hw q_3
  have hP : va_P (dC, dI) classes [(q_0, .inr (1, [.ref q_1, .ref q_2, .null, .null, .null, .int (0 : Int32)])), (q_1, .inl (cI, 8, .inl (fun _ => (0 : Int32)))), (q_2, .inl (cI, 8, .inl (fun _ => (0 : Int32)))), (q_3, .inl (cI, 8, .inl (fun _ => (0 : Int32))))] H := hP
  have hD : va_D A [(q_0, .inr (1, [.ref q_1, .ref q_2, .null, .null, .null, .int (0 : Int32)])), (q_1, .inl (cI, 8, .inl (fun _ => (0 : Int32)))), (q_2, .inl (cI, 8, .inl (fun _ => (0 : Int32)))), (q_3, .inl (cI, 8, .inl (fun _ => (0 : Int32))))] := hD
  refine va_putF (D := (dC, dI)) (ci := 1) (v := .ref q_3) (ty := (.array .int)) (C := R_XS) (T := F_XS) (N := 6) hx hb hts i_XS t_XS t_XS_ok n_XS hown hK hP hD hS 0 rfl rfl 2 (by decide) (hts _ k_10) (fun _ h9 => h9) rfl hnm rfl (by decide +kernel) rfl rfl (Nat.le_of_ble_eq_true rfl) d_XS_init_25 (fun H locs hP hD hS => ?_)
  have hP : va_P (dC, dI) classes [(q_0, .inr (1, [.ref q_1, .ref q_2, .ref q_3, .null, .null, .int (0 : Int32)])), (q_1, .inl (cI, 8, .inl (fun _ => (0 : Int32)))), (q_2, .inl (cI, 8, .inl (fun _ => (0 : Int32)))), (q_3, .inl (cI, 8, .inl (fun _ => (0 : Int32))))] H := hP
  have hD : va_D A [(q_0, .inr (1, [.ref q_1, .ref q_2, .ref q_3, .null, .null, .int (0 : Int32)])), (q_1, .inl (cI, 8, .inl (fun _ => (0 : Int32)))), (q_2, .inl (cI, 8, .inl (fun _ => (0 : Int32)))), (q_3, .inl (cI, 8, .inl (fun _ => (0 : Int32))))] := hD
  refine lv_aload_n hx hb d_XS_init_28 rfl (lv_at hl 0 rfl) ?_
  refine lv_bipush (v := (8 : Int32)) hx hb d_XS_init_29 (by decide) ?_
  refine nwaI C0 k_7 hP hD hS (N9 := 8) (by decide) (by decide) (by decide) (by decide) (by decide) d_XS_init_31 (fun q_4 H hP hD hS => ?_)
  have hw := hw q_4
  have hP : va_P (dC, dI) classes [(q_0, .inr (1, [.ref q_1, .ref q_2, .ref q_3, .null, .null, .int (0 : Int32)])), (q_1, .inl (cI, 8, .inl (fun _ => (0 : Int32)))), (q_2, .inl (cI, 8, .inl (fun _ => (0 : Int32)))), (q_3, .inl (cI, 8, .inl (fun _ => (0 : Int32)))), (q_4, .inl (cI, 8, .inl (fun _ => (0 : Int32))))] H := hP
  have hD : va_D A [(q_0, .inr (1, [.ref q_1, .ref q_2, .ref q_3, .null, .null, .int (0 : Int32)])), (q_1, .inl (cI, 8, .inl (fun _ => (0 : Int32)))), (q_2, .inl (cI, 8, .inl (fun _ => (0 : Int32)))), (q_3, .inl (cI, 8, .inl (fun _ => (0 : Int32)))), (q_4, .inl (cI, 8, .inl (fun _ => (0 : Int32))))] := hD
  refine va_putF (D := (dC, dI)) (ci := 1) (v := .ref q_4) (ty := (.array .int)) (C := R_XS) (T := F_XS) (N := 6) hx hb hts i_XS t_XS t_XS_ok n_XS hown hK hP hD hS 0 rfl rfl 3 (by decide) (hts _ k_11) (fun _ h9 => h9) rfl hnm rfl (by decide +kernel) rfl rfl (Nat.le_of_ble_eq_true rfl) d_XS_init_33 (fun H locs hP hD hS => ?_)
  have hP : va_P (dC, dI) classes [(q_0, .inr (1, [.ref q_1, .ref q_2, .ref q_3, .ref q_4, .null, .int (0 : Int32)])), (q_1, .inl (cI, 8, .inl (fun _ => (0 : Int32)))), (q_2, .inl (cI, 8, .inl (fun _ => (0 : Int32)))), (q_3, .inl (cI, 8, .inl (fun _ => (0 : Int32)))), (q_4, .inl (cI, 8, .inl (fun _ => (0 : Int32))))] H := hP
  have hD : va_D A [(q_0, .inr (1, [.ref q_1, .ref q_2, .ref q_3, .ref q_4, .null, .int (0 : Int32)])), (q_1, .inl (cI, 8, .inl (fun _ => (0 : Int32)))), (q_2, .inl (cI, 8, .inl (fun _ => (0 : Int32)))), (q_3, .inl (cI, 8, .inl (fun _ => (0 : Int32)))), (q_4, .inl (cI, 8, .inl (fun _ => (0 : Int32))))] := hD
  refine lv_aload_n hx hb d_XS_init_36 rfl (lv_at hl 0 rfl) ?_
  refine lv_bipush (v := (8 : Int32)) hx hb d_XS_init_37 (by decide) ?_
  refine nwaI C0 k_7 hP hD hS (N9 := 8) (by decide) (by decide) (by decide) (by decide) (by decide) d_XS_init_39 (fun q_5 H hP hD hS => ?_)
  have hw := hw q_5
  have hP : va_P (dC, dI) classes [(q_0, .inr (1, [.ref q_1, .ref q_2, .ref q_3, .ref q_4, .null, .int (0 : Int32)])), (q_1, .inl (cI, 8, .inl (fun _ => (0 : Int32)))), (q_2, .inl (cI, 8, .inl (fun _ => (0 : Int32)))), (q_3, .inl (cI, 8, .inl (fun _ => (0 : Int32)))), (q_4, .inl (cI, 8, .inl (fun _ => (0 : Int32)))), (q_5, .inl (cI, 8, .inl (fun _ => (0 : Int32))))] H := hP
  have hD : va_D A [(q_0, .inr (1, [.ref q_1, .ref q_2, .ref q_3, .ref q_4, .null, .int (0 : Int32)])), (q_1, .inl (cI, 8, .inl (fun _ => (0 : Int32)))), (q_2, .inl (cI, 8, .inl (fun _ => (0 : Int32)))), (q_3, .inl (cI, 8, .inl (fun _ => (0 : Int32)))), (q_4, .inl (cI, 8, .inl (fun _ => (0 : Int32)))), (q_5, .inl (cI, 8, .inl (fun _ => (0 : Int32))))] := hD
  refine va_putF (D := (dC, dI)) (ci := 1) (v := .ref q_5) (ty := (.array .int)) (C := R_XS) (T := F_XS) (N := 6) hx hb hts i_XS t_XS t_XS_ok n_XS hown hK hP hD hS 0 rfl rfl 4 (by decide) (hts _ k_12) (fun _ h9 => h9) rfl hnm rfl (by decide +kernel) rfl rfl (Nat.le_of_ble_eq_true rfl) d_XS_init_41 (fun H locs hP hD hS => ?_)
  have hP : va_P (dC, dI) classes [(q_0, .inr (1, [.ref q_1, .ref q_2, .ref q_3, .ref q_4, .ref q_5, .int (0 : Int32)])), (q_1, .inl (cI, 8, .inl (fun _ => (0 : Int32)))), (q_2, .inl (cI, 8, .inl (fun _ => (0 : Int32)))), (q_3, .inl (cI, 8, .inl (fun _ => (0 : Int32)))), (q_4, .inl (cI, 8, .inl (fun _ => (0 : Int32)))), (q_5, .inl (cI, 8, .inl (fun _ => (0 : Int32))))] H := hP
  have hD : va_D A [(q_0, .inr (1, [.ref q_1, .ref q_2, .ref q_3, .ref q_4, .ref q_5, .int (0 : Int32)])), (q_1, .inl (cI, 8, .inl (fun _ => (0 : Int32)))), (q_2, .inl (cI, 8, .inl (fun _ => (0 : Int32)))), (q_3, .inl (cI, 8, .inl (fun _ => (0 : Int32)))), (q_4, .inl (cI, 8, .inl (fun _ => (0 : Int32)))), (q_5, .inl (cI, 8, .inl (fun _ => (0 : Int32))))] := hD
  exact rt_v (u := (q_1, q_2, q_3, q_4, q_5, (fun _ => (0 : Int32)), (fun _ => (0 : Int32)), (fun _ => (0 : Int32)), (fun _ => (0 : Int32)), (fun _ => (0 : Int32)), (0 : Int32))) C0 hw hP hD hS (by decide) (by decide) d_XS_init_44
theorem d_XT_init_0 : decode b_XT_init 0 = .ok (.aload_n 0, 1) := by decide +kernel
theorem d_XT_init_1 : decode b_XT_init 1 = .ok (.invokespecial 3, 3) := by decide +kernel
theorem d_XT_init_4 : decode b_XT_init 4 = .ok (.aload_n 0, 1) := by decide +kernel
theorem d_XT_init_5 : decode b_XT_init 5 = .ok (.bipush 60, 2) := by decide +kernel
theorem d_XT_init_7 : decode b_XT_init 7 = .ok (.newarray .int, 2) := by decide +kernel
theorem d_XT_init_9 : decode b_XT_init 9 = .ok (.putfield 9, 3) := by decide +kernel
theorem d_XT_init_12 : decode b_XT_init 12 = .ok (.aload_n 0, 1) := by decide +kernel
theorem d_XT_init_13 : decode b_XT_init 13 = .ok (.bipush 60, 2) := by decide +kernel
theorem d_XT_init_15 : decode b_XT_init 15 = .ok (.newarray .int, 2) := by decide +kernel
theorem d_XT_init_17 : decode b_XT_init 17 = .ok (.putfield 15, 3) := by decide +kernel
theorem d_XT_init_20 : decode b_XT_init 20 = .ok (.aload_n 0, 1) := by decide +kernel
theorem d_XT_init_21 : decode b_XT_init 21 = .ok (.bipush 60, 2) := by decide +kernel
theorem d_XT_init_23 : decode b_XT_init 23 = .ok (.newarray .int, 2) := by decide +kernel
theorem d_XT_init_25 : decode b_XT_init 25 = .ok (.putfield 18, 3) := by decide +kernel
theorem d_XT_init_28 : decode b_XT_init 28 = .ok (.aload_n 0, 1) := by decide +kernel
theorem d_XT_init_29 : decode b_XT_init 29 = .ok (.bipush 60, 2) := by decide +kernel
theorem d_XT_init_31 : decode b_XT_init 31 = .ok (.newarray .boolean, 2) := by decide +kernel
theorem d_XT_init_33 : decode b_XT_init 33 = .ok (.putfield 21, 3) := by decide +kernel
theorem d_XT_init_36 : decode b_XT_init 36 = .ok (.return_, 1) := by decide +kernel
def wp_XT_init (post : ((Nat) × (Nat) × (Nat) × (Nat) × (Nat → Int32) × (Nat → Int32) × (Nat → Int32) × (Nat → Int32) × (Int32)) → Prop) : Prop := (∀ q_1 : Nat, (∀ q_2 : Nat, (∀ q_3 : Nat, (∀ q_4 : Nat, post (q_1, q_2, q_3, q_4, (fun _ => (0 : Int32)), (fun _ => (0 : Int32)), (fun _ => (0 : Int32)), (fun _ => (0 : Int32)), (0 : Int32))))))
set_option maxHeartbeats 4000000 in
set_option maxRecDepth 100000 in
theorem c_XT_init (l : Launch) (hl9 : l.stackTraces = false) (dC : Nat → ClassId) (dI : Nat → Nat → Nat) (cI cJ cZ : ClassId) (q_0 : Nat) (post : ((Nat) × (Nat) × (Nat) × (Nat) × (Nat → Int32) × (Nat → Int32) × (Nat → Int32) × (Nat → Int32) × (Int32)) → Prop) (hw : wp_XT_init post) : Kv l y_XT_init b_XT_init 1 none ({ frames := 1, cells := 4, slots := 240, locals := 22 } : Room) dC dI cI cJ cZ [.ref q_0] [(q_0, .inr (2, [.null, .null, .null, .null, .int (0 : Int32)]))] post (fun u : (Nat) × (Nat) × (Nat) × (Nat) × (Nat → Int32) × (Nat → Int32) × (Nat → Int32) × (Nat → Int32) × (Int32) => [(q_0, .inr (2, [.ref u.1, .ref u.2.1, .ref u.2.2.1, .ref u.2.2.2.1, .int u.2.2.2.2.2.2.2.2])), (u.1, .inl (cI, 60, .inl u.2.2.2.2.1)), (u.2.1, .inl (cI, 60, .inl u.2.2.2.2.2.1)), (u.2.2.1, .inl (cI, 60, .inl u.2.2.2.2.2.2.1)), (u.2.2.2.1, .inl (cZ, 60, .inl u.2.2.2.2.2.2.2.1))]) := by
  refine mkv hl9 (own := R_XT) rfl (by decide) ?_
  intro p e s m args below meth c A C0 hnm eav hP hD
  obtain ⟨-, hx, hb, hml, hr, hown, hts, hlocks, hK, hZ, hA, hNS⟩ := id C0
  subst eav
  have hS : va_S A s.heap s.heap [] := va_S.rf
  have hl := lv_entry ([.ref q_0]) (n := 1) (Nat.le_of_ble_eq_true rfl)
  rw [lg_entry_eq]
  generalize (lg_sl ([.ref q_0]) ++ List.replicate (1 - (lg_sl ([.ref q_0])).length) Slot.unset).toArray = ls at hl ⊢
  have hl : lv_has ls 1 [(0, .ref q_0)] := hl
  unfold wp_XT_init at hw
  refine lv_aload_n hx hb d_XT_init_0 rfl (lv_at hl 0 rfl) ?_
  refine W.objInit hx hb hown (hts _ k_19) (hts _ k_1) (hts _ k_2) rfl (by rw [hml]; exact hl.1) rfl d_XT_init_1 (Nat.le_of_ble_eq_true rfl) (Nat.le_of_ble_eq_true rfl) ?_
  refine W.eq (g2 := F0 m 4 _ []) rfl ?_
  refine lv_aload_n hx hb d_XT_init_4 rfl (lv_at hl 0 rfl) ?_
  refine lv_bipush (v := (60 : Int32)) hx hb d_XT_init_5 (by decide) ?_
  refine nwaI C0 k_7 hP hD hS (N9 := 60) (by decide) (by decide) (by decide) (by decide) (by decide) d_XT_init_7 (fun q_1 H hP hD hS => ?_)
  have hw := hw q_1
  have hP : va_P (dC, dI) classes [(q_0, .inr (2, [.null, .null, .null, .null, .int (0 : Int32)])), (q_1, .inl (cI, 60, .inl (fun _ => (0 : Int32))))] H := hP
  have hD : va_D A [(q_0, .inr (2, [.null, .null, .null, .null, .int (0 : Int32)])), (q_1, .inl (cI, 60, .inl (fun _ => (0 : Int32))))] := hD
  refine va_putF (D := (dC, dI)) (ci := 2) (v := .ref q_1) (ty := (.array .int)) (C := R_XT) (T := F_XT) (N := 5) hx hb hts i_XT t_XT t_XT_ok n_XT hown hK hP hD hS 0 rfl rfl 0 (by decide) (hts _ k_20) (fun _ h9 => h9) rfl hnm rfl (by decide +kernel) rfl rfl (Nat.le_of_ble_eq_true rfl) d_XT_init_9 (fun H locs hP hD hS => ?_)
  have hP : va_P (dC, dI) classes [(q_0, .inr (2, [.ref q_1, .null, .null, .null, .int (0 : Int32)])), (q_1, .inl (cI, 60, .inl (fun _ => (0 : Int32))))] H := hP
  have hD : va_D A [(q_0, .inr (2, [.ref q_1, .null, .null, .null, .int (0 : Int32)])), (q_1, .inl (cI, 60, .inl (fun _ => (0 : Int32))))] := hD
  refine lv_aload_n hx hb d_XT_init_12 rfl (lv_at hl 0 rfl) ?_
  refine lv_bipush (v := (60 : Int32)) hx hb d_XT_init_13 (by decide) ?_
  refine nwaI C0 k_7 hP hD hS (N9 := 60) (by decide) (by decide) (by decide) (by decide) (by decide) d_XT_init_15 (fun q_2 H hP hD hS => ?_)
  have hw := hw q_2
  have hP : va_P (dC, dI) classes [(q_0, .inr (2, [.ref q_1, .null, .null, .null, .int (0 : Int32)])), (q_1, .inl (cI, 60, .inl (fun _ => (0 : Int32)))), (q_2, .inl (cI, 60, .inl (fun _ => (0 : Int32))))] H := hP
  have hD : va_D A [(q_0, .inr (2, [.ref q_1, .null, .null, .null, .int (0 : Int32)])), (q_1, .inl (cI, 60, .inl (fun _ => (0 : Int32)))), (q_2, .inl (cI, 60, .inl (fun _ => (0 : Int32))))] := hD
  refine va_putF (D := (dC, dI)) (ci := 2) (v := .ref q_2) (ty := (.array .int)) (C := R_XT) (T := F_XT) (N := 5) hx hb hts i_XT t_XT t_XT_ok n_XT hown hK hP hD hS 0 rfl rfl 1 (by decide) (hts _ k_21) (fun _ h9 => h9) rfl hnm rfl (by decide +kernel) rfl rfl (Nat.le_of_ble_eq_true rfl) d_XT_init_17 (fun H locs hP hD hS => ?_)
  have hP : va_P (dC, dI) classes [(q_0, .inr (2, [.ref q_1, .ref q_2, .null, .null, .int (0 : Int32)])), (q_1, .inl (cI, 60, .inl (fun _ => (0 : Int32)))), (q_2, .inl (cI, 60, .inl (fun _ => (0 : Int32))))] H := hP
  have hD : va_D A [(q_0, .inr (2, [.ref q_1, .ref q_2, .null, .null, .int (0 : Int32)])), (q_1, .inl (cI, 60, .inl (fun _ => (0 : Int32)))), (q_2, .inl (cI, 60, .inl (fun _ => (0 : Int32))))] := hD
  refine lv_aload_n hx hb d_XT_init_20 rfl (lv_at hl 0 rfl) ?_
  refine lv_bipush (v := (60 : Int32)) hx hb d_XT_init_21 (by decide) ?_
  refine nwaI C0 k_7 hP hD hS (N9 := 60) (by decide) (by decide) (by decide) (by decide) (by decide) d_XT_init_23 (fun q_3 H hP hD hS => ?_)
  have hw := hw q_3
  have hP : va_P (dC, dI) classes [(q_0, .inr (2, [.ref q_1, .ref q_2, .null, .null, .int (0 : Int32)])), (q_1, .inl (cI, 60, .inl (fun _ => (0 : Int32)))), (q_2, .inl (cI, 60, .inl (fun _ => (0 : Int32)))), (q_3, .inl (cI, 60, .inl (fun _ => (0 : Int32))))] H := hP
  have hD : va_D A [(q_0, .inr (2, [.ref q_1, .ref q_2, .null, .null, .int (0 : Int32)])), (q_1, .inl (cI, 60, .inl (fun _ => (0 : Int32)))), (q_2, .inl (cI, 60, .inl (fun _ => (0 : Int32)))), (q_3, .inl (cI, 60, .inl (fun _ => (0 : Int32))))] := hD
  refine va_putF (D := (dC, dI)) (ci := 2) (v := .ref q_3) (ty := (.array .int)) (C := R_XT) (T := F_XT) (N := 5) hx hb hts i_XT t_XT t_XT_ok n_XT hown hK hP hD hS 0 rfl rfl 2 (by decide) (hts _ k_22) (fun _ h9 => h9) rfl hnm rfl (by decide +kernel) rfl rfl (Nat.le_of_ble_eq_true rfl) d_XT_init_25 (fun H locs hP hD hS => ?_)
  have hP : va_P (dC, dI) classes [(q_0, .inr (2, [.ref q_1, .ref q_2, .ref q_3, .null, .int (0 : Int32)])), (q_1, .inl (cI, 60, .inl (fun _ => (0 : Int32)))), (q_2, .inl (cI, 60, .inl (fun _ => (0 : Int32)))), (q_3, .inl (cI, 60, .inl (fun _ => (0 : Int32))))] H := hP
  have hD : va_D A [(q_0, .inr (2, [.ref q_1, .ref q_2, .ref q_3, .null, .int (0 : Int32)])), (q_1, .inl (cI, 60, .inl (fun _ => (0 : Int32)))), (q_2, .inl (cI, 60, .inl (fun _ => (0 : Int32)))), (q_3, .inl (cI, 60, .inl (fun _ => (0 : Int32))))] := hD
  refine lv_aload_n hx hb d_XT_init_28 rfl (lv_at hl 0 rfl) ?_
  refine lv_bipush (v := (60 : Int32)) hx hb d_XT_init_29 (by decide) ?_
  refine nwaZ C0 k_23 hP hD hS (N9 := 60) (by decide) (by decide) (by decide) (by decide) (by decide) d_XT_init_31 (fun q_4 H hP hD hS => ?_)
  have hw := hw q_4
  have hP : va_P (dC, dI) classes [(q_0, .inr (2, [.ref q_1, .ref q_2, .ref q_3, .null, .int (0 : Int32)])), (q_1, .inl (cI, 60, .inl (fun _ => (0 : Int32)))), (q_2, .inl (cI, 60, .inl (fun _ => (0 : Int32)))), (q_3, .inl (cI, 60, .inl (fun _ => (0 : Int32)))), (q_4, .inl (cZ, 60, .inl (fun _ => (0 : Int32))))] H := hP
  have hD : va_D A [(q_0, .inr (2, [.ref q_1, .ref q_2, .ref q_3, .null, .int (0 : Int32)])), (q_1, .inl (cI, 60, .inl (fun _ => (0 : Int32)))), (q_2, .inl (cI, 60, .inl (fun _ => (0 : Int32)))), (q_3, .inl (cI, 60, .inl (fun _ => (0 : Int32)))), (q_4, .inl (cZ, 60, .inl (fun _ => (0 : Int32))))] := hD
  refine va_putF (D := (dC, dI)) (ci := 2) (v := .ref q_4) (ty := (.array .boolean)) (C := R_XT) (T := F_XT) (N := 5) hx hb hts i_XT t_XT t_XT_ok n_XT hown hK hP hD hS 0 rfl rfl 3 (by decide) (hts _ k_24) (fun _ h9 => h9) rfl hnm rfl (by decide +kernel) rfl rfl (Nat.le_of_ble_eq_true rfl) d_XT_init_33 (fun H locs hP hD hS => ?_)
  have hP : va_P (dC, dI) classes [(q_0, .inr (2, [.ref q_1, .ref q_2, .ref q_3, .ref q_4, .int (0 : Int32)])), (q_1, .inl (cI, 60, .inl (fun _ => (0 : Int32)))), (q_2, .inl (cI, 60, .inl (fun _ => (0 : Int32)))), (q_3, .inl (cI, 60, .inl (fun _ => (0 : Int32)))), (q_4, .inl (cZ, 60, .inl (fun _ => (0 : Int32))))] H := hP
  have hD : va_D A [(q_0, .inr (2, [.ref q_1, .ref q_2, .ref q_3, .ref q_4, .int (0 : Int32)])), (q_1, .inl (cI, 60, .inl (fun _ => (0 : Int32)))), (q_2, .inl (cI, 60, .inl (fun _ => (0 : Int32)))), (q_3, .inl (cI, 60, .inl (fun _ => (0 : Int32)))), (q_4, .inl (cZ, 60, .inl (fun _ => (0 : Int32))))] := hD
  exact rt_v (u := (q_1, q_2, q_3, q_4, (fun _ => (0 : Int32)), (fun _ => (0 : Int32)), (fun _ => (0 : Int32)), (fun _ => (0 : Int32)), (0 : Int32))) C0 hw hP hD hS (by decide) (by decide) d_XT_init_36
theorem d_XR_init_0 : decode b_XR_init 0 = .ok (.aload_n 0, 1) := by decide +kernel
theorem d_XR_init_1 : decode b_XR_init 1 = .ok (.invokespecial 3, 3) := by decide +kernel
theorem d_XR_init_4 : decode b_XR_init 4 = .ok (.aload_n 0, 1) := by decide +kernel
theorem d_XR_init_5 : decode b_XR_init 5 = .ok (.bipush 30, 2) := by decide +kernel
theorem d_XR_init_7 : decode b_XR_init 7 = .ok (.newarray .int, 2) := by decide +kernel
theorem d_XR_init_9 : decode b_XR_init 9 = .ok (.putfield 9, 3) := by decide +kernel
theorem d_XR_init_12 : decode b_XR_init 12 = .ok (.aload_n 0, 1) := by decide +kernel
theorem d_XR_init_13 : decode b_XR_init 13 = .ok (.bipush 30, 2) := by decide +kernel
theorem d_XR_init_15 : decode b_XR_init 15 = .ok (.newarray .int, 2) := by decide +kernel
theorem d_XR_init_17 : decode b_XR_init 17 = .ok (.putfield 15, 3) := by decide +kernel
theorem d_XR_init_20 : decode b_XR_init 20 = .ok (.aload_n 0, 1) := by decide +kernel
theorem d_XR_init_21 : decode b_XR_init 21 = .ok (.bipush 30, 2) := by decide +kernel
theorem d_XR_init_23 : decode b_XR_init 23 = .ok (.newarray .int, 2) := by decide +kernel
theorem d_XR_init_25 : decode b_XR_init 25 = .ok (.putfield 18, 3) := by decide +kernel
theorem d_XR_init_28 : decode b_XR_init 28 = .ok (.aload_n 0, 1) := by decide +kernel
theorem d_XR_init_29 : decode b_XR_init 29 = .ok (.bipush 30, 2) := by decide +kernel
theorem d_XR_init_31 : decode b_XR_init 31 = .ok (.newarray .int, 2) := by decide +kernel
theorem d_XR_init_33 : decode b_XR_init 33 = .ok (.putfield 21, 3) := by decide +kernel
theorem d_XR_init_36 : decode b_XR_init 36 = .ok (.return_, 1) := by decide +kernel
def wp_XR_init (post : ((Nat) × (Nat) × (Nat) × (Nat) × (Nat → Int32) × (Nat → Int32) × (Nat → Int32) × (Nat → Int32) × (Int32) × (Int32)) → Prop) : Prop := (∀ q_1 : Nat, (∀ q_2 : Nat, (∀ q_3 : Nat, (∀ q_4 : Nat, post (q_1, q_2, q_3, q_4, (fun _ => (0 : Int32)), (fun _ => (0 : Int32)), (fun _ => (0 : Int32)), (fun _ => (0 : Int32)), (0 : Int32), (0 : Int32))))))
set_option maxHeartbeats 4000000 in
set_option maxRecDepth 100000 in
theorem c_XR_init (l : Launch) (hl9 : l.stackTraces = false) (dC : Nat → ClassId) (dI : Nat → Nat → Nat) (cI cJ cZ : ClassId) (q_0 : Nat) (post : ((Nat) × (Nat) × (Nat) × (Nat) × (Nat → Int32) × (Nat → Int32) × (Nat → Int32) × (Nat → Int32) × (Int32) × (Int32)) → Prop) (hw : wp_XR_init post) : Kv l y_XR_init b_XR_init 1 none ({ frames := 1, cells := 4, slots := 120, locals := 22 } : Room) dC dI cI cJ cZ [.ref q_0] [(q_0, .inr (3, [.null, .null, .null, .null, .int (0 : Int32), .int (0 : Int32)]))] post (fun u : (Nat) × (Nat) × (Nat) × (Nat) × (Nat → Int32) × (Nat → Int32) × (Nat → Int32) × (Nat → Int32) × (Int32) × (Int32) => [(q_0, .inr (3, [.ref u.1, .ref u.2.1, .ref u.2.2.1, .ref u.2.2.2.1, .int u.2.2.2.2.2.2.2.2.1, .int u.2.2.2.2.2.2.2.2.2])), (u.1, .inl (cI, 30, .inl u.2.2.2.2.1)), (u.2.1, .inl (cI, 30, .inl u.2.2.2.2.2.1)), (u.2.2.1, .inl (cI, 30, .inl u.2.2.2.2.2.2.1)), (u.2.2.2.1, .inl (cI, 30, .inl u.2.2.2.2.2.2.2.1))]) := by
  refine mkv hl9 (own := R_XR) rfl (by decide) ?_
  intro p e s m args below meth c A C0 hnm eav hP hD
  obtain ⟨-, hx, hb, hml, hr, hown, hts, hlocks, hK, hZ, hA, hNS⟩ := id C0
  subst eav
  have hS : va_S A s.heap s.heap [] := va_S.rf
  have hl := lv_entry ([.ref q_0]) (n := 1) (Nat.le_of_ble_eq_true rfl)
  rw [lg_entry_eq]
  generalize (lg_sl ([.ref q_0]) ++ List.replicate (1 - (lg_sl ([.ref q_0])).length) Slot.unset).toArray = ls at hl ⊢
  have hl : lv_has ls 1 [(0, .ref q_0)] := hl
  unfold wp_XR_init at hw
  refine lv_aload_n hx hb d_XR_init_0 rfl (lv_at hl 0 rfl) ?_
  refine W.objInit hx hb hown (hts _ k_31) (hts _ k_1) (hts _ k_2) rfl (by rw [hml]; exact hl.1) rfl d_XR_init_1 (Nat.le_of_ble_eq_true rfl) (Nat.le_of_ble_eq_true rfl) ?_
  refine W.eq (g2 := F0 m 4 _ []) rfl ?_
  refine lv_aload_n hx hb d_XR_init_4 rfl (lv_at hl 0 rfl) ?_
  refine lv_bipush (v := (30 : Int32)) hx hb d_XR_init_5 (by decide) ?_
  refine nwaI C0 k_7 hP hD hS (N9 := 30) (by decide) (by decide) (by decide) (by decide) (by decide) d_XR_init_7 (fun q_1 H hP hD hS => ?_)
  have hw := hw q_1
  have hP : va_P (dC, dI) classes [(q_0, .inr (3, [.null, .null, .null, .null, .int (0 : Int32), .int (0 : Int32)])), (q_1, .inl (cI, 30, .inl (fun _ => (0 : Int32))))] H := hP
  have hD : va_D A [(q_0, .inr (3, [.null, .null, .null, .null, .int (0 : Int32), .int (0 : Int32)])), (q_1, .inl (cI, 30, .inl (fun _ => (0 : Int32))))] := hD
  refine va_putF (D := (dC, dI)) (ci := 3) (v := .ref q_1) (ty := (.array .int)) (C := R_XR) (T := F_XR) (N := 6) hx hb hts i_XR t_XR t_XR_ok n_XR hown hK hP hD hS 0 rfl rfl 0 (by decide) (hts _ k_32) (fun _ h9 => h9) rfl hnm rfl (by decide +kernel) rfl rfl (Nat.le_of_ble_eq_true rfl) d_XR_init_9 (fun H locs hP hD hS => ?_)
  have hP : va_P (dC, dI) classes [(q_0, .inr (3, [.ref q_1, .null, .null, .null, .int (0 : Int32), .int (0 : Int32)])), (q_1, .inl (cI, 30, .inl (fun _ => (0 : Int32))))] H := hP
  have hD : va_D A [(q_0, .inr (3, [.ref q_1, .null, .null, .null, .int (0 : Int32), .int (0 : Int32)])), (q_1, .inl (cI, 30, .inl (fun _ => (0 : Int32))))] := hD
  refine lv_aload_n hx hb d_XR_init_12 rfl (lv_at hl 0 rfl) ?_
  refine lv_bipush (v := (30 : Int32)) hx hb d_XR_init_13 (by decide) ?_
  refine nwaI C0 k_7 hP hD hS (N9 := 30) (by decide) (by decide) (by decide) (by decide) (by decide) d_XR_init_15 (fun q_2 H hP hD hS => ?_)
  have hw := hw q_2
  have hP : va_P (dC, dI) classes [(q_0, .inr (3, [.ref q_1, .null, .null, .null, .int (0 : Int32), .int (0 : Int32)])), (q_1, .inl (cI, 30, .inl (fun _ => (0 : Int32)))), (q_2, .inl (cI, 30, .inl (fun _ => (0 : Int32))))] H := hP
  have hD : va_D A [(q_0, .inr (3, [.ref q_1, .null, .null, .null, .int (0 : Int32), .int (0 : Int32)])), (q_1, .inl (cI, 30, .inl (fun _ => (0 : Int32)))), (q_2, .inl (cI, 30, .inl (fun _ => (0 : Int32))))] := hD
  refine va_putF (D := (dC, dI)) (ci := 3) (v := .ref q_2) (ty := (.array .int)) (C := R_XR) (T := F_XR) (N := 6) hx hb hts i_XR t_XR t_XR_ok n_XR hown hK hP hD hS 0 rfl rfl 1 (by decide) (hts _ k_33) (fun _ h9 => h9) rfl hnm rfl (by decide +kernel) rfl rfl (Nat.le_of_ble_eq_true rfl) d_XR_init_17 (fun H locs hP hD hS => ?_)
  have hP : va_P (dC, dI) classes [(q_0, .inr (3, [.ref q_1, .ref q_2, .null, .null, .int (0 : Int32), .int (0 : Int32)])), (q_1, .inl (cI, 30, .inl (fun _ => (0 : Int32)))), (q_2, .inl (cI, 30, .inl (fun _ => (0 : Int32))))] H := hP
  have hD : va_D A [(q_0, .inr (3, [.ref q_1, .ref q_2, .null, .null, .int (0 : Int32), .int (0 : Int32)])), (q_1, .inl (cI, 30, .inl (fun _ => (0 : Int32)))), (q_2, .inl (cI, 30, .inl (fun _ => (0 : Int32))))] := hD
  refine lv_aload_n hx hb d_XR_init_20 rfl (lv_at hl 0 rfl) ?_
  refine lv_bipush (v := (30 : Int32)) hx hb d_XR_init_21 (by decide) ?_
  refine nwaI C0 k_7 hP hD hS (N9 := 30) (by decide) (by decide) (by decide) (by decide) (by decide) d_XR_init_23 (fun q_3 H hP hD hS => ?_)
  have hw := hw q_3
  have hP : va_P (dC, dI) classes [(q_0, .inr (3, [.ref q_1, .ref q_2, .null, .null, .int (0 : Int32), .int (0 : Int32)])), (q_1, .inl (cI, 30, .inl (fun _ => (0 : Int32)))), (q_2, .inl (cI, 30, .inl (fun _ => (0 : Int32)))), (q_3, .inl (cI, 30, .inl (fun _ => (0 : Int32))))] H := hP
  have hD : va_D A [(q_0, .inr (3, [.ref q_1, .ref q_2, .null, .null, .int (0 : Int32), .int (0 : Int32)])), (q_1, .inl (cI, 30, .inl (fun _ => (0 : Int32)))), (q_2, .inl (cI, 30, .inl (fun _ => (0 : Int32)))), (q_3, .inl (cI, 30, .inl (fun _ => (0 : Int32))))] := hD
  refine va_putF (D := (dC, dI)) (ci := 3) (v := .ref q_3) (ty := (.array .int)) (C := R_XR) (T := F_XR) (N := 6) hx hb hts i_XR t_XR t_XR_ok n_XR hown hK hP hD hS 0 rfl rfl 2 (by decide) (hts _ k_34) (fun _ h9 => h9) rfl hnm rfl (by decide +kernel) rfl rfl (Nat.le_of_ble_eq_true rfl) d_XR_init_25 (fun H locs hP hD hS => ?_)
  have hP : va_P (dC, dI) classes [(q_0, .inr (3, [.ref q_1, .ref q_2, .ref q_3, .null, .int (0 : Int32), .int (0 : Int32)])), (q_1, .inl (cI, 30, .inl (fun _ => (0 : Int32)))), (q_2, .inl (cI, 30, .inl (fun _ => (0 : Int32)))), (q_3, .inl (cI, 30, .inl (fun _ => (0 : Int32))))] H := hP
  have hD : va_D A [(q_0, .inr (3, [.ref q_1, .ref q_2, .ref q_3, .null, .int (0 : Int32), .int (0 : Int32)])), (q_1, .inl (cI, 30, .inl (fun _ => (0 : Int32)))), (q_2, .inl (cI, 30, .inl (fun _ => (0 : Int32)))), (q_3, .inl (cI, 30, .inl (fun _ => (0 : Int32))))] := hD
  refine lv_aload_n hx hb d_XR_init_28 rfl (lv_at hl 0 rfl) ?_
  refine lv_bipush (v := (30 : Int32)) hx hb d_XR_init_29 (by decide) ?_
  refine nwaI C0 k_7 hP hD hS (N9 := 30) (by decide) (by decide) (by decide) (by decide) (by decide) d_XR_init_31 (fun q_4 H hP hD hS => ?_)
  have hw := hw q_4
  have hP : va_P (dC, dI) classes [(q_0, .inr (3, [.ref q_1, .ref q_2, .ref q_3, .null, .int (0 : Int32), .int (0 : Int32)])), (q_1, .inl (cI, 30, .inl (fun _ => (0 : Int32)))), (q_2, .inl (cI, 30, .inl (fun _ => (0 : Int32)))), (q_3, .inl (cI, 30, .inl (fun _ => (0 : Int32)))), (q_4, .inl (cI, 30, .inl (fun _ => (0 : Int32))))] H := hP
  have hD : va_D A [(q_0, .inr (3, [.ref q_1, .ref q_2, .ref q_3, .null, .int (0 : Int32), .int (0 : Int32)])), (q_1, .inl (cI, 30, .inl (fun _ => (0 : Int32)))), (q_2, .inl (cI, 30, .inl (fun _ => (0 : Int32)))), (q_3, .inl (cI, 30, .inl (fun _ => (0 : Int32)))), (q_4, .inl (cI, 30, .inl (fun _ => (0 : Int32))))] := hD
  refine va_putF (D := (dC, dI)) (ci := 3) (v := .ref q_4) (ty := (.array .int)) (C := R_XR) (T := F_XR) (N := 6) hx hb hts i_XR t_XR t_XR_ok n_XR hown hK hP hD hS 0 rfl rfl 3 (by decide) (hts _ k_35) (fun _ h9 => h9) rfl hnm rfl (by decide +kernel) rfl rfl (Nat.le_of_ble_eq_true rfl) d_XR_init_33 (fun H locs hP hD hS => ?_)
  have hP : va_P (dC, dI) classes [(q_0, .inr (3, [.ref q_1, .ref q_2, .ref q_3, .ref q_4, .int (0 : Int32), .int (0 : Int32)])), (q_1, .inl (cI, 30, .inl (fun _ => (0 : Int32)))), (q_2, .inl (cI, 30, .inl (fun _ => (0 : Int32)))), (q_3, .inl (cI, 30, .inl (fun _ => (0 : Int32)))), (q_4, .inl (cI, 30, .inl (fun _ => (0 : Int32))))] H := hP
  have hD : va_D A [(q_0, .inr (3, [.ref q_1, .ref q_2, .ref q_3, .ref q_4, .int (0 : Int32), .int (0 : Int32)])), (q_1, .inl (cI, 30, .inl (fun _ => (0 : Int32)))), (q_2, .inl (cI, 30, .inl (fun _ => (0 : Int32)))), (q_3, .inl (cI, 30, .inl (fun _ => (0 : Int32)))), (q_4, .inl (cI, 30, .inl (fun _ => (0 : Int32))))] := hD
  exact rt_v (u := (q_1, q_2, q_3, q_4, (fun _ => (0 : Int32)), (fun _ => (0 : Int32)), (fun _ => (0 : Int32)), (fun _ => (0 : Int32)), (0 : Int32), (0 : Int32))) C0 hw hP hD hS (by decide) (by decide) d_XR_init_36
theorem d_JA_fill_aIIV_0 : decode b_JA_fill_aIIV 0 = .ok (.iconst 0, 1) := by decide +kernel
theorem d_JA_fill_aIIV_1 : decode b_JA_fill_aIIV 1 = .ok (.istore_n 2, 1) := by decide +kernel
theorem d_JA_fill_aIIV_2 : decode b_JA_fill_aIIV 2 = .ok (.aload_n 0, 1) := by decide +kernel
theorem d_JA_fill_aIIV_3 : decode b_JA_fill_aIIV 3 = .ok (.arraylength, 1) := by decide +kernel
theorem d_JA_fill_aIIV_4 : decode b_JA_fill_aIIV 4 = .ok (.istore_n 3, 1) := by decide +kernel
theorem d_JA_fill_aIIV_5 : decode b_JA_fill_aIIV 5 = .ok (.iload_n 2, 1) := by decide +kernel
theorem d_JA_fill_aIIV_6 : decode b_JA_fill_aIIV 6 = .ok (.iload_n 3, 1) := by decide +kernel
theorem d_JA_fill_aIIV_7 : decode b_JA_fill_aIIV 7 = .ok (.if_icmp .ge 13, 3) := by decide +kernel
theorem d_JA_fill_aIIV_10 : decode b_JA_fill_aIIV 10 = .ok (.aload_n 0, 1) := by decide +kernel
theorem d_JA_fill_aIIV_11 : decode b_JA_fill_aIIV 11 = .ok (.iload_n 2, 1) := by decide +kernel
theorem d_JA_fill_aIIV_12 : decode b_JA_fill_aIIV 12 = .ok (.iload_n 1, 1) := by decide +kernel
theorem d_JA_fill_aIIV_13 : decode b_JA_fill_aIIV 13 = .ok (.iastore, 1) := by decide +kernel
theorem d_JA_fill_aIIV_14 : decode b_JA_fill_aIIV 14 = .ok (.iinc 2 1, 3) := by decide +kernel
theorem d_JA_fill_aIIV_17 : decode b_JA_fill_aIIV 17 = .ok (.goto (-12), 3) := by decide +kernel
theorem d_JA_fill_aIIV_20 : decode b_JA_fill_aIIV 20 = .ok (.return_, 1) := by decide +kernel
def gl_JA_fill_aIIV_5 (p : Program) (l : Launch) (e : Env) (s : State) (m : MethodId) (args : Array Value) (below : List Frame) (meth : Method) (c : Code) (R : Room) (A : Nat → Prop) (Q : State → Prop) (dC : Nat → ClassId) (dI : Nat → Nat → Nat) (cI cJ cZ : ClassId) (q_p0 : Nat) (n_p0 : Nat) (l_1 : Int32) (l_2 : Int32) (l_3 : Int32) (v_p0 : Nat → Int32) : Prop :=
  ∀ (H : Heap) (locs : List Loc), va_P (dC, dI) classes [(q_p0, .inl (cI, n_p0, .inl v_p0))] H → va_D A [(q_p0, .inl (cI, n_p0, .inl v_p0))] → va_S A s.heap H locs → ∀ ls : Array Slot, lv_has ls 4 [(0, .ref q_p0), (1, .int l_1), (2, .int l_2), (3, .int l_3)] → W p l e R s m args below meth c H locs 0 0 Q (F0 m 5 ls [])
def wp_JA_fill_aIIV_5 (post : (Nat → Int32) → Prop) (n_p0 : Nat) : Nat → Int32 → Int32 → Int32 → (Nat → Int32) → Prop
  | 0 => fun _ _ _ _ => False
  | n_5 + 1 => fun l_1 l_2 l_3 v_p0 => ((l_3 ≤ l_2 → post v_p0) ∧ (¬ (l_3 ≤ l_2) → (vp_in l_2 n_p0 ∧ (∀ f_4 : Nat → Int32, f_4 = upd v_p0 l_2.toNatClampNeg l_1 → (∀ x_5 : Int32, x_5 = l_2 + (1 : Int32) → (wp_JA_fill_aIIV_5 post n_p0 n_5) l_1 x_5 l_3 f_4)))))
set_option maxHeartbeats 4000000 in
set_option maxRecDepth 100000 in
theorem t_JA_fill_aIIV_5 {p : Program} {l : Launch} {e : Env} {s : State} {m : MethodId} {args : Array Value} {below : List Frame} {meth : Method} {c : Code} {dC : Nat → ClassId} {dI : Nat → Nat → Nat} {cI cJ cZ : ClassId} {A : Nat → Prop} {q_p0 : Nat} {n_p0 : Nat} {post : (Nat → Int32) → Prop} (C0 : cxM b_JA_fill_aIIV 4 none R_JA l dC dI cI cJ cZ A p s m args meth c) : ∀ (n_5 : Nat) (l_1 : Int32) (l_2 : Int32) (l_3 : Int32) (v_p0 : Nat → Int32), wp_JA_fill_aIIV_5 post n_p0 n_5 l_1 l_2 l_3 v_p0 → gl_JA_fill_aIIV_5 p l e s m args below meth c ({ frames := 0, cells := 0, slots := 0, locals := 0 } : Room) A (Qv below args s A dC dI cI cJ cZ ({ frames := 0, cells := 0, slots := 0, locals := 0 } : Room) post (fun u : (Nat → Int32) => [(q_p0, .inl (cI, n_p0, .inl u))])) dC dI cI cJ cZ q_p0 n_p0 l_1 l_2 l_3 v_p0 := by
  obtain ⟨hl9, hx, hb, hml, hr, hown, hts, hlocks, hK, hZ, hA, hNS⟩ := id C0
  intro n_5
  induction n_5 with
  | zero => intro _ _ _ _ hw; exact hw.elim
  | succ n_5 ih =>
    intro l_1 l_2 l_3 v_p0 hw H locs hP hD hS ls hl
    refine lv_iload_n hx hb d_JA_fill_aIIV_5 rfl (lv_at hl 2 rfl) ?_
    refine lv_iload_n hx hb d_JA_fill_aIIV_6 rfl (lv_at hl 3 rfl) ?_
    refine lv_icmp_ge (tgt := 20) hx hb d_JA_fill_aIIV_7 (by decide) (fun c_2 => ?_) (fun c_2 => ?_)
    · have hw := hw.1 c_2
      exact rt_v (u := v_p0) C0 hw hP hD hS (by decide) (by decide) d_JA_fill_aIIV_20
    · have hw := hw.2 c_2
      refine lv_aload_n hx hb d_JA_fill_aIIV_10 rfl (lv_at hl 0 rfl) ?_
      refine lv_iload_n hx hb d_JA_fill_aIIV_11 rfl (lv_at hl 2 rfl) ?_
      refine lv_iload_n hx hb d_JA_fill_aIIV_12 rfl (lv_at hl 1 rfl) ?_
      obtain ⟨h_3, hw⟩ := hw
      refine va_iast hx hb hK hP hD hS 0 0 rfl rfl h_3 d_JA_fill_aIIV_13 (fun H locs hP hD hS => ?_)
      obtain ⟨f_4, ef_4⟩ : ∃ g : Nat → Int32, g = upd v_p0 l_2.toNatClampNeg l_1 := ⟨_, rfl⟩
      have hw := hw f_4 ef_4
      have hP : va_P (dC, dI) classes [(q_p0, .inl (cI, n_p0, .inl f_4))] H := by rw [ef_4]; exact hP
      have hD : va_D A [(q_p0, .inl (cI, n_p0, .inl f_4))] := by rw [ef_4]; exact hD
      obtain ⟨x_5, ex_5⟩ : ∃ y : Int32, y = l_2 + (1 : Int32) := ⟨_, rfl⟩
      have hw := hw x_5 ex_5
      refine lv_iinc (v := x_5) (lv' := [(2, .int x_5), (0, .ref q_p0), (1, .int l_1), (3, .int l_3)]) hx hb d_JA_fill_aIIV_14 hl (k := 2) rfl (by rw [ex_5]; rfl) (by decide) rfl (fun ls hl => ?_)
      refine lv_goto (tgt := 5) hx hb d_JA_fill_aIIV_17 (by decide) ?_
      exact ih l_1 x_5 l_3 f_4 hw _ _ hP hD hS _ (lv_sub hl [1, 2, 0, 3] rfl)
def wp_JA_fill_aIIV (post : (Nat → Int32) → Prop) (n_p0 : Nat) (a_1 : Int32) (v_p0 : Nat → Int32) : Prop := (∀ x_1 : Int32, x_1 = Int32.ofNat n_p0 → ∃ n_5, wp_JA_fill_aIIV_5 post n_p0 n_5 a_1 (0 : Int32) x_1 v_p0)
set_option maxHeartbeats 4000000 in
set_option maxRecDepth 100000 in
theorem c_JA_fill_aIIV (l : Launch) (hl9 : l.stackTraces = false) (dC : Nat → ClassId) (dI : Nat → Nat → Nat) (cI cJ cZ : ClassId) (q_p0 : Nat) (n_p0 : Nat) (a_1 : Int32) (v_p0 : Nat → Int32) (post : (Nat → Int32) → Prop) (hw : wp_JA_fill_aIIV post n_p0 a_1 v_p0) : Kv l y_JA_fill_aIIV b_JA_fill_aIIV 4 none ({ frames := 0, cells := 0, slots := 0, locals := 0 } : Room) dC dI cI cJ cZ [.ref q_p0, .int a_1] [(q_p0, .inl (cI, n_p0, .inl v_p0))] post (fun u : (Nat → Int32) => [(q_p0, .inl (cI, n_p0, .inl u))]) := by
  refine mkv hl9 (own := R_JA) rfl (by decide) ?_
  intro p e s m args below meth c A C0 hnm eav hP hD
  obtain ⟨-, hx, hb, hml, hr, hown, hts, hlocks, hK, hZ, hA, hNS⟩ := id C0
  subst eav
  have hS : va_S A s.heap s.heap [] := va_S.rf
  have hl := lv_entry ([.ref q_p0, .int a_1]) (n := 4) (Nat.le_of_ble_eq_true rfl)
  rw [lg_entry_eq]
  generalize (lg_sl ([.ref q_p0, .int a_1]) ++ List.replicate (4 - (lg_sl ([.ref q_p0, .int a_1])).length) Slot.unset).toArray = ls at hl ⊢
  have hl : lv_has ls 4 [(0, .ref q_p0), (1, .int a_1)] := hl
  unfold wp_JA_fill_aIIV at hw
  refine lv_iconst (v := (0 : Int32)) hx hb d_JA_fill_aIIV_0 (by decide) ?_
  refine lv_istore_n (lv' := [(2, .int (0 : Int32)), (0, .ref q_p0), (1, .int a_1)]) hx hb d_JA_fill_aIIV_1 rfl hl (by decide) rfl (fun ls hl => ?_)
  refine lv_aload_n hx hb d_JA_fill_aIIV_2 rfl (lv_at hl 1 rfl) ?_
  refine va_alen hx hb hK hP 0 0 rfl rfl (v := Int32.ofNat n_p0) rfl d_JA_fill_aIIV_3 ?_
  refine lv_topi (fun x_1 ex_1 => ?_)
  have hw := hw x_1 ex_1
  refine lv_istore_n (lv' := [(3, .int x_1), (2, .int (0 : Int32)), (0, .ref q_p0), (1, .int a_1)]) hx hb d_JA_fill_aIIV_4 rfl hl (by decide) rfl (fun ls hl => ?_)
  obtain ⟨n_5, hw⟩ := hw
  exact t_JA_fill_aIIV_5 (post := post) C0 n_5 a_1 (0 : Int32) x_1 v_p0 hw _ _ hP hD hS _ (lv_sub hl [2, 3, 1, 0] rfl)
theorem d_XS_open_0 : decode b_XS_open 0 = .ok (.aload_n 0, 1) := by decide +kernel
theorem d_XS_open_1 : decode b_XS_open 1 = .ok (.getfield 27, 3) := by decide +kernel
theorem d_XS_open_4 : decode b_XS_open 4 = .ok (.istore_n 2, 1) := by decide +kernel
theorem d_XS_open_5 : decode b_XS_open 5 = .ok (.aload_n 0, 1) := by decide +kernel
theorem d_XS_open_6 : decode b_XS_open 6 = .ok (.getfield 9, 3) := by decide +kernel
theorem d_XS_open_9 : decode b_XS_open 9 = .ok (.iload_n 2, 1) := by decide +kernel
theorem d_XS_open_10 : decode b_XS_open 10 = .ok (.iload_n 1, 1) := by decide +kernel
theorem d_XS_open_11 : decode b_XS_open 11 = .ok (.iastore, 1) := by decide +kernel
theorem d_XS_open_12 : decode b_XS_open 12 = .ok (.aload_n 0, 1) := by decide +kernel
theorem d_XS_open_13 : decode b_XS_open 13 = .ok (.getfield 15, 3) := by decide +kernel
theorem d_XS_open_16 : decode b_XS_open 16 = .ok (.iload_n 2, 1) := by decide +kernel
theorem d_XS_open_17 : decode b_XS_open 17 = .ok (.iconst 1, 1) := by decide +kernel
theorem d_XS_open_18 : decode b_XS_open 18 = .ok (.iastore, 1) := by decide +kernel
theorem d_XS_open_19 : decode b_XS_open 19 = .ok (.aload_n 0, 1) := by decide +kernel
theorem d_XS_open_20 : decode b_XS_open 20 = .ok (.getfield 18, 3) := by decide +kernel
theorem d_XS_open_23 : decode b_XS_open 23 = .ok (.iload_n 2, 1) := by decide +kernel
theorem d_XS_open_24 : decode b_XS_open 24 = .ok (.iconst 1, 1) := by decide +kernel
theorem d_XS_open_25 : decode b_XS_open 25 = .ok (.iastore, 1) := by decide +kernel
theorem d_XS_open_26 : decode b_XS_open 26 = .ok (.aload_n 0, 1) := by decide +kernel
theorem d_XS_open_27 : decode b_XS_open 27 = .ok (.getfield 21, 3) := by decide +kernel
theorem d_XS_open_30 : decode b_XS_open 30 = .ok (.iload_n 2, 1) := by decide +kernel
theorem d_XS_open_31 : decode b_XS_open 31 = .ok (.iload_n 1, 1) := by decide +kernel
theorem d_XS_open_32 : decode b_XS_open 32 = .ok (.iastore, 1) := by decide +kernel
theorem d_XS_open_33 : decode b_XS_open 33 = .ok (.aload_n 0, 1) := by decide +kernel
theorem d_XS_open_34 : decode b_XS_open 34 = .ok (.dup, 1) := by decide +kernel
theorem d_XS_open_35 : decode b_XS_open 35 = .ok (.getfield 27, 3) := by decide +kernel
theorem d_XS_open_38 : decode b_XS_open 38 = .ok (.iconst 1, 1) := by decide +kernel
theorem d_XS_open_39 : decode b_XS_open 39 = .ok (.iadd, 1) := by decide +kernel
theorem d_XS_open_40 : decode b_XS_open 40 = .ok (.putfield 27, 3) := by decide +kernel
theorem d_XS_open_43 : decode b_XS_open 43 = .ok (.iload_n 2, 1) := by decide +kernel
theorem d_XS_open_44 : decode b_XS_open 44 = .ok (.ireturn, 1) := by decide +kernel
def wp_XS_open (post : Int32 → ((Nat → Int32) × (Nat → Int32) × (Nat → Int32) × (Nat → Int32) × (Int32)) → Prop) (a_1 : Int32) (v_places : Nat → Int32) (v_above : Nat → Int32) (v_below : Nat → Int32) (v_most : Nat → Int32) (v_made : Int32) : Prop := (vp_in v_made 8 ∧ (∀ f_2 : Nat → Int32, f_2 = upd v_places v_made.toNatClampNeg a_1 → (vp_in v_made 8 ∧ (∀ f_4 : Nat → Int32, f_4 = upd v_above v_made.toNatClampNeg (1 : Int32) → (vp_in v_made 8 ∧ (∀ f_6 : Nat → Int32, f_6 = upd v_below v_made.toNatClampNeg (1 : Int32) → (vp_in v_made 8 ∧ (∀ f_8 : Nat → Int32, f_8 = upd v_most v_made.toNatClampNeg a_1 → (∀ x_9 : Int32, x_9 = v_made + (1 : Int32) → post v_made (f_2, f_4, f_6, f_8, x_9))))))))))
set_option maxHeartbeats 4000000 in
set_option maxRecDepth 100000 in
theorem c_XS_open (l : Launch) (hl9 : l.stackTraces = false) (dC : Nat → ClassId) (dI : Nat → Nat → Nat) (cI cJ cZ : ClassId) (q_0 q_places q_above q_below q_most q_sold : Nat) (a_1 : Int32) (v_places : Nat → Int32) (v_above : Nat → Int32) (v_below : Nat → Int32) (v_most : Nat → Int32) (v_made : Int32) (post : Int32 → ((Nat → Int32) × (Nat → Int32) × (Nat → Int32) × (Nat → Int32) × (Int32)) → Prop) (hw : wp_XS_open post a_1 v_places v_above v_below v_most v_made) : Ki l y_XS_open b_XS_open 3 (some .int) ({ frames := 0, cells := 0, slots := 0, locals := 0 } : Room) dC dI cI cJ cZ [.ref q_0, .int a_1] [(q_0, .inr (1, [.ref q_places, .ref q_above, .ref q_below, .ref q_most, .ref q_sold, .int v_made])), (q_places, .inl (cI, 8, .inl v_places)), (q_above, .inl (cI, 8, .inl v_above)), (q_below, .inl (cI, 8, .inl v_below)), (q_most, .inl (cI, 8, .inl v_most))] post (fun u : (Nat → Int32) × (Nat → Int32) × (Nat → Int32) × (Nat → Int32) × (Int32) => [(q_0, .inr (1, [.ref q_places, .ref q_above, .ref q_below, .ref q_most, .ref q_sold, .int u.2.2.2.2])), (q_places, .inl (cI, 8, .inl u.1)), (q_above, .inl (cI, 8, .inl u.2.1)), (q_below, .inl (cI, 8, .inl u.2.2.1)), (q_most, .inl (cI, 8, .inl u.2.2.2.1))]) := by
  refine mki hl9 (own := R_XS) rfl (by decide) ?_
  intro p e s m args below meth c A C0 hnm eav hP hD
  obtain ⟨-, hx, hb, hml, hr, hown, hts, hlocks, hK, hZ, hA, hNS⟩ := id C0
  subst eav
  have hS : va_S A s.heap s.heap [] := va_S.rf
  have hl := lv_entry ([.ref q_0, .int a_1]) (n := 3) (Nat.le_of_ble_eq_true rfl)
  rw [lg_entry_eq]
  generalize (lg_sl ([.ref q_0, .int a_1]) ++ List.replicate (3 - (lg_sl ([.ref q_0, .int a_1])).length) Slot.unset).toArray = ls at hl ⊢
  have hl : lv_has ls 3 [(0, .ref q_0), (1, .int a_1)] := hl
  unfold wp_XS_open at hw
  refine lv_aload_n hx hb d_XS_open_0 rfl (lv_at hl 0 rfl) ?_
  refine va_get (D := (dC, dI)) (ci := 1) (v := .int v_made) (C := R_XS) (T := F_XS) (N := 6) hx hb hts i_XS hown hK hP 0 rfl rfl 5 (by decide) (hts _ k_77) (fun _ h9 => h9) rfl d_XS_open_1 ?_
  refine lv_istore_n (lv' := [(2, .int v_made), (0, .ref q_0), (1, .int a_1)]) hx hb d_XS_open_4 rfl hl (by decide) rfl (fun ls hl => ?_)
  refine lv_aload_n hx hb d_XS_open_5 rfl (lv_at hl 1 rfl) ?_
  refine va_get (D := (dC, dI)) (ci := 1) (v := .ref q_places) (C := R_XS) (T := F_XS) (N := 6) hx hb hts i_XS hown hK hP 0 rfl rfl 0 (by decide) (hts _ k_8) (fun _ h9 => h9) rfl d_XS_open_6 ?_
  refine lv_iload_n hx hb d_XS_open_9 rfl (lv_at hl 0 rfl) ?_
  refine lv_iload_n hx hb d_XS_open_10 rfl (lv_at hl 2 rfl) ?_
  obtain ⟨h_1, hw⟩ := hw
  refine va_iast hx hb hK hP hD hS 1 0 rfl rfl h_1 d_XS_open_11 (fun H locs hP hD hS => ?_)
  obtain ⟨f_2, ef_2⟩ : ∃ g : Nat → Int32, g = upd v_places v_made.toNatClampNeg a_1 := ⟨_, rfl⟩
  have hw := hw f_2 ef_2
  have hP : va_P (dC, dI) classes [(q_0, .inr (1, [.ref q_places, .ref q_above, .ref q_below, .ref q_most, .ref q_sold, .int v_made])), (q_places, .inl (cI, 8, .inl f_2)), (q_above, .inl (cI, 8, .inl v_above)), (q_below, .inl (cI, 8, .inl v_below)), (q_most, .inl (cI, 8, .inl v_most))] H := by rw [ef_2]; exact hP
  have hD : va_D A [(q_0, .inr (1, [.ref q_places, .ref q_above, .ref q_below, .ref q_most, .ref q_sold, .int v_made])), (q_places, .inl (cI, 8, .inl f_2)), (q_above, .inl (cI, 8, .inl v_above)), (q_below, .inl (cI, 8, .inl v_below)), (q_most, .inl (cI, 8, .inl v_most))] := by rw [ef_2]; exact hD
  refine lv_aload_n hx hb d_XS_open_12 rfl (lv_at hl 1 rfl) ?_
  refine va_get (D := (dC, dI)) (ci := 1) (v := .ref q_above) (C := R_XS) (T := F_XS) (N := 6) hx hb hts i_XS hown hK hP 0 rfl rfl 1 (by decide) (hts _ k_9) (fun _ h9 => h9) rfl d_XS_open_13 ?_
  refine lv_iload_n hx hb d_XS_open_16 rfl (lv_at hl 0 rfl) ?_
  refine lv_iconst (v := (1 : Int32)) hx hb d_XS_open_17 (by decide) ?_
  obtain ⟨h_3, hw⟩ := hw
  refine va_iast hx hb hK hP hD hS 2 0 rfl rfl h_3 d_XS_open_18 (fun H locs hP hD hS => ?_)
  obtain ⟨f_4, ef_4⟩ : ∃ g : Nat → Int32, g = upd v_above v_made.toNatClampNeg (1 : Int32) := ⟨_, rfl⟩
  have hw := hw f_4 ef_4
  have hP : va_P (dC, dI) classes [(q_0, .inr (1, [.ref q_places, .ref q_above, .ref q_below, .ref q_most, .ref q_sold, .int v_made])), (q_places, .inl (cI, 8, .inl f_2)), (q_above, .inl (cI, 8, .inl f_4)), (q_below, .inl (cI, 8, .inl v_below)), (q_most, .inl (cI, 8, .inl v_most))] H := by rw [ef_4]; exact hP
  have hD : va_D A [(q_0, .inr (1, [.ref q_places, .ref q_above, .ref q_below, .ref q_most, .ref q_sold, .int v_made])), (q_places, .inl (cI, 8, .inl f_2)), (q_above, .inl (cI, 8, .inl f_4)), (q_below, .inl (cI, 8, .inl v_below)), (q_most, .inl (cI, 8, .inl v_most))] := by rw [ef_4]; exact hD
  refine lv_aload_n hx hb d_XS_open_19 rfl (lv_at hl 1 rfl) ?_
  refine va_get (D := (dC, dI)) (ci := 1) (v := .ref q_below) (C := R_XS) (T := F_XS) (N := 6) hx hb hts i_XS hown hK hP 0 rfl rfl 2 (by decide) (hts _ k_10) (fun _ h9 => h9) rfl d_XS_open_20 ?_
  refine lv_iload_n hx hb d_XS_open_23 rfl (lv_at hl 0 rfl) ?_
  refine lv_iconst (v := (1 : Int32)) hx hb d_XS_open_24 (by decide) ?_
  obtain ⟨h_5, hw⟩ := hw
  refine va_iast hx hb hK hP hD hS 3 0 rfl rfl h_5 d_XS_open_25 (fun H locs hP hD hS => ?_)
  obtain ⟨f_6, ef_6⟩ : ∃ g : Nat → Int32, g = upd v_below v_made.toNatClampNeg (1 : Int32) := ⟨_, rfl⟩
  have hw := hw f_6 ef_6
  have hP : va_P (dC, dI) classes [(q_0, .inr (1, [.ref q_places, .ref q_above, .ref q_below, .ref q_most, .ref q_sold, .int v_made])), (q_places, .inl (cI, 8, .inl f_2)), (q_above, .inl (cI, 8, .inl f_4)), (q_below, .inl (cI, 8, .inl f_6)), (q_most, .inl (cI, 8, .inl v_most))] H := by rw [ef_6]; exact hP
  have hD : va_D A [(q_0, .inr (1, [.ref q_places, .ref q_above, .ref q_below, .ref q_most, .ref q_sold, .int v_made])), (q_places, .inl (cI, 8, .inl f_2)), (q_above, .inl (cI, 8, .inl f_4)), (q_below, .inl (cI, 8, .inl f_6)), (q_most, .inl (cI, 8, .inl v_most))] := by rw [ef_6]; exact hD
  refine lv_aload_n hx hb d_XS_open_26 rfl (lv_at hl 1 rfl) ?_
  refine va_get (D := (dC, dI)) (ci := 1) (v := .ref q_most) (C := R_XS) (T := F_XS) (N := 6) hx hb hts i_XS hown hK hP 0 rfl rfl 3 (by decide) (hts _ k_11) (fun _ h9 => h9) rfl d_XS_open_27 ?_
  refine lv_iload_n hx hb d_XS_open_30 rfl (lv_at hl 0 rfl) ?_
  refine lv_iload_n hx hb d_XS_open_31 rfl (lv_at hl 2 rfl) ?_
  obtain ⟨h_7, hw⟩ := hw
  refine va_iast hx hb hK hP hD hS 4 0 rfl rfl h_7 d_XS_open_32 (fun H locs hP hD hS => ?_)
  obtain ⟨f_8, ef_8⟩ : ∃ g : Nat → Int32, g = upd v_most v_made.toNatClampNeg a_1 := ⟨_, rfl⟩
  have hw := hw f_8 ef_8
  have hP : va_P (dC, dI) classes [(q_0, .inr (1, [.ref q_places, .ref q_above, .ref q_below, .ref q_most, .ref q_sold, .int v_made])), (q_places, .inl (cI, 8, .inl f_2)), (q_above, .inl (cI, 8, .inl f_4)), (q_below, .inl (cI, 8, .inl f_6)), (q_most, .inl (cI, 8, .inl f_8))] H := by rw [ef_8]; exact hP
  have hD : va_D A [(q_0, .inr (1, [.ref q_places, .ref q_above, .ref q_below, .ref q_most, .ref q_sold, .int v_made])), (q_places, .inl (cI, 8, .inl f_2)), (q_above, .inl (cI, 8, .inl f_4)), (q_below, .inl (cI, 8, .inl f_6)), (q_most, .inl (cI, 8, .inl f_8))] := by rw [ef_8]; exact hD
  refine lv_aload_n hx hb d_XS_open_33 rfl (lv_at hl 1 rfl) ?_
  refine lv_dup hx hb d_XS_open_34 rfl ?_
  refine va_get (D := (dC, dI)) (ci := 1) (v := .int v_made) (C := R_XS) (T := F_XS) (N := 6) hx hb hts i_XS hown hK hP 0 rfl rfl 5 (by decide) (hts _ k_77) (fun _ h9 => h9) rfl d_XS_open_35 ?_
  refine lv_iconst (v := (1 : Int32)) hx hb d_XS_open_38 (by decide) ?_
  refine lv_iadd hx hb d_XS_open_39 ?_
  refine lv_topi (fun x_9 ex_9 => ?_)
  have hw := hw x_9 ex_9
  refine va_put (D := (dC, dI)) (ci := 1) (v := .int x_9) (ty := .int) (C := R_XS) (T := F_XS) (N := 6) hx hb hts i_XS t_XS t_XS_ok n_XS hown hK hP hD hS 0 rfl rfl 5 (by decide) (hts _ k_77) (fun _ h9 => h9) rfl (by decide +kernel) rfl rfl (Nat.le_of_ble_eq_true rfl) d_XS_open_40 (fun H locs hP hD hS => ?_)
  have hP : va_P (dC, dI) classes [(q_0, .inr (1, [.ref q_places, .ref q_above, .ref q_below, .ref q_most, .ref q_sold, .int x_9])), (q_places, .inl (cI, 8, .inl f_2)), (q_above, .inl (cI, 8, .inl f_4)), (q_below, .inl (cI, 8, .inl f_6)), (q_most, .inl (cI, 8, .inl f_8))] H := hP
  have hD : va_D A [(q_0, .inr (1, [.ref q_places, .ref q_above, .ref q_below, .ref q_most, .ref q_sold, .int x_9])), (q_places, .inl (cI, 8, .inl f_2)), (q_above, .inl (cI, 8, .inl f_4)), (q_below, .inl (cI, 8, .inl f_6)), (q_most, .inl (cI, 8, .inl f_8))] := hD
  refine lv_iload_n hx hb d_XS_open_43 rfl (lv_at hl 0 rfl) ?_
  exact rt_i (u := (f_2, f_4, f_6, f_8, x_9)) C0 hw hP hD hS (by decide) (by decide) d_XS_open_44
theorem d_JA_fill_aJJV_0 : decode b_JA_fill_aJJV 0 = .ok (.iconst 0, 1) := by decide +kernel
theorem d_JA_fill_aJJV_1 : decode b_JA_fill_aJJV 1 = .ok (.istore_n 3, 1) := by decide +kernel
theorem d_JA_fill_aJJV_2 : decode b_JA_fill_aJJV 2 = .ok (.aload_n 0, 1) := by decide +kernel
theorem d_JA_fill_aJJV_3 : decode b_JA_fill_aJJV 3 = .ok (.arraylength, 1) := by decide +kernel
theorem d_JA_fill_aJJV_4 : decode b_JA_fill_aJJV 4 = .ok (.istore 4, 2) := by decide +kernel
theorem d_JA_fill_aJJV_6 : decode b_JA_fill_aJJV 6 = .ok (.iload_n 3, 1) := by decide +kernel
theorem d_JA_fill_aJJV_7 : decode b_JA_fill_aJJV 7 = .ok (.iload 4, 2) := by decide +kernel
theorem d_JA_fill_aJJV_9 : decode b_JA_fill_aJJV 9 = .ok (.if_icmp .ge 13, 3) := by decide +kernel
theorem d_JA_fill_aJJV_12 : decode b_JA_fill_aJJV 12 = .ok (.aload_n 0, 1) := by decide +kernel
theorem d_JA_fill_aJJV_13 : decode b_JA_fill_aJJV 13 = .ok (.iload_n 3, 1) := by decide +kernel
theorem d_JA_fill_aJJV_14 : decode b_JA_fill_aJJV 14 = .ok (.lload_n 1, 1) := by decide +kernel
theorem d_JA_fill_aJJV_15 : decode b_JA_fill_aJJV 15 = .ok (.lastore, 1) := by decide +kernel
theorem d_JA_fill_aJJV_16 : decode b_JA_fill_aJJV 16 = .ok (.iinc 3 1, 3) := by decide +kernel
theorem d_JA_fill_aJJV_19 : decode b_JA_fill_aJJV 19 = .ok (.goto (-13), 3) := by decide +kernel
theorem d_JA_fill_aJJV_22 : decode b_JA_fill_aJJV 22 = .ok (.return_, 1) := by decide +kernel
def gl_JA_fill_aJJV_6 (p : Program) (l : Launch) (e : Env) (s : State) (m : MethodId) (args : Array Value) (below : List Frame) (meth : Method) (c : Code) (R : Room) (A : Nat → Prop) (Q : State → Prop) (dC : Nat → ClassId) (dI : Nat → Nat → Nat) (cI cJ cZ : ClassId) (q_p0 : Nat) (n_p0 : Nat) (l_1 : Int64) (l_3 : Int32) (l_4 : Int32) (v_p0 : Nat → Int64) : Prop :=
  ∀ (H : Heap) (locs : List Loc), va_P (dC, dI) classes [(q_p0, .inl (cJ, n_p0, .inr (.inl v_p0)))] H → va_D A [(q_p0, .inl (cJ, n_p0, .inr (.inl v_p0)))] → va_S A s.heap H locs → ∀ ls : Array Slot, lv_has ls 5 [(0, .ref q_p0), (1, .long l_1), (3, .int l_3), (4, .int l_4)] → W p l e R s m args below meth c H locs 0 0 Q (F0 m 6 ls [])
def wp_JA_fill_aJJV_6 (post : (Nat → Int64) → Prop) (n_p0 : Nat) : Nat → Int64 → Int32 → Int32 → (Nat → Int64) → Prop
  | 0 => fun _ _ _ _ => False
  | n_6 + 1 => fun l_1 l_3 l_4 v_p0 => ((l_4 ≤ l_3 → post v_p0) ∧ (¬ (l_4 ≤ l_3) → (vp_in l_3 n_p0 ∧ (∀ f_4 : Nat → Int64, f_4 = vp_updL v_p0 l_3.toNatClampNeg l_1 → (∀ x_5 : Int32, x_5 = l_3 + (1 : Int32) → (wp_JA_fill_aJJV_6 post n_p0 n_6) l_1 x_5 l_4 f_4)))))
set_option maxHeartbeats 4000000 in
set_option maxRecDepth 100000 in
theorem t_JA_fill_aJJV_6 {p : Program} {l : Launch} {e : Env} {s : State} {m : MethodId} {args : Array Value} {below : List Frame} {meth : Method} {c : Code} {dC : Nat → ClassId} {dI : Nat → Nat → Nat} {cI cJ cZ : ClassId} {A : Nat → Prop} {q_p0 : Nat} {n_p0 : Nat} {post : (Nat → Int64) → Prop} (C0 : cxM b_JA_fill_aJJV 5 none R_JA l dC dI cI cJ cZ A p s m args meth c) : ∀ (n_6 : Nat) (l_1 : Int64) (l_3 : Int32) (l_4 : Int32) (v_p0 : Nat → Int64), wp_JA_fill_aJJV_6 post n_p0 n_6 l_1 l_3 l_4 v_p0 → gl_JA_fill_aJJV_6 p l e s m args below meth c ({ frames := 0, cells := 0, slots := 0, locals := 0 } : Room) A (Qv below args s A dC dI cI cJ cZ ({ frames := 0, cells := 0, slots := 0, locals := 0 } : Room) post (fun u : (Nat → Int64) => [(q_p0, .inl (cJ, n_p0, .inr (.inl u)))])) dC dI cI cJ cZ q_p0 n_p0 l_1 l_3 l_4 v_p0 := by
  obtain ⟨hl9, hx, hb, hml, hr, hown, hts, hlocks, hK, hZ, hA, hNS⟩ := id C0
  intro n_6
  induction n_6 with
  | zero => intro _ _ _ _ hw; exact hw.elim
  | succ n_6 ih =>
    intro l_1 l_3 l_4 v_p0 hw H locs hP hD hS ls hl
    refine lv_iload_n hx hb d_JA_fill_aJJV_6 rfl (lv_at hl 2 rfl) ?_
    refine lv_iload hx hb d_JA_fill_aJJV_7 (lv_at hl 3 rfl) ?_
    refine lv_icmp_ge (tgt := 22) hx hb d_JA_fill_aJJV_9 (by decide) (fun c_2 => ?_) (fun c_2 => ?_)
    · have hw := hw.1 c_2
      exact rt_v (u := v_p0) C0 hw hP hD hS (by decide) (by decide) d_JA_fill_aJJV_22
    · have hw := hw.2 c_2
      refine lv_aload_n hx hb d_JA_fill_aJJV_12 rfl (lv_at hl 0 rfl) ?_
      refine lv_iload_n hx hb d_JA_fill_aJJV_13 rfl (lv_at hl 2 rfl) ?_
      refine lv_lload_n hx hb d_JA_fill_aJJV_14 rfl (lv_at hl 1 rfl) ?_
      obtain ⟨h_3, hw⟩ := hw
      refine va_last hx hb hK hP hD hS 0 1 rfl rfl h_3 d_JA_fill_aJJV_15 (fun H locs hP hD hS => ?_)
      obtain ⟨f_4, ef_4⟩ : ∃ g : Nat → Int64, g = vp_updL v_p0 l_3.toNatClampNeg l_1 := ⟨_, rfl⟩
      have hw := hw f_4 ef_4
      have hP : va_P (dC, dI) classes [(q_p0, .inl (cJ, n_p0, .inr (.inl f_4)))] H := by rw [ef_4]; exact hP
      have hD : va_D A [(q_p0, .inl (cJ, n_p0, .inr (.inl f_4)))] := by rw [ef_4]; exact hD
      obtain ⟨x_5, ex_5⟩ : ∃ y : Int32, y = l_3 + (1 : Int32) := ⟨_, rfl⟩
      have hw := hw x_5 ex_5
      refine lv_iinc (v := x_5) (lv' := [(3, .int x_5), (0, .ref q_p0), (1, .long l_1), (4, .int l_4)]) hx hb d_JA_fill_aJJV_16 hl (k := 2) rfl (by rw [ex_5]; rfl) (by decide) rfl (fun ls hl => ?_)
      refine lv_goto (tgt := 6) hx hb d_JA_fill_aJJV_19 (by decide) ?_
      exact ih l_1 x_5 l_4 f_4 hw _ _ hP hD hS _ (lv_sub hl [1, 2, 0, 3] rfl)
def wp_JA_fill_aJJV (post : (Nat → Int64) → Prop) (n_p0 : Nat) (a_1 : Int64) (v_p0 : Nat → Int64) : Prop := (∀ x_1 : Int32, x_1 = Int32.ofNat n_p0 → ∃ n_6, wp_JA_fill_aJJV_6 post n_p0 n_6 a_1 (0 : Int32) x_1 v_p0)
set_option maxHeartbeats 4000000 in
set_option maxRecDepth 100000 in
theorem c_JA_fill_aJJV (l : Launch) (hl9 : l.stackTraces = false) (dC : Nat → ClassId) (dI : Nat → Nat → Nat) (cI cJ cZ : ClassId) (q_p0 : Nat) (n_p0 : Nat) (a_1 : Int64) (v_p0 : Nat → Int64) (post : (Nat → Int64) → Prop) (hw : wp_JA_fill_aJJV post n_p0 a_1 v_p0) : Kv l y_JA_fill_aJJV b_JA_fill_aJJV 5 none ({ frames := 0, cells := 0, slots := 0, locals := 0 } : Room) dC dI cI cJ cZ [.ref q_p0, .long a_1] [(q_p0, .inl (cJ, n_p0, .inr (.inl v_p0)))] post (fun u : (Nat → Int64) => [(q_p0, .inl (cJ, n_p0, .inr (.inl u)))]) := by
  refine mkv hl9 (own := R_JA) rfl (by decide) ?_
  intro p e s m args below meth c A C0 hnm eav hP hD
  obtain ⟨-, hx, hb, hml, hr, hown, hts, hlocks, hK, hZ, hA, hNS⟩ := id C0
  subst eav
  have hS : va_S A s.heap s.heap [] := va_S.rf
  have hl := lv_entry ([.ref q_p0, .long a_1]) (n := 5) (Nat.le_of_ble_eq_true rfl)
  rw [lg_entry_eq]
  generalize (lg_sl ([.ref q_p0, .long a_1]) ++ List.replicate (5 - (lg_sl ([.ref q_p0, .long a_1])).length) Slot.unset).toArray = ls at hl ⊢
  have hl : lv_has ls 5 [(0, .ref q_p0), (1, .long a_1)] := hl
  unfold wp_JA_fill_aJJV at hw
  refine lv_iconst (v := (0 : Int32)) hx hb d_JA_fill_aJJV_0 (by decide) ?_
  refine lv_istore_n (lv' := [(3, .int (0 : Int32)), (0, .ref q_p0), (1, .long a_1)]) hx hb d_JA_fill_aJJV_1 rfl hl (by decide) rfl (fun ls hl => ?_)
  refine lv_aload_n hx hb d_JA_fill_aJJV_2 rfl (lv_at hl 1 rfl) ?_
  refine va_alen hx hb hK hP 0 1 rfl rfl (v := Int32.ofNat n_p0) rfl d_JA_fill_aJJV_3 ?_
  refine lv_topi (fun x_1 ex_1 => ?_)
  have hw := hw x_1 ex_1
  refine lv_istore (lv' := [(4, .int x_1), (3, .int (0 : Int32)), (0, .ref q_p0), (1, .long a_1)]) hx hb d_JA_fill_aJJV_4 hl (by decide) rfl (fun ls hl => ?_)
  obtain ⟨n_6, hw⟩ := hw
  exact t_JA_fill_aJJV_6 (post := post) C0 n_6 a_1 (0 : Int32) x_1 v_p0 hw _ _ hP hD hS _ (lv_sub hl [2, 3, 1, 0] rfl)
theorem d_JM_floorDiv_0 : decode b_JM_floorDiv 0 = .ok (.lload_n 0, 1) := by decide +kernel
theorem d_JM_floorDiv_1 : decode b_JM_floorDiv 1 = .ok (.lload_n 2, 1) := by decide +kernel
theorem d_JM_floorDiv_2 : decode b_JM_floorDiv 2 = .ok (.ldiv, 1) := by decide +kernel
theorem d_JM_floorDiv_3 : decode b_JM_floorDiv 3 = .ok (.lstore 4, 2) := by decide +kernel
theorem d_JM_floorDiv_5 : decode b_JM_floorDiv 5 = .ok (.lload_n 0, 1) := by decide +kernel
theorem d_JM_floorDiv_6 : decode b_JM_floorDiv 6 = .ok (.lload_n 2, 1) := by decide +kernel
theorem d_JM_floorDiv_7 : decode b_JM_floorDiv 7 = .ok (.lxor, 1) := by decide +kernel
theorem d_JM_floorDiv_8 : decode b_JM_floorDiv 8 = .ok (.lconst 0, 1) := by decide +kernel
theorem d_JM_floorDiv_9 : decode b_JM_floorDiv 9 = .ok (.lcmp, 1) := by decide +kernel
theorem d_JM_floorDiv_10 : decode b_JM_floorDiv 10 = .ok (.ifCond .ge 17, 3) := by decide +kernel
theorem d_JM_floorDiv_13 : decode b_JM_floorDiv 13 = .ok (.lload 4, 2) := by decide +kernel
theorem d_JM_floorDiv_15 : decode b_JM_floorDiv 15 = .ok (.lload_n 2, 1) := by decide +kernel
theorem d_JM_floorDiv_16 : decode b_JM_floorDiv 16 = .ok (.lmul, 1) := by decide +kernel
theorem d_JM_floorDiv_17 : decode b_JM_floorDiv 17 = .ok (.lload_n 0, 1) := by decide +kernel
theorem d_JM_floorDiv_18 : decode b_JM_floorDiv 18 = .ok (.lcmp, 1) := by decide +kernel
theorem d_JM_floorDiv_19 : decode b_JM_floorDiv 19 = .ok (.ifCond .eq 8, 3) := by decide +kernel
theorem d_JM_floorDiv_22 : decode b_JM_floorDiv 22 = .ok (.lload 4, 2) := by decide +kernel
theorem d_JM_floorDiv_24 : decode b_JM_floorDiv 24 = .ok (.lconst 1, 1) := by decide +kernel
theorem d_JM_floorDiv_25 : decode b_JM_floorDiv 25 = .ok (.lsub, 1) := by decide +kernel
theorem d_JM_floorDiv_26 : decode b_JM_floorDiv 26 = .ok (.lreturn, 1) := by decide +kernel
theorem d_JM_floorDiv_27 : decode b_JM_floorDiv 27 = .ok (.lload 4, 2) := by decide +kernel
theorem d_JM_floorDiv_29 : decode b_JM_floorDiv 29 = .ok (.lreturn, 1) := by decide +kernel
def wp_JM_floorDiv (post : Int64 → Unit → Prop) (a_0 : Int64) (a_2 : Int64) : Prop := (¬ a_2 = 0 ∧ (∀ x_2 : Int64, x_2 = a_0 / a_2 → (((0 : Int64) ≤ (a_0 ^^^ a_2) → post x_2 ()) ∧ (¬ ((0 : Int64) ≤ (a_0 ^^^ a_2)) → (((x_2 * a_2) = a_0 → post x_2 ()) ∧ (¬ ((x_2 * a_2) = a_0) → post (x_2 - (1 : Int64)) ()))))))
set_option maxHeartbeats 4000000 in
set_option maxRecDepth 100000 in
theorem c_JM_floorDiv (l : Launch) (hl9 : l.stackTraces = false) (dC : Nat → ClassId) (dI : Nat → Nat → Nat) (cI cJ cZ : ClassId) (a_0 : Int64) (a_2 : Int64) (post : Int64 → Unit → Prop) (hw : wp_JM_floorDiv post a_0 a_2) : Kl l y_JM_floorDiv b_JM_floorDiv 6 (some .long) ({ frames := 0, cells := 0, slots := 0, locals := 0 } : Room) dC dI cI cJ cZ [.long a_0, .long a_2] [] post (fun u : Unit => []) := by
  refine mklF hl9 (own := R_JM) rfl (by decide +kernel) ?_
  intro p e s m args below meth c A C0 hnm eav hP hD
  obtain ⟨-, hx, hb, hml, hr, hown, hts, hlocks, hK, hZ, hA, hNS⟩ := id C0
  subst eav
  have hS : va_S A s.heap s.heap [] := va_S.rf
  have hl := lv_entry ([.long a_0, .long a_2]) (n := 6) (Nat.le_of_ble_eq_true rfl)
  rw [lg_entry_eq]
  generalize (lg_sl ([.long a_0, .long a_2]) ++ List.replicate (6 - (lg_sl ([.long a_0, .long a_2])).length) Slot.unset).toArray = ls at hl ⊢
  have hl : lv_has ls 6 [(0, .long a_0), (2, .long a_2)] := hl
  unfold wp_JM_floorDiv at hw
  refine lv_lload_n hx hb d_JM_floorDiv_0 rfl (lv_at hl 0 rfl) ?_
  refine lv_lload_n hx hb d_JM_floorDiv_1 rfl (lv_at hl 1 rfl) ?_
  obtain ⟨h_1, hw⟩ := hw
  refine lv_ldiv hx hb d_JM_floorDiv_2 h_1 ?_
  refine lv_topl (fun x_2 ex_2 => ?_)
  have hw := hw x_2 ex_2
  refine lv_lstore (lv' := [(4, .long x_2), (0, .long a_0), (2, .long a_2)]) hx hb d_JM_floorDiv_3 hl (by decide) rfl (fun ls hl => ?_)
  refine lv_lload_n hx hb d_JM_floorDiv_5 rfl (lv_at hl 1 rfl) ?_
  refine lv_lload_n hx hb d_JM_floorDiv_6 rfl (lv_at hl 2 rfl) ?_
  refine lv_lxor hx hb d_JM_floorDiv_7 ?_
  refine lv_lconst (v := (0 : Int64)) hx hb d_JM_floorDiv_8 (by decide) ?_
  refine W.lcmp hx hb d_JM_floorDiv_9 ?_
  refine lv_if_ge (tgt := 27) hx hb d_JM_floorDiv_10 (by decide) (fun c_3 => ?_) (fun c_3 => ?_)
  · have hw := hw.1 ((lg_cmp_ge _ _).mp c_3)
    refine lv_lload hx hb d_JM_floorDiv_27 (lv_at hl 0 rfl) ?_
    exact rt_l (u := ()) C0 hw hP hD hS (by decide) (by decide) d_JM_floorDiv_29
  · have hw := hw.2 (fun q9 => c_3 ((lg_cmp_ge _ _).mpr q9))
    refine lv_lload hx hb d_JM_floorDiv_13 (lv_at hl 0 rfl) ?_
    refine lv_lload_n hx hb d_JM_floorDiv_15 rfl (lv_at hl 2 rfl) ?_
    refine lv_lmul hx hb d_JM_floorDiv_16 ?_
    refine lv_lload_n hx hb d_JM_floorDiv_17 rfl (lv_at hl 1 rfl) ?_
    refine W.lcmp hx hb d_JM_floorDiv_18 ?_
    refine lv_if_eq (tgt := 27) hx hb d_JM_floorDiv_19 (by decide) (fun c_4 => ?_) (fun c_4 => ?_)
    · have hw := hw.1 ((lg_cmp_eq _ _).mp c_4)
      refine lv_lload hx hb d_JM_floorDiv_27 (lv_at hl 0 rfl) ?_
      exact rt_l (u := ()) C0 hw hP hD hS (by decide) (by decide) d_JM_floorDiv_29
    · have hw := hw.2 (fun q9 => c_4 ((lg_cmp_eq _ _).mpr q9))
      refine lv_lload hx hb d_JM_floorDiv_22 (lv_at hl 0 rfl) ?_
      refine lv_lconst (v := (1 : Int64)) hx hb d_JM_floorDiv_24 (by decide) ?_
      refine lv_lsub hx hb d_JM_floorDiv_25 ?_
      exact rt_l (u := ()) C0 hw hP hD hS (by decide) (by decide) d_JM_floorDiv_26
theorem d_JM_floorMod_0 : decode b_JM_floorMod 0 = .ok (.lload_n 0, 1) := by decide +kernel
theorem d_JM_floorMod_1 : decode b_JM_floorMod 1 = .ok (.lload_n 2, 1) := by decide +kernel
theorem d_JM_floorMod_2 : decode b_JM_floorMod 2 = .ok (.lrem, 1) := by decide +kernel
theorem d_JM_floorMod_3 : decode b_JM_floorMod 3 = .ok (.lstore 4, 2) := by decide +kernel
theorem d_JM_floorMod_5 : decode b_JM_floorMod 5 = .ok (.lload_n 0, 1) := by decide +kernel
theorem d_JM_floorMod_6 : decode b_JM_floorMod 6 = .ok (.lload_n 2, 1) := by decide +kernel
theorem d_JM_floorMod_7 : decode b_JM_floorMod 7 = .ok (.lxor, 1) := by decide +kernel
theorem d_JM_floorMod_8 : decode b_JM_floorMod 8 = .ok (.lconst 0, 1) := by decide +kernel
theorem d_JM_floorMod_9 : decode b_JM_floorMod 9 = .ok (.lcmp, 1) := by decide +kernel
theorem d_JM_floorMod_10 : decode b_JM_floorMod 10 = .ok (.ifCond .ge 15, 3) := by decide +kernel
theorem d_JM_floorMod_13 : decode b_JM_floorMod 13 = .ok (.lload 4, 2) := by decide +kernel
theorem d_JM_floorMod_15 : decode b_JM_floorMod 15 = .ok (.lconst 0, 1) := by decide +kernel
theorem d_JM_floorMod_16 : decode b_JM_floorMod 16 = .ok (.lcmp, 1) := by decide +kernel
theorem d_JM_floorMod_17 : decode b_JM_floorMod 17 = .ok (.ifCond .eq 8, 3) := by decide +kernel
theorem d_JM_floorMod_20 : decode b_JM_floorMod 20 = .ok (.lload 4, 2) := by decide +kernel
theorem d_JM_floorMod_22 : decode b_JM_floorMod 22 = .ok (.lload_n 2, 1) := by decide +kernel
theorem d_JM_floorMod_23 : decode b_JM_floorMod 23 = .ok (.ladd, 1) := by decide +kernel
theorem d_JM_floorMod_24 : decode b_JM_floorMod 24 = .ok (.lreturn, 1) := by decide +kernel
theorem d_JM_floorMod_25 : decode b_JM_floorMod 25 = .ok (.lload 4, 2) := by decide +kernel
theorem d_JM_floorMod_27 : decode b_JM_floorMod 27 = .ok (.lreturn, 1) := by decide +kernel
def wp_JM_floorMod (post : Int64 → Unit → Prop) (a_0 : Int64) (a_2 : Int64) : Prop := (¬ a_2 = 0 ∧ (∀ x_2 : Int64, x_2 = a_0 - a_0 / a_2 * a_2 → (((0 : Int64) ≤ (a_0 ^^^ a_2) → post x_2 ()) ∧ (¬ ((0 : Int64) ≤ (a_0 ^^^ a_2)) → ((x_2 = (0 : Int64) → post x_2 ()) ∧ (¬ (x_2 = (0 : Int64)) → post (x_2 + a_2) ()))))))
set_option maxHeartbeats 4000000 in
set_option maxRecDepth 100000 in
theorem c_JM_floorMod (l : Launch) (hl9 : l.stackTraces = false) (dC : Nat → ClassId) (dI : Nat → Nat → Nat) (cI cJ cZ : ClassId) (a_0 : Int64) (a_2 : Int64) (post : Int64 → Unit → Prop) (hw : wp_JM_floorMod post a_0 a_2) : Kl l y_JM_floorMod b_JM_floorMod 6 (some .long) ({ frames := 0, cells := 0, slots := 0, locals := 0 } : Room) dC dI cI cJ cZ [.long a_0, .long a_2] [] post (fun u : Unit => []) := by
  refine mklF hl9 (own := R_JM) rfl (by decide +kernel) ?_
  intro p e s m args below meth c A C0 hnm eav hP hD
  obtain ⟨-, hx, hb, hml, hr, hown, hts, hlocks, hK, hZ, hA, hNS⟩ := id C0
  subst eav
  have hS : va_S A s.heap s.heap [] := va_S.rf
  have hl := lv_entry ([.long a_0, .long a_2]) (n := 6) (Nat.le_of_ble_eq_true rfl)
  rw [lg_entry_eq]
  generalize (lg_sl ([.long a_0, .long a_2]) ++ List.replicate (6 - (lg_sl ([.long a_0, .long a_2])).length) Slot.unset).toArray = ls at hl ⊢
  have hl : lv_has ls 6 [(0, .long a_0), (2, .long a_2)] := hl
  unfold wp_JM_floorMod at hw
  refine lv_lload_n hx hb d_JM_floorMod_0 rfl (lv_at hl 0 rfl) ?_
  refine lv_lload_n hx hb d_JM_floorMod_1 rfl (lv_at hl 1 rfl) ?_
  obtain ⟨h_1, hw⟩ := hw
  refine lv_lrem hx hb d_JM_floorMod_2 h_1 ?_
  refine lv_topl (fun x_2 ex_2 => ?_)
  have hw := hw x_2 ex_2
  refine lv_lstore (lv' := [(4, .long x_2), (0, .long a_0), (2, .long a_2)]) hx hb d_JM_floorMod_3 hl (by decide) rfl (fun ls hl => ?_)
  refine lv_lload_n hx hb d_JM_floorMod_5 rfl (lv_at hl 1 rfl) ?_
  refine lv_lload_n hx hb d_JM_floorMod_6 rfl (lv_at hl 2 rfl) ?_
  refine lv_lxor hx hb d_JM_floorMod_7 ?_
  refine lv_lconst (v := (0 : Int64)) hx hb d_JM_floorMod_8 (by decide) ?_
  refine W.lcmp hx hb d_JM_floorMod_9 ?_
  refine lv_if_ge (tgt := 25) hx hb d_JM_floorMod_10 (by decide) (fun c_3 => ?_) (fun c_3 => ?_)
  · have hw := hw.1 ((lg_cmp_ge _ _).mp c_3)
    refine lv_lload hx hb d_JM_floorMod_25 (lv_at hl 0 rfl) ?_
    exact rt_l (u := ()) C0 hw hP hD hS (by decide) (by decide) d_JM_floorMod_27
  · have hw := hw.2 (fun q9 => c_3 ((lg_cmp_ge _ _).mpr q9))
    refine lv_lload hx hb d_JM_floorMod_13 (lv_at hl 0 rfl) ?_
    refine lv_lconst (v := (0 : Int64)) hx hb d_JM_floorMod_15 (by decide) ?_
    refine W.lcmp hx hb d_JM_floorMod_16 ?_
    refine lv_if_eq (tgt := 25) hx hb d_JM_floorMod_17 (by decide) (fun c_4 => ?_) (fun c_4 => ?_)
    · have hw := hw.1 ((lg_cmp_eq _ _).mp c_4)
      refine lv_lload hx hb d_JM_floorMod_25 (lv_at hl 0 rfl) ?_
      exact rt_l (u := ()) C0 hw hP hD hS (by decide) (by decide) d_JM_floorMod_27
    · have hw := hw.2 (fun q9 => c_4 ((lg_cmp_eq _ _).mpr q9))
      refine lv_lload hx hb d_JM_floorMod_20 (lv_at hl 0 rfl) ?_
      refine lv_lload_n hx hb d_JM_floorMod_22 rfl (lv_at hl 2 rfl) ?_
      refine lv_ladd hx hb d_JM_floorMod_23 ?_
      exact rt_l (u := ()) C0 hw hP hD hS (by decide) (by decide) d_JM_floorMod_24
theorem d_X_digitOf_0 : decode b_X_digitOf 0 = .ok (.lload_n 0, 1) := by decide +kernel
theorem d_X_digitOf_1 : decode b_X_digitOf 1 = .ok (.lstore_n 3, 1) := by decide +kernel
theorem d_X_digitOf_2 : decode b_X_digitOf 2 = .ok (.iconst 0, 1) := by decide +kernel
theorem d_X_digitOf_3 : decode b_X_digitOf 3 = .ok (.istore 5, 2) := by decide +kernel
theorem d_X_digitOf_5 : decode b_X_digitOf 5 = .ok (.iload 5, 2) := by decide +kernel
theorem d_X_digitOf_7 : decode b_X_digitOf 7 = .ok (.iload_n 2, 1) := by decide +kernel
theorem d_X_digitOf_8 : decode b_X_digitOf 8 = .ok (.if_icmp .ge 15, 3) := by decide +kernel
theorem d_X_digitOf_11 : decode b_X_digitOf 11 = .ok (.lload_n 3, 1) := by decide +kernel
theorem d_X_digitOf_12 : decode b_X_digitOf 12 = .ok (.ldc2_w 270, 3) := by decide +kernel
theorem d_X_digitOf_15 : decode b_X_digitOf 15 = .ok (.ldiv, 1) := by decide +kernel
theorem d_X_digitOf_16 : decode b_X_digitOf 16 = .ok (.lstore_n 3, 1) := by decide +kernel
theorem d_X_digitOf_17 : decode b_X_digitOf 17 = .ok (.iinc 5 1, 3) := by decide +kernel
theorem d_X_digitOf_20 : decode b_X_digitOf 20 = .ok (.goto (-15), 3) := by decide +kernel
theorem d_X_digitOf_23 : decode b_X_digitOf 23 = .ok (.lload_n 3, 1) := by decide +kernel
theorem d_X_digitOf_24 : decode b_X_digitOf 24 = .ok (.ldc2_w 270, 3) := by decide +kernel
theorem d_X_digitOf_27 : decode b_X_digitOf 27 = .ok (.lrem, 1) := by decide +kernel
theorem d_X_digitOf_28 : decode b_X_digitOf 28 = .ok (.l2i, 1) := by decide +kernel
theorem d_X_digitOf_29 : decode b_X_digitOf 29 = .ok (.ireturn, 1) := by decide +kernel
def gl_X_digitOf_5 (p : Program) (l : Launch) (e : Env) (s : State) (m : MethodId) (args : Array Value) (below : List Frame) (meth : Method) (c : Code) (R : Room) (A : Nat → Prop) (Q : State → Prop) (dC : Nat → ClassId) (dI : Nat → Nat → Nat) (cI cJ cZ : ClassId) (l_2 : Int32) (l_3 : Int64) (l_5 : Int32) : Prop :=
  ∀ (H : Heap) (locs : List Loc), va_P (dC, dI) classes [] H → va_D A [] → va_S A s.heap H locs → ∀ ls : Array Slot, lv_has ls 6 [(2, .int l_2), (3, .long l_3), (5, .int l_5)] → W p l e R s m args below meth c H locs 0 0 Q (F0 m 5 ls [])
def wp_X_digitOf_5 (post : Int32 → Unit → Prop) : Nat → Int32 → Int64 → Int32 → Prop
  | 0 => fun _ _ _ => False
  | n_5 + 1 => fun l_2 l_3 l_5 => ((l_2 ≤ l_5 → post ((l_3 - l_3 / (10 : Int64) * (10 : Int64)).toInt32) ()) ∧ (¬ (l_2 ≤ l_5) → (∀ x_2 : Int64, x_2 = l_3 / (10 : Int64) → (∀ x_3 : Int32, x_3 = l_5 + (1 : Int32) → (wp_X_digitOf_5 post n_5) l_2 x_2 x_3))))
set_option maxHeartbeats 4000000 in
set_option maxRecDepth 100000 in
theorem t_X_digitOf_5 {p : Program} {l : Launch} {e : Env} {s : State} {m : MethodId} {args : Array Value} {below : List Frame} {meth : Method} {c : Code} {dC : Nat → ClassId} {dI : Nat → Nat → Nat} {cI cJ cZ : ClassId} {A : Nat → Prop} {post : Int32 → Unit → Prop} (C0 : cxM b_X_digitOf 6 (some .int) R_X l dC dI cI cJ cZ A p s m args meth c) : ∀ (n_5 : Nat) (l_2 : Int32) (l_3 : Int64) (l_5 : Int32), wp_X_digitOf_5 post n_5 l_2 l_3 l_5 → gl_X_digitOf_5 p l e s m args below meth c ({ frames := 0, cells := 0, slots := 0, locals := 0 } : Room) A (Qi below args s A dC dI cI cJ cZ ({ frames := 0, cells := 0, slots := 0, locals := 0 } : Room) post (fun u : Unit => [])) dC dI cI cJ cZ l_2 l_3 l_5 := by
  obtain ⟨hl9, hx, hb, hml, hr, hown, hts, hlocks, hK, hZ, hA, hNS⟩ := id C0
  intro n_5
  induction n_5 with
  | zero => intro _ _ _ hw; exact hw.elim
  | succ n_5 ih =>
    intro l_2 l_3 l_5 hw H locs hP hD hS ls hl
    refine lv_iload hx hb d_X_digitOf_5 (lv_at hl 2 rfl) ?_
    refine lv_iload_n hx hb d_X_digitOf_7 rfl (lv_at hl 0 rfl) ?_
    refine lv_icmp_ge (tgt := 23) hx hb d_X_digitOf_8 (by decide) (fun c_1 => ?_) (fun c_1 => ?_)
    · have hw := hw.1 c_1
      refine lv_lload_n hx hb d_X_digitOf_23 rfl (lv_at hl 1 rfl) ?_
      refine lv_ldc2 (v := (10 : Int64)) hx hb hown (hts _ k_122) d_X_digitOf_24 ?_
      refine lv_lrem hx hb d_X_digitOf_27 (by decide) ?_
      refine lv_l2i hx hb d_X_digitOf_28 rfl ?_
      exact rt_i (u := ()) C0 hw hP hD hS (by decide) (by decide) d_X_digitOf_29
    · have hw := hw.2 c_1
      refine lv_lload_n hx hb d_X_digitOf_11 rfl (lv_at hl 1 rfl) ?_
      refine lv_ldc2 (v := (10 : Int64)) hx hb hown (hts _ k_122) d_X_digitOf_12 ?_
      refine lv_ldiv hx hb d_X_digitOf_15 (by decide) ?_
      refine lv_topl (fun x_2 ex_2 => ?_)
      have hw := hw x_2 ex_2
      refine lv_lstore_n (lv' := [(3, .long x_2), (2, .int l_2), (5, .int l_5)]) hx hb d_X_digitOf_16 rfl hl (by decide) rfl (fun ls hl => ?_)
      obtain ⟨x_3, ex_3⟩ : ∃ y : Int32, y = l_5 + (1 : Int32) := ⟨_, rfl⟩
      have hw := hw x_3 ex_3
      refine lv_iinc (v := x_3) (lv' := [(5, .int x_3), (3, .long x_2), (2, .int l_2)]) hx hb d_X_digitOf_17 hl (k := 2) rfl (by rw [ex_3]; rfl) (by decide) rfl (fun ls hl => ?_)
      refine lv_goto (tgt := 5) hx hb d_X_digitOf_20 (by decide) ?_
      exact ih l_2 x_2 x_3 hw _ _ hP hD hS _ (lv_sub hl [2, 1, 0] rfl)
def wp_X_digitOf (post : Int32 → Unit → Prop) (a_0 : Int64) (a_2 : Int32) : Prop := ∃ n_5, wp_X_digitOf_5 post n_5 a_2 a_0 (0 : Int32)
set_option maxHeartbeats 4000000 in
set_option maxRecDepth 100000 in
theorem c_X_digitOf (l : Launch) (hl9 : l.stackTraces = false) (dC : Nat → ClassId) (dI : Nat → Nat → Nat) (cI cJ cZ : ClassId) (a_0 : Int64) (a_2 : Int32) (post : Int32 → Unit → Prop) (hw : wp_X_digitOf post a_0 a_2) : Ki l y_X_digitOf b_X_digitOf 6 (some .int) ({ frames := 0, cells := 0, slots := 0, locals := 0 } : Room) dC dI cI cJ cZ [.long a_0, .int a_2] [] post (fun u : Unit => []) := by
  refine mki hl9 (own := R_X) rfl (by decide) ?_
  intro p e s m args below meth c A C0 hnm eav hP hD
  obtain ⟨-, hx, hb, hml, hr, hown, hts, hlocks, hK, hZ, hA, hNS⟩ := id C0
  subst eav
  have hS : va_S A s.heap s.heap [] := va_S.rf
  have hl := lv_entry ([.long a_0, .int a_2]) (n := 6) (Nat.le_of_ble_eq_true rfl)
  rw [lg_entry_eq]
  generalize (lg_sl ([.long a_0, .int a_2]) ++ List.replicate (6 - (lg_sl ([.long a_0, .int a_2])).length) Slot.unset).toArray = ls at hl ⊢
  have hl : lv_has ls 6 [(0, .long a_0), (2, .int a_2)] := hl
  unfold wp_X_digitOf at hw
  refine lv_lload_n hx hb d_X_digitOf_0 rfl (lv_at hl 0 rfl) ?_
  refine lv_lstore_n (lv' := [(3, .long a_0), (0, .long a_0), (2, .int a_2)]) hx hb d_X_digitOf_1 rfl hl (by decide) rfl (fun ls hl => ?_)
  refine lv_iconst (v := (0 : Int32)) hx hb d_X_digitOf_2 (by decide) ?_
  refine lv_istore (lv' := [(5, .int (0 : Int32)), (3, .long a_0), (0, .long a_0), (2, .int a_2)]) hx hb d_X_digitOf_3 hl (by decide) rfl (fun ls hl => ?_)
  obtain ⟨n_5, hw⟩ := hw
  exact t_X_digitOf_5 (post := post) C0 n_5 a_2 a_0 (0 : Int32) hw _ _ hP hD hS _ (lv_sub hl [3, 1, 0] rfl)
theorem d_XS_hasRoom_0 : decode b_XS_hasRoom 0 = .ok (.aload_n 0, 1) := by decide +kernel
theorem d_XS_hasRoom_1 : decode b_XS_hasRoom 1 = .ok (.getfield 24, 3) := by decide +kernel
theorem d_XS_hasRoom_4 : decode b_XS_hasRoom 4 = .ok (.iload_n 1, 1) := by decide +kernel
theorem d_XS_hasRoom_5 : decode b_XS_hasRoom 5 = .ok (.iaload, 1) := by decide +kernel
theorem d_XS_hasRoom_6 : decode b_XS_hasRoom 6 = .ok (.iload_n 2, 1) := by decide +kernel
theorem d_XS_hasRoom_7 : decode b_XS_hasRoom 7 = .ok (.iadd, 1) := by decide +kernel
theorem d_XS_hasRoom_8 : decode b_XS_hasRoom 8 = .ok (.aload_n 0, 1) := by decide +kernel
theorem d_XS_hasRoom_9 : decode b_XS_hasRoom 9 = .ok (.getfield 21, 3) := by decide +kernel
theorem d_XS_hasRoom_12 : decode b_XS_hasRoom 12 = .ok (.iload_n 1, 1) := by decide +kernel
theorem d_XS_hasRoom_13 : decode b_XS_hasRoom 13 = .ok (.iaload, 1) := by decide +kernel
theorem d_XS_hasRoom_14 : decode b_XS_hasRoom 14 = .ok (.if_icmp .gt 7, 3) := by decide +kernel
theorem d_XS_hasRoom_17 : decode b_XS_hasRoom 17 = .ok (.iconst 1, 1) := by decide +kernel
theorem d_XS_hasRoom_18 : decode b_XS_hasRoom 18 = .ok (.goto 4, 3) := by decide +kernel
theorem d_XS_hasRoom_21 : decode b_XS_hasRoom 21 = .ok (.iconst 0, 1) := by decide +kernel
theorem d_XS_hasRoom_22 : decode b_XS_hasRoom 22 = .ok (.ireturn, 1) := by decide +kernel
def wp_XS_hasRoom (post : Int32 → Unit → Prop) (a_1 : Int32) (a_2 : Int32) (v_most : Nat → Int32) (v_sold : Nat → Int32) : Prop := (vp_in a_1 8 ∧ (vp_in a_1 8 ∧ (((v_most a_1.toNatClampNeg) < ((v_sold a_1.toNatClampNeg) + a_2) → post (0 : Int32) ()) ∧ (¬ ((v_most a_1.toNatClampNeg) < ((v_sold a_1.toNatClampNeg) + a_2)) → post (1 : Int32) ()))))
set_option maxHeartbeats 4000000 in
set_option maxRecDepth 100000 in
theorem c_XS_hasRoom (l : Launch) (hl9 : l.stackTraces = false) (dC : Nat → ClassId) (dI : Nat → Nat → Nat) (cI cJ cZ : ClassId) (q_0 q_most q_sold q_places q_above q_below : Nat) (a_1 : Int32) (a_2 : Int32) (v_most : Nat → Int32) (v_sold : Nat → Int32) (v_made : Int32) (post : Int32 → Unit → Prop) (hw : wp_XS_hasRoom post a_1 a_2 v_most v_sold) : Ki l y_XS_hasRoom b_XS_hasRoom 3 (some .boolean) ({ frames := 0, cells := 0, slots := 0, locals := 0 } : Room) dC dI cI cJ cZ [.ref q_0, .int a_1, .int a_2] [(q_0, .inr (1, [.ref q_places, .ref q_above, .ref q_below, .ref q_most, .ref q_sold, .int v_made])), (q_most, .inl (cI, 8, .inl v_most)), (q_sold, .inl (cI, 8, .inl v_sold))] post (fun u : Unit => [(q_0, .inr (1, [.ref q_places, .ref q_above, .ref q_below, .ref q_most, .ref q_sold, .int v_made])), (q_most, .inl (cI, 8, .inl v_most)), (q_sold, .inl (cI, 8, .inl v_sold))]) := by
  refine mki hl9 (own := R_XS) rfl (by decide) ?_
  intro p e s m args below meth c A C0 hnm eav hP hD
  obtain ⟨-, hx, hb, hml, hr, hown, hts, hlocks, hK, hZ, hA, hNS⟩ := id C0
  subst eav
  have hS : va_S A s.heap s.heap [] := va_S.rf
  have hl := lv_entry ([.ref q_0, .int a_1, .int a_2]) (n := 3) (Nat.le_of_ble_eq_true rfl)
  rw [lg_entry_eq]
  generalize (lg_sl ([.ref q_0, .int a_1, .int a_2]) ++ List.replicate (3 - (lg_sl ([.ref q_0, .int a_1, .int a_2])).length) Slot.unset).toArray = ls at hl ⊢
  have hl : lv_has ls 3 [(0, .ref q_0), (1, .int a_1), (2, .int a_2)] := hl
  unfold wp_XS_hasRoom at hw
  refine lv_aload_n hx hb d_XS_hasRoom_0 rfl (lv_at hl 0 rfl) ?_
  refine va_get (D := (dC, dI)) (ci := 1) (v := .ref q_sold) (C := R_XS) (T := F_XS) (N := 6) hx hb hts i_XS hown hK hP 0 rfl rfl 4 (by decide) (hts _ k_12) (fun _ h9 => h9) rfl d_XS_hasRoom_1 ?_
  refine lv_iload_n hx hb d_XS_hasRoom_4 rfl (lv_at hl 1 rfl) ?_
  obtain ⟨h_1, hw⟩ := hw
  refine va_iald hx hb hK hP 2 0 rfl rfl h_1 d_XS_hasRoom_5 ?_
  refine lv_iload_n hx hb d_XS_hasRoom_6 rfl (lv_at hl 2 rfl) ?_
  refine lv_iadd hx hb d_XS_hasRoom_7 ?_
  refine lv_aload_n hx hb d_XS_hasRoom_8 rfl (lv_at hl 0 rfl) ?_
  refine va_get (D := (dC, dI)) (ci := 1) (v := .ref q_most) (C := R_XS) (T := F_XS) (N := 6) hx hb hts i_XS hown hK hP 0 rfl rfl 3 (by decide) (hts _ k_11) (fun _ h9 => h9) rfl d_XS_hasRoom_9 ?_
  refine lv_iload_n hx hb d_XS_hasRoom_12 rfl (lv_at hl 1 rfl) ?_
  obtain ⟨h_2, hw⟩ := hw
  refine va_iald hx hb hK hP 1 0 rfl rfl h_2 d_XS_hasRoom_13 ?_
  refine lv_icmp_gt (tgt := 21) hx hb d_XS_hasRoom_14 (by decide) (fun c_3 => ?_) (fun c_3 => ?_)
  · have hw := hw.1 c_3
    refine lv_iconst (v := (0 : Int32)) hx hb d_XS_hasRoom_21 (by decide) ?_
    exact rt_z (u := ()) C0 (by decide) hw hP hD hS (by decide) (by decide) d_XS_hasRoom_22
  · have hw := hw.2 c_3
    refine lv_iconst (v := (1 : Int32)) hx hb d_XS_hasRoom_17 (by decide) ?_
    refine lv_goto (tgt := 22) hx hb d_XS_hasRoom_18 (by decide) ?_
    exact rt_z (u := ()) C0 (by decide) hw hP hD hS (by decide) (by decide) d_XS_hasRoom_22
theorem d_XT_add_0 : decode b_XT_add 0 = .ok (.aload_n 0, 1) := by decide +kernel
theorem d_XT_add_1 : decode b_XT_add 1 = .ok (.getfield 25, 3) := by decide +kernel
theorem d_XT_add_4 : decode b_XT_add 4 = .ok (.istore 4, 2) := by decide +kernel
theorem d_XT_add_6 : decode b_XT_add 6 = .ok (.aload_n 0, 1) := by decide +kernel
theorem d_XT_add_7 : decode b_XT_add 7 = .ok (.getfield 9, 3) := by decide +kernel
theorem d_XT_add_10 : decode b_XT_add 10 = .ok (.iload 4, 2) := by decide +kernel
theorem d_XT_add_12 : decode b_XT_add 12 = .ok (.iload_n 1, 1) := by decide +kernel
theorem d_XT_add_13 : decode b_XT_add 13 = .ok (.iastore, 1) := by decide +kernel
theorem d_XT_add_14 : decode b_XT_add 14 = .ok (.aload_n 0, 1) := by decide +kernel
theorem d_XT_add_15 : decode b_XT_add 15 = .ok (.getfield 15, 3) := by decide +kernel
theorem d_XT_add_18 : decode b_XT_add 18 = .ok (.iload 4, 2) := by decide +kernel
theorem d_XT_add_20 : decode b_XT_add 20 = .ok (.iload_n 2, 1) := by decide +kernel
theorem d_XT_add_21 : decode b_XT_add 21 = .ok (.iastore, 1) := by decide +kernel
theorem d_XT_add_22 : decode b_XT_add 22 = .ok (.aload_n 0, 1) := by decide +kernel
theorem d_XT_add_23 : decode b_XT_add 23 = .ok (.getfield 18, 3) := by decide +kernel
theorem d_XT_add_26 : decode b_XT_add 26 = .ok (.iload 4, 2) := by decide +kernel
theorem d_XT_add_28 : decode b_XT_add 28 = .ok (.iload_n 3, 1) := by decide +kernel
theorem d_XT_add_29 : decode b_XT_add 29 = .ok (.iastore, 1) := by decide +kernel
theorem d_XT_add_30 : decode b_XT_add 30 = .ok (.aload_n 0, 1) := by decide +kernel
theorem d_XT_add_31 : decode b_XT_add 31 = .ok (.dup, 1) := by decide +kernel
theorem d_XT_add_32 : decode b_XT_add 32 = .ok (.getfield 25, 3) := by decide +kernel
theorem d_XT_add_35 : decode b_XT_add 35 = .ok (.iconst 1, 1) := by decide +kernel
theorem d_XT_add_36 : decode b_XT_add 36 = .ok (.iadd, 1) := by decide +kernel
theorem d_XT_add_37 : decode b_XT_add 37 = .ok (.putfield 25, 3) := by decide +kernel
theorem d_XT_add_40 : decode b_XT_add 40 = .ok (.iload 4, 2) := by decide +kernel
theorem d_XT_add_42 : decode b_XT_add 42 = .ok (.ireturn, 1) := by decide +kernel
def wp_XT_add (post : Int32 → ((Nat → Int32) × (Nat → Int32) × (Nat → Int32) × (Int32)) → Prop) (a_1 : Int32) (a_2 : Int32) (a_3 : Int32) (v_slot : Nat → Int32) (v_guests : Nat → Int32) (v_kind : Nat → Int32) (v_made : Int32) : Prop := (vp_in v_made 60 ∧ (∀ f_2 : Nat → Int32, f_2 = upd v_slot v_made.toNatClampNeg a_1 → (vp_in v_made 60 ∧ (∀ f_4 : Nat → Int32, f_4 = upd v_guests v_made.toNatClampNeg a_2 → (vp_in v_made 60 ∧ (∀ f_6 : Nat → Int32, f_6 = upd v_kind v_made.toNatClampNeg a_3 → (∀ x_7 : Int32, x_7 = v_made + (1 : Int32) → post v_made (f_2, f_4, f_6, x_7))))))))
set_option maxHeartbeats 4000000 in
set_option maxRecDepth 100000 in
theorem c_XT_add (l : Launch) (hl9 : l.stackTraces = false) (dC : Nat → ClassId) (dI : Nat → Nat → Nat) (cI cJ cZ : ClassId) (q_0 q_slot q_guests q_kind q_returned : Nat) (a_1 : Int32) (a_2 : Int32) (a_3 : Int32) (v_slot : Nat → Int32) (v_guests : Nat → Int32) (v_kind : Nat → Int32) (v_made : Int32) (post : Int32 → ((Nat → Int32) × (Nat → Int32) × (Nat → Int32) × (Int32)) → Prop) (hw : wp_XT_add post a_1 a_2 a_3 v_slot v_guests v_kind v_made) : Ki l y_XT_add b_XT_add 5 (some .int) ({ frames := 0, cells := 0, slots := 0, locals := 0 } : Room) dC dI cI cJ cZ [.ref q_0, .int a_1, .int a_2, .int a_3] [(q_0, .inr (2, [.ref q_slot, .ref q_guests, .ref q_kind, .ref q_returned, .int v_made])), (q_slot, .inl (cI, 60, .inl v_slot)), (q_guests, .inl (cI, 60, .inl v_guests)), (q_kind, .inl (cI, 60, .inl v_kind))] post (fun u : (Nat → Int32) × (Nat → Int32) × (Nat → Int32) × (Int32) => [(q_0, .inr (2, [.ref q_slot, .ref q_guests, .ref q_kind, .ref q_returned, .int u.2.2.2])), (q_slot, .inl (cI, 60, .inl u.1)), (q_guests, .inl (cI, 60, .inl u.2.1)), (q_kind, .inl (cI, 60, .inl u.2.2.1))]) := by
  refine mki hl9 (own := R_XT) rfl (by decide) ?_
  intro p e s m args below meth c A C0 hnm eav hP hD
  obtain ⟨-, hx, hb, hml, hr, hown, hts, hlocks, hK, hZ, hA, hNS⟩ := id C0
  subst eav
  have hS : va_S A s.heap s.heap [] := va_S.rf
  have hl := lv_entry ([.ref q_0, .int a_1, .int a_2, .int a_3]) (n := 5) (Nat.le_of_ble_eq_true rfl)
  rw [lg_entry_eq]
  generalize (lg_sl ([.ref q_0, .int a_1, .int a_2, .int a_3]) ++ List.replicate (5 - (lg_sl ([.ref q_0, .int a_1, .int a_2, .int a_3])).length) Slot.unset).toArray = ls at hl ⊢
  have hl : lv_has ls 5 [(0, .ref q_0), (1, .int a_1), (2, .int a_2), (3, .int a_3)] := hl
  unfold wp_XT_add at hw
  refine lv_aload_n hx hb d_XT_add_0 rfl (lv_at hl 0 rfl) ?_
  refine va_get (D := (dC, dI)) (ci := 2) (v := .int v_made) (C := R_XT) (T := F_XT) (N := 5) hx hb hts i_XT hown hK hP 0 rfl rfl 4 (by decide) (hts _ k_139) (fun _ h9 => h9) rfl d_XT_add_1 ?_
  refine lv_istore (lv' := [(4, .int v_made), (0, .ref q_0), (1, .int a_1), (2, .int a_2), (3, .int a_3)]) hx hb d_XT_add_4 hl (by decide) rfl (fun ls hl => ?_)
  refine lv_aload_n hx hb d_XT_add_6 rfl (lv_at hl 1 rfl) ?_
  refine va_get (D := (dC, dI)) (ci := 2) (v := .ref q_slot) (C := R_XT) (T := F_XT) (N := 5) hx hb hts i_XT hown hK hP 0 rfl rfl 0 (by decide) (hts _ k_20) (fun _ h9 => h9) rfl d_XT_add_7 ?_
  refine lv_iload hx hb d_XT_add_10 (lv_at hl 0 rfl) ?_
  refine lv_iload_n hx hb d_XT_add_12 rfl (lv_at hl 2 rfl) ?_
  obtain ⟨h_1, hw⟩ := hw
  refine va_iast hx hb hK hP hD hS 1 0 rfl rfl h_1 d_XT_add_13 (fun H locs hP hD hS => ?_)
  obtain ⟨f_2, ef_2⟩ : ∃ g : Nat → Int32, g = upd v_slot v_made.toNatClampNeg a_1 := ⟨_, rfl⟩
  have hw := hw f_2 ef_2
  have hP : va_P (dC, dI) classes [(q_0, .inr (2, [.ref q_slot, .ref q_guests, .ref q_kind, .ref q_returned, .int v_made])), (q_slot, .inl (cI, 60, .inl f_2)), (q_guests, .inl (cI, 60, .inl v_guests)), (q_kind, .inl (cI, 60, .inl v_kind))] H := by rw [ef_2]; exact hP
  have hD : va_D A [(q_0, .inr (2, [.ref q_slot, .ref q_guests, .ref q_kind, .ref q_returned, .int v_made])), (q_slot, .inl (cI, 60, .inl f_2)), (q_guests, .inl (cI, 60, .inl v_guests)), (q_kind, .inl (cI, 60, .inl v_kind))] := by rw [ef_2]; exact hD
  refine lv_aload_n hx hb d_XT_add_14 rfl (lv_at hl 1 rfl) ?_
  refine va_get (D := (dC, dI)) (ci := 2) (v := .ref q_guests) (C := R_XT) (T := F_XT) (N := 5) hx hb hts i_XT hown hK hP 0 rfl rfl 1 (by decide) (hts _ k_21) (fun _ h9 => h9) rfl d_XT_add_15 ?_
  refine lv_iload hx hb d_XT_add_18 (lv_at hl 0 rfl) ?_
  refine lv_iload_n hx hb d_XT_add_20 rfl (lv_at hl 3 rfl) ?_
  obtain ⟨h_3, hw⟩ := hw
  refine va_iast hx hb hK hP hD hS 2 0 rfl rfl h_3 d_XT_add_21 (fun H locs hP hD hS => ?_)
  obtain ⟨f_4, ef_4⟩ : ∃ g : Nat → Int32, g = upd v_guests v_made.toNatClampNeg a_2 := ⟨_, rfl⟩
  have hw := hw f_4 ef_4
  have hP : va_P (dC, dI) classes [(q_0, .inr (2, [.ref q_slot, .ref q_guests, .ref q_kind, .ref q_returned, .int v_made])), (q_slot, .inl (cI, 60, .inl f_2)), (q_guests, .inl (cI, 60, .inl f_4)), (q_kind, .inl (cI, 60, .inl v_kind))] H := by rw [ef_4]; exact hP
  have hD : va_D A [(q_0, .inr (2, [.ref q_slot, .ref q_guests, .ref q_kind, .ref q_returned, .int v_made])), (q_slot, .inl (cI, 60, .inl f_2)), (q_guests, .inl (cI, 60, .inl f_4)), (q_kind, .inl (cI, 60, .inl v_kind))] := by rw [ef_4]; exact hD
  refine lv_aload_n hx hb d_XT_add_22 rfl (lv_at hl 1 rfl) ?_
  refine va_get (D := (dC, dI)) (ci := 2) (v := .ref q_kind) (C := R_XT) (T := F_XT) (N := 5) hx hb hts i_XT hown hK hP 0 rfl rfl 2 (by decide) (hts _ k_22) (fun _ h9 => h9) rfl d_XT_add_23 ?_
  refine lv_iload hx hb d_XT_add_26 (lv_at hl 0 rfl) ?_
  refine lv_iload_n hx hb d_XT_add_28 rfl (lv_at hl 4 rfl) ?_
  obtain ⟨h_5, hw⟩ := hw
  refine va_iast hx hb hK hP hD hS 3 0 rfl rfl h_5 d_XT_add_29 (fun H locs hP hD hS => ?_)
  obtain ⟨f_6, ef_6⟩ : ∃ g : Nat → Int32, g = upd v_kind v_made.toNatClampNeg a_3 := ⟨_, rfl⟩
  have hw := hw f_6 ef_6
  have hP : va_P (dC, dI) classes [(q_0, .inr (2, [.ref q_slot, .ref q_guests, .ref q_kind, .ref q_returned, .int v_made])), (q_slot, .inl (cI, 60, .inl f_2)), (q_guests, .inl (cI, 60, .inl f_4)), (q_kind, .inl (cI, 60, .inl f_6))] H := by rw [ef_6]; exact hP
  have hD : va_D A [(q_0, .inr (2, [.ref q_slot, .ref q_guests, .ref q_kind, .ref q_returned, .int v_made])), (q_slot, .inl (cI, 60, .inl f_2)), (q_guests, .inl (cI, 60, .inl f_4)), (q_kind, .inl (cI, 60, .inl f_6))] := by rw [ef_6]; exact hD
  refine lv_aload_n hx hb d_XT_add_30 rfl (lv_at hl 1 rfl) ?_
  refine lv_dup hx hb d_XT_add_31 rfl ?_
  refine va_get (D := (dC, dI)) (ci := 2) (v := .int v_made) (C := R_XT) (T := F_XT) (N := 5) hx hb hts i_XT hown hK hP 0 rfl rfl 4 (by decide) (hts _ k_139) (fun _ h9 => h9) rfl d_XT_add_32 ?_
  refine lv_iconst (v := (1 : Int32)) hx hb d_XT_add_35 (by decide) ?_
  refine lv_iadd hx hb d_XT_add_36 ?_
  refine lv_topi (fun x_7 ex_7 => ?_)
  have hw := hw x_7 ex_7
  refine va_put (D := (dC, dI)) (ci := 2) (v := .int x_7) (ty := .int) (C := R_XT) (T := F_XT) (N := 5) hx hb hts i_XT t_XT t_XT_ok n_XT hown hK hP hD hS 0 rfl rfl 4 (by decide) (hts _ k_139) (fun _ h9 => h9) rfl (by decide +kernel) rfl rfl (Nat.le_of_ble_eq_true rfl) d_XT_add_37 (fun H locs hP hD hS => ?_)
  have hP : va_P (dC, dI) classes [(q_0, .inr (2, [.ref q_slot, .ref q_guests, .ref q_kind, .ref q_returned, .int x_7])), (q_slot, .inl (cI, 60, .inl f_2)), (q_guests, .inl (cI, 60, .inl f_4)), (q_kind, .inl (cI, 60, .inl f_6))] H := hP
  have hD : va_D A [(q_0, .inr (2, [.ref q_slot, .ref q_guests, .ref q_kind, .ref q_returned, .int x_7])), (q_slot, .inl (cI, 60, .inl f_2)), (q_guests, .inl (cI, 60, .inl f_4)), (q_kind, .inl (cI, 60, .inl f_6))] := hD
  refine lv_iload hx hb d_XT_add_40 (lv_at hl 0 rfl) ?_
  exact rt_i (u := (f_2, f_4, f_6, x_7)) C0 hw hP hD hS (by decide) (by decide) d_XT_add_42
theorem d_XR_waitsFor_0 : decode b_XR_waitsFor 0 = .ok (.aload_n 0, 1) := by decide +kernel
theorem d_XR_waitsFor_1 : decode b_XR_waitsFor 1 = .ok (.getfield 9, 3) := by decide +kernel
theorem d_XR_waitsFor_4 : decode b_XR_waitsFor 4 = .ok (.iload_n 1, 1) := by decide +kernel
theorem d_XR_waitsFor_5 : decode b_XR_waitsFor 5 = .ok (.iaload, 1) := by decide +kernel
theorem d_XR_waitsFor_6 : decode b_XR_waitsFor 6 = .ok (.iload_n 2, 1) := by decide +kernel
theorem d_XR_waitsFor_7 : decode b_XR_waitsFor 7 = .ok (.if_icmp .ne 17, 3) := by decide +kernel
theorem d_XR_waitsFor_10 : decode b_XR_waitsFor 10 = .ok (.aload_n 0, 1) := by decide +kernel
theorem d_XR_waitsFor_11 : decode b_XR_waitsFor 11 = .ok (.getfield 21, 3) := by decide +kernel
theorem d_XR_waitsFor_14 : decode b_XR_waitsFor 14 = .ok (.iload_n 1, 1) := by decide +kernel
theorem d_XR_waitsFor_15 : decode b_XR_waitsFor 15 = .ok (.iaload, 1) := by decide +kernel
theorem d_XR_waitsFor_16 : decode b_XR_waitsFor 16 = .ok (.iconst (-1), 1) := by decide +kernel
theorem d_XR_waitsFor_17 : decode b_XR_waitsFor 17 = .ok (.if_icmp .ne 7, 3) := by decide +kernel
theorem d_XR_waitsFor_20 : decode b_XR_waitsFor 20 = .ok (.iconst 1, 1) := by decide +kernel
theorem d_XR_waitsFor_21 : decode b_XR_waitsFor 21 = .ok (.goto 4, 3) := by decide +kernel
theorem d_XR_waitsFor_24 : decode b_XR_waitsFor 24 = .ok (.iconst 0, 1) := by decide +kernel
theorem d_XR_waitsFor_25 : decode b_XR_waitsFor 25 = .ok (.ireturn, 1) := by decide +kernel
def wp_XR_waitsFor (post : Int32 → Unit → Prop) (a_1 : Int32) (a_2 : Int32) (v_slot : Nat → Int32) (v_ticket : Nat → Int32) : Prop := (vp_in a_1 30 ∧ (((v_slot a_1.toNatClampNeg) = a_2 → (vp_in a_1 30 ∧ (((v_ticket a_1.toNatClampNeg) = (-1 : Int32) → post (1 : Int32) ()) ∧ (¬ ((v_ticket a_1.toNatClampNeg) = (-1 : Int32)) → post (0 : Int32) ())))) ∧ (¬ ((v_slot a_1.toNatClampNeg) = a_2) → post (0 : Int32) ())))
set_option maxHeartbeats 4000000 in
set_option maxRecDepth 100000 in
theorem c_XR_waitsFor (l : Launch) (hl9 : l.stackTraces = false) (dC : Nat → ClassId) (dI : Nat → Nat → Nat) (cI cJ cZ : ClassId) (q_0 q_slot q_ticket q_guests q_kind : Nat) (a_1 : Int32) (a_2 : Int32) (v_slot : Nat → Int32) (v_ticket : Nat → Int32) (v_made : Int32) (v_served : Int32) (post : Int32 → Unit → Prop) (hw : wp_XR_waitsFor post a_1 a_2 v_slot v_ticket) : Ki l y_XR_waitsFor b_XR_waitsFor 3 (some .boolean) ({ frames := 0, cells := 0, slots := 0, locals := 0 } : Room) dC dI cI cJ cZ [.ref q_0, .int a_1, .int a_2] [(q_0, .inr (3, [.ref q_slot, .ref q_guests, .ref q_kind, .ref q_ticket, .int v_made, .int v_served])), (q_slot, .inl (cI, 30, .inl v_slot)), (q_ticket, .inl (cI, 30, .inl v_ticket))] post (fun u : Unit => [(q_0, .inr (3, [.ref q_slot, .ref q_guests, .ref q_kind, .ref q_ticket, .int v_made, .int v_served])), (q_slot, .inl (cI, 30, .inl v_slot)), (q_ticket, .inl (cI, 30, .inl v_ticket))]) := by
  refine mki hl9 (own := R_XR) rfl (by decide) ?_
  intro p e s m args below meth c A C0 hnm eav hP hD
  obtain ⟨-, hx, hb, hml, hr, hown, hts, hlocks, hK, hZ, hA, hNS⟩ := id C0
  subst eav
  have hS : va_S A s.heap s.heap [] := va_S.rf
  have hl := lv_entry ([.ref q_0, .int a_1, .int a_2]) (n := 3) (Nat.le_of_ble_eq_true rfl)
  rw [lg_entry_eq]
  generalize (lg_sl ([.ref q_0, .int a_1, .int a_2]) ++ List.replicate (3 - (lg_sl ([.ref q_0, .int a_1, .int a_2])).length) Slot.unset).toArray = ls at hl ⊢
  have hl : lv_has ls 3 [(0, .ref q_0), (1, .int a_1), (2, .int a_2)] := hl
  unfold wp_XR_waitsFor at hw
  refine lv_aload_n hx hb d_XR_waitsFor_0 rfl (lv_at hl 0 rfl) ?_
  refine va_get (D := (dC, dI)) (ci := 3) (v := .ref q_slot) (C := R_XR) (T := F_XR) (N := 6) hx hb hts i_XR hown hK hP 0 rfl rfl 0 (by decide) (hts _ k_32) (fun _ h9 => h9) rfl d_XR_waitsFor_1 ?_
  refine lv_iload_n hx hb d_XR_waitsFor_4 rfl (lv_at hl 1 rfl) ?_
  obtain ⟨h_1, hw⟩ := hw
  refine va_iald hx hb hK hP 1 0 rfl rfl h_1 d_XR_waitsFor_5 ?_
  refine lv_iload_n hx hb d_XR_waitsFor_6 rfl (lv_at hl 2 rfl) ?_
  refine lv_icmp_ne (tgt := 24) hx hb d_XR_waitsFor_7 (by decide) (fun c_2 => ?_) (fun c_2 => ?_)
  · have hw := hw.2 c_2
    refine lv_iconst (v := (0 : Int32)) hx hb d_XR_waitsFor_24 (by decide) ?_
    exact rt_z (u := ()) C0 (by decide) hw hP hD hS (by decide) (by decide) d_XR_waitsFor_25
  · have hw := hw.1 c_2
    refine lv_aload_n hx hb d_XR_waitsFor_10 rfl (lv_at hl 0 rfl) ?_
    refine va_get (D := (dC, dI)) (ci := 3) (v := .ref q_ticket) (C := R_XR) (T := F_XR) (N := 6) hx hb hts i_XR hown hK hP 0 rfl rfl 3 (by decide) (hts _ k_35) (fun _ h9 => h9) rfl d_XR_waitsFor_11 ?_
    refine lv_iload_n hx hb d_XR_waitsFor_14 rfl (lv_at hl 1 rfl) ?_
    obtain ⟨h_3, hw⟩ := hw
    refine va_iald hx hb hK hP 2 0 rfl rfl h_3 d_XR_waitsFor_15 ?_
    refine lv_iconst (v := (-1 : Int32)) hx hb d_XR_waitsFor_16 (by decide) ?_
    refine lv_icmp_ne (tgt := 24) hx hb d_XR_waitsFor_17 (by decide) (fun c_4 => ?_) (fun c_4 => ?_)
    · have hw := hw.2 c_4
      refine lv_iconst (v := (0 : Int32)) hx hb d_XR_waitsFor_24 (by decide) ?_
      exact rt_z (u := ()) C0 (by decide) hw hP hD hS (by decide) (by decide) d_XR_waitsFor_25
    · have hw := hw.1 c_4
      refine lv_iconst (v := (1 : Int32)) hx hb d_XR_waitsFor_20 (by decide) ?_
      refine lv_goto (tgt := 25) hx hb d_XR_waitsFor_21 (by decide) ?_
      exact rt_z (u := ()) C0 (by decide) hw hP hD hS (by decide) (by decide) d_XR_waitsFor_25
theorem d_XR_settle_0 : decode b_XR_settle 0 = .ok (.aload_n 0, 1) := by decide +kernel
theorem d_XR_settle_1 : decode b_XR_settle 1 = .ok (.getfield 21, 3) := by decide +kernel
theorem d_XR_settle_4 : decode b_XR_settle 4 = .ok (.iload_n 1, 1) := by decide +kernel
theorem d_XR_settle_5 : decode b_XR_settle 5 = .ok (.iload_n 2, 1) := by decide +kernel
theorem d_XR_settle_6 : decode b_XR_settle 6 = .ok (.iastore, 1) := by decide +kernel
theorem d_XR_settle_7 : decode b_XR_settle 7 = .ok (.aload_n 0, 1) := by decide +kernel
theorem d_XR_settle_8 : decode b_XR_settle 8 = .ok (.dup, 1) := by decide +kernel
theorem d_XR_settle_9 : decode b_XR_settle 9 = .ok (.getfield 28, 3) := by decide +kernel
theorem d_XR_settle_12 : decode b_XR_settle 12 = .ok (.iconst 1, 1) := by decide +kernel
theorem d_XR_settle_13 : decode b_XR_settle 13 = .ok (.iadd, 1) := by decide +kernel
theorem d_XR_settle_14 : decode b_XR_settle 14 = .ok (.putfield 28, 3) := by decide +kernel
theorem d_XR_settle_17 : decode b_XR_settle 17 = .ok (.return_, 1) := by decide +kernel
def wp_XR_settle (post : ((Nat → Int32) × (Int32)) → Prop) (a_1 : Int32) (a_2 : Int32) (v_ticket : Nat → Int32) (v_served : Int32) : Prop := (vp_in a_1 30 ∧ (∀ f_2 : Nat → Int32, f_2 = upd v_ticket a_1.toNatClampNeg a_2 → (∀ x_3 : Int32, x_3 = v_served + (1 : Int32) → post (f_2, x_3))))
set_option maxHeartbeats 4000000 in
set_option maxRecDepth 100000 in
theorem c_XR_settle (l : Launch) (hl9 : l.stackTraces = false) (dC : Nat → ClassId) (dI : Nat → Nat → Nat) (cI cJ cZ : ClassId) (q_0 q_ticket q_slot q_guests q_kind : Nat) (a_1 : Int32) (a_2 : Int32) (v_ticket : Nat → Int32) (v_made : Int32) (v_served : Int32) (post : ((Nat → Int32) × (Int32)) → Prop) (hw : wp_XR_settle post a_1 a_2 v_ticket v_served) : Kv l y_XR_settle b_XR_settle 3 none ({ frames := 0, cells := 0, slots := 0, locals := 0 } : Room) dC dI cI cJ cZ [.ref q_0, .int a_1, .int a_2] [(q_0, .inr (3, [.ref q_slot, .ref q_guests, .ref q_kind, .ref q_ticket, .int v_made, .int v_served])), (q_ticket, .inl (cI, 30, .inl v_ticket))] post (fun u : (Nat → Int32) × (Int32) => [(q_0, .inr (3, [.ref q_slot, .ref q_guests, .ref q_kind, .ref q_ticket, .int v_made, .int u.2])), (q_ticket, .inl (cI, 30, .inl u.1))]) := by
  refine mkv hl9 (own := R_XR) rfl (by decide) ?_
  intro p e s m args below meth c A C0 hnm eav hP hD
  obtain ⟨-, hx, hb, hml, hr, hown, hts, hlocks, hK, hZ, hA, hNS⟩ := id C0
  subst eav
  have hS : va_S A s.heap s.heap [] := va_S.rf
  have hl := lv_entry ([.ref q_0, .int a_1, .int a_2]) (n := 3) (Nat.le_of_ble_eq_true rfl)
  rw [lg_entry_eq]
  generalize (lg_sl ([.ref q_0, .int a_1, .int a_2]) ++ List.replicate (3 - (lg_sl ([.ref q_0, .int a_1, .int a_2])).length) Slot.unset).toArray = ls at hl ⊢
  have hl : lv_has ls 3 [(0, .ref q_0), (1, .int a_1), (2, .int a_2)] := hl
  unfold wp_XR_settle at hw
  refine lv_aload_n hx hb d_XR_settle_0 rfl (lv_at hl 0 rfl) ?_
  refine va_get (D := (dC, dI)) (ci := 3) (v := .ref q_ticket) (C := R_XR) (T := F_XR) (N := 6) hx hb hts i_XR hown hK hP 0 rfl rfl 3 (by decide) (hts _ k_35) (fun _ h9 => h9) rfl d_XR_settle_1 ?_
  refine lv_iload_n hx hb d_XR_settle_4 rfl (lv_at hl 1 rfl) ?_
  refine lv_iload_n hx hb d_XR_settle_5 rfl (lv_at hl 2 rfl) ?_
  obtain ⟨h_1, hw⟩ := hw
  refine va_iast hx hb hK hP hD hS 1 0 rfl rfl h_1 d_XR_settle_6 (fun H locs hP hD hS => ?_)
  obtain ⟨f_2, ef_2⟩ : ∃ g : Nat → Int32, g = upd v_ticket a_1.toNatClampNeg a_2 := ⟨_, rfl⟩
  have hw := hw f_2 ef_2
  have hP : va_P (dC, dI) classes [(q_0, .inr (3, [.ref q_slot, .ref q_guests, .ref q_kind, .ref q_ticket, .int v_made, .int v_served])), (q_ticket, .inl (cI, 30, .inl f_2))] H := by rw [ef_2]; exact hP
  have hD : va_D A [(q_0, .inr (3, [.ref q_slot, .ref q_guests, .ref q_kind, .ref q_ticket, .int v_made, .int v_served])), (q_ticket, .inl (cI, 30, .inl f_2))] := by rw [ef_2]; exact hD
  refine lv_aload_n hx hb d_XR_settle_7 rfl (lv_at hl 0 rfl) ?_
  refine lv_dup hx hb d_XR_settle_8 rfl ?_
  refine va_get (D := (dC, dI)) (ci := 3) (v := .int v_served) (C := R_XR) (T := F_XR) (N := 6) hx hb hts i_XR hown hK hP 0 rfl rfl 5 (by decide) (hts _ k_164) (fun _ h9 => h9) rfl d_XR_settle_9 ?_
  refine lv_iconst (v := (1 : Int32)) hx hb d_XR_settle_12 (by decide) ?_
  refine lv_iadd hx hb d_XR_settle_13 ?_
  refine lv_topi (fun x_3 ex_3 => ?_)
  have hw := hw x_3 ex_3
  refine va_put (D := (dC, dI)) (ci := 3) (v := .int x_3) (ty := .int) (C := R_XR) (T := F_XR) (N := 6) hx hb hts i_XR t_XR t_XR_ok n_XR hown hK hP hD hS 0 rfl rfl 5 (by decide) (hts _ k_164) (fun _ h9 => h9) rfl (by decide +kernel) rfl rfl (Nat.le_of_ble_eq_true rfl) d_XR_settle_14 (fun H locs hP hD hS => ?_)
  have hP : va_P (dC, dI) classes [(q_0, .inr (3, [.ref q_slot, .ref q_guests, .ref q_kind, .ref q_ticket, .int v_made, .int x_3])), (q_ticket, .inl (cI, 30, .inl f_2))] H := hP
  have hD : va_D A [(q_0, .inr (3, [.ref q_slot, .ref q_guests, .ref q_kind, .ref q_ticket, .int v_made, .int x_3])), (q_ticket, .inl (cI, 30, .inl f_2))] := hD
  exact rt_v (u := (f_2, x_3)) C0 hw hP hD hS (by decide) (by decide) d_XR_settle_17
theorem d_XR_add_0 : decode b_XR_add 0 = .ok (.aload_n 0, 1) := by decide +kernel
theorem d_XR_add_1 : decode b_XR_add 1 = .ok (.getfield 24, 3) := by decide +kernel
theorem d_XR_add_4 : decode b_XR_add 4 = .ok (.istore 4, 2) := by decide +kernel
theorem d_XR_add_6 : decode b_XR_add 6 = .ok (.aload_n 0, 1) := by decide +kernel
theorem d_XR_add_7 : decode b_XR_add 7 = .ok (.getfield 9, 3) := by decide +kernel
theorem d_XR_add_10 : decode b_XR_add 10 = .ok (.iload 4, 2) := by decide +kernel
theorem d_XR_add_12 : decode b_XR_add 12 = .ok (.iload_n 1, 1) := by decide +kernel
theorem d_XR_add_13 : decode b_XR_add 13 = .ok (.iastore, 1) := by decide +kernel
theorem d_XR_add_14 : decode b_XR_add 14 = .ok (.aload_n 0, 1) := by decide +kernel
theorem d_XR_add_15 : decode b_XR_add 15 = .ok (.getfield 15, 3) := by decide +kernel
theorem d_XR_add_18 : decode b_XR_add 18 = .ok (.iload 4, 2) := by decide +kernel
theorem d_XR_add_20 : decode b_XR_add 20 = .ok (.iload_n 2, 1) := by decide +kernel
theorem d_XR_add_21 : decode b_XR_add 21 = .ok (.iastore, 1) := by decide +kernel
theorem d_XR_add_22 : decode b_XR_add 22 = .ok (.aload_n 0, 1) := by decide +kernel
theorem d_XR_add_23 : decode b_XR_add 23 = .ok (.getfield 18, 3) := by decide +kernel
theorem d_XR_add_26 : decode b_XR_add 26 = .ok (.iload 4, 2) := by decide +kernel
theorem d_XR_add_28 : decode b_XR_add 28 = .ok (.iload_n 3, 1) := by decide +kernel
theorem d_XR_add_29 : decode b_XR_add 29 = .ok (.iastore, 1) := by decide +kernel
theorem d_XR_add_30 : decode b_XR_add 30 = .ok (.aload_n 0, 1) := by decide +kernel
theorem d_XR_add_31 : decode b_XR_add 31 = .ok (.getfield 21, 3) := by decide +kernel
theorem d_XR_add_34 : decode b_XR_add 34 = .ok (.iload 4, 2) := by decide +kernel
theorem d_XR_add_36 : decode b_XR_add 36 = .ok (.iconst (-1), 1) := by decide +kernel
theorem d_XR_add_37 : decode b_XR_add 37 = .ok (.iastore, 1) := by decide +kernel
theorem d_XR_add_38 : decode b_XR_add 38 = .ok (.aload_n 0, 1) := by decide +kernel
theorem d_XR_add_39 : decode b_XR_add 39 = .ok (.dup, 1) := by decide +kernel
theorem d_XR_add_40 : decode b_XR_add 40 = .ok (.getfield 24, 3) := by decide +kernel
theorem d_XR_add_43 : decode b_XR_add 43 = .ok (.iconst 1, 1) := by decide +kernel
theorem d_XR_add_44 : decode b_XR_add 44 = .ok (.iadd, 1) := by decide +kernel
theorem d_XR_add_45 : decode b_XR_add 45 = .ok (.putfield 24, 3) := by decide +kernel
theorem d_XR_add_48 : decode b_XR_add 48 = .ok (.iload 4, 2) := by decide +kernel
theorem d_XR_add_50 : decode b_XR_add 50 = .ok (.ireturn, 1) := by decide +kernel
def wp_XR_add (post : Int32 → ((Nat → Int32) × (Nat → Int32) × (Nat → Int32) × (Nat → Int32) × (Int32)) → Prop) (a_1 : Int32) (a_2 : Int32) (a_3 : Int32) (v_slot : Nat → Int32) (v_guests : Nat → Int32) (v_kind : Nat → Int32) (v_ticket : Nat → Int32) (v_made : Int32) : Prop := (vp_in v_made 30 ∧ (∀ f_2 : Nat → Int32, f_2 = upd v_slot v_made.toNatClampNeg a_1 → (vp_in v_made 30 ∧ (∀ f_4 : Nat → Int32, f_4 = upd v_guests v_made.toNatClampNeg a_2 → (vp_in v_made 30 ∧ (∀ f_6 : Nat → Int32, f_6 = upd v_kind v_made.toNatClampNeg a_3 → (vp_in v_made 30 ∧ (∀ f_8 : Nat → Int32, f_8 = upd v_ticket v_made.toNatClampNeg (-1 : Int32) → (∀ x_9 : Int32, x_9 = v_made + (1 : Int32) → post v_made (f_2, f_4, f_6, f_8, x_9))))))))))
set_option maxHeartbeats 4000000 in
set_option maxRecDepth 100000 in
theorem c_XR_add (l : Launch) (hl9 : l.stackTraces = false) (dC : Nat → ClassId) (dI : Nat → Nat → Nat) (cI cJ cZ : ClassId) (q_0 q_slot q_guests q_kind q_ticket : Nat) (a_1 : Int32) (a_2 : Int32) (a_3 : Int32) (v_slot : Nat → Int32) (v_guests : Nat → Int32) (v_kind : Nat → Int32) (v_ticket : Nat → Int32) (v_made : Int32) (v_served : Int32) (post : Int32 → ((Nat → Int32) × (Nat → Int32) × (Nat → Int32) × (Nat → Int32) × (Int32)) → Prop) (hw : wp_XR_add post a_1 a_2 a_3 v_slot v_guests v_kind v_ticket v_made) : Ki l y_XR_add b_XR_add 5 (some .int) ({ frames := 0, cells := 0, slots := 0, locals := 0 } : Room) dC dI cI cJ cZ [.ref q_0, .int a_1, .int a_2, .int a_3] [(q_0, .inr (3, [.ref q_slot, .ref q_guests, .ref q_kind, .ref q_ticket, .int v_made, .int v_served])), (q_slot, .inl (cI, 30, .inl v_slot)), (q_guests, .inl (cI, 30, .inl v_guests)), (q_kind, .inl (cI, 30, .inl v_kind)), (q_ticket, .inl (cI, 30, .inl v_ticket))] post (fun u : (Nat → Int32) × (Nat → Int32) × (Nat → Int32) × (Nat → Int32) × (Int32) => [(q_0, .inr (3, [.ref q_slot, .ref q_guests, .ref q_kind, .ref q_ticket, .int u.2.2.2.2, .int v_served])), (q_slot, .inl (cI, 30, .inl u.1)), (q_guests, .inl (cI, 30, .inl u.2.1)), (q_kind, .inl (cI, 30, .inl u.2.2.1)), (q_ticket, .inl (cI, 30, .inl u.2.2.2.1))]) := by
  refine mki hl9 (own := R_XR) rfl (by decide) ?_
  intro p e s m args below meth c A C0 hnm eav hP hD
  obtain ⟨-, hx, hb, hml, hr, hown, hts, hlocks, hK, hZ, hA, hNS⟩ := id C0
  subst eav
  have hS : va_S A s.heap s.heap [] := va_S.rf
  have hl := lv_entry ([.ref q_0, .int a_1, .int a_2, .int a_3]) (n := 5) (Nat.le_of_ble_eq_true rfl)
  rw [lg_entry_eq]
  generalize (lg_sl ([.ref q_0, .int a_1, .int a_2, .int a_3]) ++ List.replicate (5 - (lg_sl ([.ref q_0, .int a_1, .int a_2, .int a_3])).length) Slot.unset).toArray = ls at hl ⊢
  have hl : lv_has ls 5 [(0, .ref q_0), (1, .int a_1), (2, .int a_2), (3, .int a_3)] := hl
  unfold wp_XR_add at hw
  refine lv_aload_n hx hb d_XR_add_0 rfl (lv_at hl 0 rfl) ?_
  refine va_get (D := (dC, dI)) (ci := 3) (v := .int v_made) (C := R_XR) (T := F_XR) (N := 6) hx hb hts i_XR hown hK hP 0 rfl rfl 4 (by decide) (hts _ k_173) (fun _ h9 => h9) rfl d_XR_add_1 ?_
  refine lv_istore (lv' := [(4, .int v_made), (0, .ref q_0), (1, .int a_1), (2, .int a_2), (3, .int a_3)]) hx hb d_XR_add_4 hl (by decide) rfl (fun ls hl => ?_)
  refine lv_aload_n hx hb d_XR_add_6 rfl (lv_at hl 1 rfl) ?_
  refine va_get (D := (dC, dI)) (ci := 3) (v := .ref q_slot) (C := R_XR) (T := F_XR) (N := 6) hx hb hts i_XR hown hK hP 0 rfl rfl 0 (by decide) (hts _ k_32) (fun _ h9 => h9) rfl d_XR_add_7 ?_
  refine lv_iload hx hb d_XR_add_10 (lv_at hl 0 rfl) ?_
  refine lv_iload_n hx hb d_XR_add_12 rfl (lv_at hl 2 rfl) ?_
  obtain ⟨h_1, hw⟩ := hw
  refine va_iast hx hb hK hP hD hS 1 0 rfl rfl h_1 d_XR_add_13 (fun H locs hP hD hS => ?_)
  obtain ⟨f_2, ef_2⟩ : ∃ g : Nat → Int32, g = upd v_slot v_made.toNatClampNeg a_1 := ⟨_, rfl⟩
  have hw := hw f_2 ef_2
  have hP : va_P (dC, dI) classes [(q_0, .inr (3, [.ref q_slot, .ref q_guests, .ref q_kind, .ref q_ticket, .int v_made, .int v_served])), (q_slot, .inl (cI, 30, .inl f_2)), (q_guests, .inl (cI, 30, .inl v_guests)), (q_kind, .inl (cI, 30, .inl v_kind)), (q_ticket, .inl (cI, 30, .inl v_ticket))] H := by rw [ef_2]; exact hP
  have hD : va_D A [(q_0, .inr (3, [.ref q_slot, .ref q_guests, .ref q_kind, .ref q_ticket, .int v_made, .int v_served])), (q_slot, .inl (cI, 30, .inl f_2)), (q_guests, .inl (cI, 30, .inl v_guests)), (q_kind, .inl (cI, 30, .inl v_kind)), (q_ticket, .inl (cI, 30, .inl v_ticket))] := by rw [ef_2]; exact hD
  refine lv_aload_n hx hb d_XR_add_14 rfl (lv_at hl 1 rfl) ?_
  refine va_get (D := (dC, dI)) (ci := 3) (v := .ref q_guests) (C := R_XR) (T := F_XR) (N := 6) hx hb hts i_XR hown hK hP 0 rfl rfl 1 (by decide) (hts _ k_33) (fun _ h9 => h9) rfl d_XR_add_15 ?_
  refine lv_iload hx hb d_XR_add_18 (lv_at hl 0 rfl) ?_
  refine lv_iload_n hx hb d_XR_add_20 rfl (lv_at hl 3 rfl) ?_
  obtain ⟨h_3, hw⟩ := hw
  refine va_iast hx hb hK hP hD hS 2 0 rfl rfl h_3 d_XR_add_21 (fun H locs hP hD hS => ?_)
  obtain ⟨f_4, ef_4⟩ : ∃ g : Nat → Int32, g = upd v_guests v_made.toNatClampNeg a_2 := ⟨_, rfl⟩
  have hw := hw f_4 ef_4
  have hP : va_P (dC, dI) classes [(q_0, .inr (3, [.ref q_slot, .ref q_guests, .ref q_kind, .ref q_ticket, .int v_made, .int v_served])), (q_slot, .inl (cI, 30, .inl f_2)), (q_guests, .inl (cI, 30, .inl f_4)), (q_kind, .inl (cI, 30, .inl v_kind)), (q_ticket, .inl (cI, 30, .inl v_ticket))] H := by rw [ef_4]; exact hP
  have hD : va_D A [(q_0, .inr (3, [.ref q_slot, .ref q_guests, .ref q_kind, .ref q_ticket, .int v_made, .int v_served])), (q_slot, .inl (cI, 30, .inl f_2)), (q_guests, .inl (cI, 30, .inl f_4)), (q_kind, .inl (cI, 30, .inl v_kind)), (q_ticket, .inl (cI, 30, .inl v_ticket))] := by rw [ef_4]; exact hD
  refine lv_aload_n hx hb d_XR_add_22 rfl (lv_at hl 1 rfl) ?_
  refine va_get (D := (dC, dI)) (ci := 3) (v := .ref q_kind) (C := R_XR) (T := F_XR) (N := 6) hx hb hts i_XR hown hK hP 0 rfl rfl 2 (by decide) (hts _ k_34) (fun _ h9 => h9) rfl d_XR_add_23 ?_
  refine lv_iload hx hb d_XR_add_26 (lv_at hl 0 rfl) ?_
  refine lv_iload_n hx hb d_XR_add_28 rfl (lv_at hl 4 rfl) ?_
  obtain ⟨h_5, hw⟩ := hw
  refine va_iast hx hb hK hP hD hS 3 0 rfl rfl h_5 d_XR_add_29 (fun H locs hP hD hS => ?_)
  obtain ⟨f_6, ef_6⟩ : ∃ g : Nat → Int32, g = upd v_kind v_made.toNatClampNeg a_3 := ⟨_, rfl⟩
  have hw := hw f_6 ef_6
  have hP : va_P (dC, dI) classes [(q_0, .inr (3, [.ref q_slot, .ref q_guests, .ref q_kind, .ref q_ticket, .int v_made, .int v_served])), (q_slot, .inl (cI, 30, .inl f_2)), (q_guests, .inl (cI, 30, .inl f_4)), (q_kind, .inl (cI, 30, .inl f_6)), (q_ticket, .inl (cI, 30, .inl v_ticket))] H := by rw [ef_6]; exact hP
  have hD : va_D A [(q_0, .inr (3, [.ref q_slot, .ref q_guests, .ref q_kind, .ref q_ticket, .int v_made, .int v_served])), (q_slot, .inl (cI, 30, .inl f_2)), (q_guests, .inl (cI, 30, .inl f_4)), (q_kind, .inl (cI, 30, .inl f_6)), (q_ticket, .inl (cI, 30, .inl v_ticket))] := by rw [ef_6]; exact hD
  refine lv_aload_n hx hb d_XR_add_30 rfl (lv_at hl 1 rfl) ?_
  refine va_get (D := (dC, dI)) (ci := 3) (v := .ref q_ticket) (C := R_XR) (T := F_XR) (N := 6) hx hb hts i_XR hown hK hP 0 rfl rfl 3 (by decide) (hts _ k_35) (fun _ h9 => h9) rfl d_XR_add_31 ?_
  refine lv_iload hx hb d_XR_add_34 (lv_at hl 0 rfl) ?_
  refine lv_iconst (v := (-1 : Int32)) hx hb d_XR_add_36 (by decide) ?_
  obtain ⟨h_7, hw⟩ := hw
  refine va_iast hx hb hK hP hD hS 4 0 rfl rfl h_7 d_XR_add_37 (fun H locs hP hD hS => ?_)
  obtain ⟨f_8, ef_8⟩ : ∃ g : Nat → Int32, g = upd v_ticket v_made.toNatClampNeg (-1 : Int32) := ⟨_, rfl⟩
  have hw := hw f_8 ef_8
  have hP : va_P (dC, dI) classes [(q_0, .inr (3, [.ref q_slot, .ref q_guests, .ref q_kind, .ref q_ticket, .int v_made, .int v_served])), (q_slot, .inl (cI, 30, .inl f_2)), (q_guests, .inl (cI, 30, .inl f_4)), (q_kind, .inl (cI, 30, .inl f_6)), (q_ticket, .inl (cI, 30, .inl f_8))] H := by rw [ef_8]; exact hP
  have hD : va_D A [(q_0, .inr (3, [.ref q_slot, .ref q_guests, .ref q_kind, .ref q_ticket, .int v_made, .int v_served])), (q_slot, .inl (cI, 30, .inl f_2)), (q_guests, .inl (cI, 30, .inl f_4)), (q_kind, .inl (cI, 30, .inl f_6)), (q_ticket, .inl (cI, 30, .inl f_8))] := by rw [ef_8]; exact hD
  refine lv_aload_n hx hb d_XR_add_38 rfl (lv_at hl 1 rfl) ?_
  refine lv_dup hx hb d_XR_add_39 rfl ?_
  refine va_get (D := (dC, dI)) (ci := 3) (v := .int v_made) (C := R_XR) (T := F_XR) (N := 6) hx hb hts i_XR hown hK hP 0 rfl rfl 4 (by decide) (hts _ k_173) (fun _ h9 => h9) rfl d_XR_add_40 ?_
  refine lv_iconst (v := (1 : Int32)) hx hb d_XR_add_43 (by decide) ?_
  refine lv_iadd hx hb d_XR_add_44 ?_
  refine lv_topi (fun x_9 ex_9 => ?_)
  have hw := hw x_9 ex_9
  refine va_put (D := (dC, dI)) (ci := 3) (v := .int x_9) (ty := .int) (C := R_XR) (T := F_XR) (N := 6) hx hb hts i_XR t_XR t_XR_ok n_XR hown hK hP hD hS 0 rfl rfl 4 (by decide) (hts _ k_173) (fun _ h9 => h9) rfl (by decide +kernel) rfl rfl (Nat.le_of_ble_eq_true rfl) d_XR_add_45 (fun H locs hP hD hS => ?_)
  have hP : va_P (dC, dI) classes [(q_0, .inr (3, [.ref q_slot, .ref q_guests, .ref q_kind, .ref q_ticket, .int x_9, .int v_served])), (q_slot, .inl (cI, 30, .inl f_2)), (q_guests, .inl (cI, 30, .inl f_4)), (q_kind, .inl (cI, 30, .inl f_6)), (q_ticket, .inl (cI, 30, .inl f_8))] H := hP
  have hD : va_D A [(q_0, .inr (3, [.ref q_slot, .ref q_guests, .ref q_kind, .ref q_ticket, .int x_9, .int v_served])), (q_slot, .inl (cI, 30, .inl f_2)), (q_guests, .inl (cI, 30, .inl f_4)), (q_kind, .inl (cI, 30, .inl f_6)), (q_ticket, .inl (cI, 30, .inl f_8))] := hD
  refine lv_iload hx hb d_XR_add_48 (lv_at hl 0 rfl) ?_
  exact rt_i (u := (f_2, f_4, f_6, f_8, x_9)) C0 hw hP hD hS (by decide) (by decide) d_XR_add_50
theorem d_X_checkOf_0 : decode b_X_checkOf 0 = .ok (.iconst 3, 1) := by decide +kernel
theorem d_X_checkOf_1 : decode b_X_checkOf 1 = .ok (.iload_n 0, 1) := by decide +kernel
theorem d_X_checkOf_2 : decode b_X_checkOf 2 = .ok (.i2l, 1) := by decide +kernel
theorem d_X_checkOf_3 : decode b_X_checkOf 3 = .ok (.iconst 4, 1) := by decide +kernel
theorem d_X_checkOf_4 : decode b_X_checkOf 4 = .ok (.invokestatic 189, 3) := by decide +kernel
theorem d_X_checkOf_7 : decode b_X_checkOf 7 = .ok (.imul, 1) := by decide +kernel
theorem d_X_checkOf_8 : decode b_X_checkOf 8 = .ok (.bipush 7, 2) := by decide +kernel
theorem d_X_checkOf_10 : decode b_X_checkOf 10 = .ok (.iload_n 0, 1) := by decide +kernel
theorem d_X_checkOf_11 : decode b_X_checkOf 11 = .ok (.i2l, 1) := by decide +kernel
theorem d_X_checkOf_12 : decode b_X_checkOf 12 = .ok (.iconst 3, 1) := by decide +kernel
theorem d_X_checkOf_13 : decode b_X_checkOf 13 = .ok (.invokestatic 189, 3) := by decide +kernel
theorem d_X_checkOf_16 : decode b_X_checkOf 16 = .ok (.imul, 1) := by decide +kernel
theorem d_X_checkOf_17 : decode b_X_checkOf 17 = .ok (.iadd, 1) := by decide +kernel
theorem d_X_checkOf_18 : decode b_X_checkOf 18 = .ok (.iload_n 0, 1) := by decide +kernel
theorem d_X_checkOf_19 : decode b_X_checkOf 19 = .ok (.i2l, 1) := by decide +kernel
theorem d_X_checkOf_20 : decode b_X_checkOf 20 = .ok (.iconst 2, 1) := by decide +kernel
theorem d_X_checkOf_21 : decode b_X_checkOf 21 = .ok (.invokestatic 189, 3) := by decide +kernel
theorem d_X_checkOf_24 : decode b_X_checkOf 24 = .ok (.iadd, 1) := by decide +kernel
theorem d_X_checkOf_25 : decode b_X_checkOf 25 = .ok (.iconst 3, 1) := by decide +kernel
theorem d_X_checkOf_26 : decode b_X_checkOf 26 = .ok (.iload_n 0, 1) := by decide +kernel
theorem d_X_checkOf_27 : decode b_X_checkOf 27 = .ok (.i2l, 1) := by decide +kernel
theorem d_X_checkOf_28 : decode b_X_checkOf 28 = .ok (.iconst 1, 1) := by decide +kernel
theorem d_X_checkOf_29 : decode b_X_checkOf 29 = .ok (.invokestatic 189, 3) := by decide +kernel
theorem d_X_checkOf_32 : decode b_X_checkOf 32 = .ok (.imul, 1) := by decide +kernel
theorem d_X_checkOf_33 : decode b_X_checkOf 33 = .ok (.iadd, 1) := by decide +kernel
theorem d_X_checkOf_34 : decode b_X_checkOf 34 = .ok (.bipush 7, 2) := by decide +kernel
theorem d_X_checkOf_36 : decode b_X_checkOf 36 = .ok (.iload_n 0, 1) := by decide +kernel
theorem d_X_checkOf_37 : decode b_X_checkOf 37 = .ok (.i2l, 1) := by decide +kernel
theorem d_X_checkOf_38 : decode b_X_checkOf 38 = .ok (.iconst 0, 1) := by decide +kernel
theorem d_X_checkOf_39 : decode b_X_checkOf 39 = .ok (.invokestatic 189, 3) := by decide +kernel
theorem d_X_checkOf_42 : decode b_X_checkOf 42 = .ok (.imul, 1) := by decide +kernel
theorem d_X_checkOf_43 : decode b_X_checkOf 43 = .ok (.iadd, 1) := by decide +kernel
theorem d_X_checkOf_44 : decode b_X_checkOf 44 = .ok (.istore_n 1, 1) := by decide +kernel
theorem d_X_checkOf_45 : decode b_X_checkOf 45 = .ok (.bipush 10, 2) := by decide +kernel
theorem d_X_checkOf_47 : decode b_X_checkOf 47 = .ok (.iload_n 1, 1) := by decide +kernel
theorem d_X_checkOf_48 : decode b_X_checkOf 48 = .ok (.bipush 10, 2) := by decide +kernel
theorem d_X_checkOf_50 : decode b_X_checkOf 50 = .ok (.irem, 1) := by decide +kernel
theorem d_X_checkOf_51 : decode b_X_checkOf 51 = .ok (.isub, 1) := by decide +kernel
theorem d_X_checkOf_52 : decode b_X_checkOf 52 = .ok (.bipush 10, 2) := by decide +kernel
theorem d_X_checkOf_54 : decode b_X_checkOf 54 = .ok (.irem, 1) := by decide +kernel
theorem d_X_checkOf_55 : decode b_X_checkOf 55 = .ok (.ireturn, 1) := by decide +kernel
def wp_X_checkOf (post : Int32 → Unit → Prop) (a_0 : Int32) : Prop := wp_X_digitOf (fun r_1 _ => wp_X_digitOf (fun r_2 _ => wp_X_digitOf (fun r_3 _ => wp_X_digitOf (fun r_4 _ => wp_X_digitOf (fun r_5 _ => (∀ x_6 : Int32, x_6 = (((((3 : Int32) * r_1) + ((7 : Int32) * r_2)) + r_3) + ((3 : Int32) * r_4)) + ((7 : Int32) * r_5) → post (((10 : Int32) - (x_6 - x_6 / (10 : Int32) * (10 : Int32))) - ((10 : Int32) - (x_6 - x_6 / (10 : Int32) * (10 : Int32))) / (10 : Int32) * (10 : Int32)) ())) a_0.toInt64 (0 : Int32)) a_0.toInt64 (1 : Int32)) a_0.toInt64 (2 : Int32)) a_0.toInt64 (3 : Int32)) a_0.toInt64 (4 : Int32)
set_option maxHeartbeats 4000000 in
set_option maxRecDepth 100000 in
theorem c_X_checkOf (l : Launch) (hl9 : l.stackTraces = false) (dC : Nat → ClassId) (dI : Nat → Nat → Nat) (cI cJ cZ : ClassId) (a_0 : Int32) (post : Int32 → Unit → Prop) (hw : wp_X_checkOf post a_0) : Ki l y_X_checkOf b_X_checkOf 2 (some .int) ({ frames := 1, cells := 0, slots := 0, locals := 25 } : Room) dC dI cI cJ cZ [.int a_0] [] post (fun u : Unit => []) := by
  refine mki hl9 (own := R_X) rfl (by decide) ?_
  intro p e s m args below meth c A C0 hnm eav hP hD
  obtain ⟨-, hx, hb, hml, hr, hown, hts, hlocks, hK, hZ, hA, hNS⟩ := id C0
  subst eav
  have hS : va_S A s.heap s.heap [] := va_S.rf
  have hl := lv_entry ([.int a_0]) (n := 2) (Nat.le_of_ble_eq_true rfl)
  rw [lg_entry_eq]
  generalize (lg_sl ([.int a_0]) ++ List.replicate (2 - (lg_sl ([.int a_0])).length) Slot.unset).toArray = ls at hl ⊢
  have hl : lv_has ls 2 [(0, .int a_0)] := hl
  unfold wp_X_checkOf at hw
  refine lv_iconst (v := (3 : Int32)) hx hb d_X_checkOf_0 (by decide) ?_
  refine lv_iload_n hx hb d_X_checkOf_1 rfl (lv_at hl 0 rfl) ?_
  refine lv_i2l hx hb d_X_checkOf_2 rfl ?_
  refine lv_iconst (v := (4 : Int32)) hx hb d_X_checkOf_3 (by decide) ?_
  refine jn_i C0 hP hD hS [] [] (ru_S C0 (As := [.long a_0.toInt64, .int (4 : Int32)]) (rest := [.int (3 : Int32)]) (c_X_digitOf l hl9 dC dI cI cJ cZ a_0.toInt64 (4 : Int32) _ hw _) k_123 k_244 k_124 k_86 (n9 := 2) (by decide +kernel) rfl ⟨Nat.le_of_ble_eq_true rfl, Nat.le_of_ble_eq_true rfl⟩ hP hD hS [] rfl (by decide) hl.1 rfl (Nat.le_of_ble_eq_true rfl) d_X_checkOf_4 ⟨Nat.le_of_ble_eq_true rfl, Nat.le_of_ble_eq_true rfl⟩) rfl rfl (by decide) (by decide) (fun r_1 u H locs hw hP hD hS => ?_)
  try dsimp only at hw
  have hP : va_P (dC, dI) classes [] H := hP
  have hD : va_D A [] := hD
  refine lv_imul hx hb d_X_checkOf_7 ?_
  refine lv_bipush (v := (7 : Int32)) hx hb d_X_checkOf_8 (by decide) ?_
  refine lv_iload_n hx hb d_X_checkOf_10 rfl (lv_at hl 0 rfl) ?_
  refine lv_i2l hx hb d_X_checkOf_11 rfl ?_
  refine lv_iconst (v := (3 : Int32)) hx hb d_X_checkOf_12 (by decide) ?_
  refine jn_i C0 hP hD hS [] [] (ru_S C0 (As := [.long a_0.toInt64, .int (3 : Int32)]) (rest := [.int (7 : Int32), .int ((3 : Int32) * r_1)]) (c_X_digitOf l hl9 dC dI cI cJ cZ a_0.toInt64 (3 : Int32) _ hw _) k_123 k_244 k_124 k_86 (n9 := 2) (by decide +kernel) rfl ⟨Nat.le_of_ble_eq_true rfl, Nat.le_of_ble_eq_true rfl⟩ hP hD hS [] rfl (by decide) hl.1 rfl (Nat.le_of_ble_eq_true rfl) d_X_checkOf_13 ⟨Nat.le_of_ble_eq_true rfl, Nat.le_of_ble_eq_true rfl⟩) rfl rfl (by decide) (by decide) (fun r_2 u H locs hw hP hD hS => ?_)
  try dsimp only at hw
  have hP : va_P (dC, dI) classes [] H := hP
  have hD : va_D A [] := hD
  refine lv_imul hx hb d_X_checkOf_16 ?_
  refine lv_iadd hx hb d_X_checkOf_17 ?_
  refine lv_iload_n hx hb d_X_checkOf_18 rfl (lv_at hl 0 rfl) ?_
  refine lv_i2l hx hb d_X_checkOf_19 rfl ?_
  refine lv_iconst (v := (2 : Int32)) hx hb d_X_checkOf_20 (by decide) ?_
  refine jn_i C0 hP hD hS [] [] (ru_S C0 (As := [.long a_0.toInt64, .int (2 : Int32)]) (rest := [.int (((3 : Int32) * r_1) + ((7 : Int32) * r_2))]) (c_X_digitOf l hl9 dC dI cI cJ cZ a_0.toInt64 (2 : Int32) _ hw _) k_123 k_244 k_124 k_86 (n9 := 2) (by decide +kernel) rfl ⟨Nat.le_of_ble_eq_true rfl, Nat.le_of_ble_eq_true rfl⟩ hP hD hS [] rfl (by decide) hl.1 rfl (Nat.le_of_ble_eq_true rfl) d_X_checkOf_21 ⟨Nat.le_of_ble_eq_true rfl, Nat.le_of_ble_eq_true rfl⟩) rfl rfl (by decide) (by decide) (fun r_3 u H locs hw hP hD hS => ?_)
  try dsimp only at hw
  have hP : va_P (dC, dI) classes [] H := hP
  have hD : va_D A [] := hD
  refine lv_iadd hx hb d_X_checkOf_24 ?_
  refine lv_iconst (v := (3 : Int32)) hx hb d_X_checkOf_25 (by decide) ?_
  refine lv_iload_n hx hb d_X_checkOf_26 rfl (lv_at hl 0 rfl) ?_
  refine lv_i2l hx hb d_X_checkOf_27 rfl ?_
  refine lv_iconst (v := (1 : Int32)) hx hb d_X_checkOf_28 (by decide) ?_
  refine jn_i C0 hP hD hS [] [] (ru_S C0 (As := [.long a_0.toInt64, .int (1 : Int32)]) (rest := [.int (3 : Int32), .int ((((3 : Int32) * r_1) + ((7 : Int32) * r_2)) + r_3)]) (c_X_digitOf l hl9 dC dI cI cJ cZ a_0.toInt64 (1 : Int32) _ hw _) k_123 k_244 k_124 k_86 (n9 := 2) (by decide +kernel) rfl ⟨Nat.le_of_ble_eq_true rfl, Nat.le_of_ble_eq_true rfl⟩ hP hD hS [] rfl (by decide) hl.1 rfl (Nat.le_of_ble_eq_true rfl) d_X_checkOf_29 ⟨Nat.le_of_ble_eq_true rfl, Nat.le_of_ble_eq_true rfl⟩) rfl rfl (by decide) (by decide) (fun r_4 u H locs hw hP hD hS => ?_)
  try dsimp only at hw
  have hP : va_P (dC, dI) classes [] H := hP
  have hD : va_D A [] := hD
  refine lv_imul hx hb d_X_checkOf_32 ?_
  refine lv_iadd hx hb d_X_checkOf_33 ?_
  refine lv_bipush (v := (7 : Int32)) hx hb d_X_checkOf_34 (by decide) ?_
  refine lv_iload_n hx hb d_X_checkOf_36 rfl (lv_at hl 0 rfl) ?_
  refine lv_i2l hx hb d_X_checkOf_37 rfl ?_
  refine lv_iconst (v := (0 : Int32)) hx hb d_X_checkOf_38 (by decide) ?_
  refine jn_i C0 hP hD hS [] [] (ru_S C0 (As := [.long a_0.toInt64, .int (0 : Int32)]) (rest := [.int (7 : Int32), .int (((((3 : Int32) * r_1) + ((7 : Int32) * r_2)) + r_3) + ((3 : Int32) * r_4))]) (c_X_digitOf l hl9 dC dI cI cJ cZ a_0.toInt64 (0 : Int32) _ hw _) k_123 k_244 k_124 k_86 (n9 := 2) (by decide +kernel) rfl ⟨Nat.le_of_ble_eq_true rfl, Nat.le_of_ble_eq_true rfl⟩ hP hD hS [] rfl (by decide) hl.1 rfl (Nat.le_of_ble_eq_true rfl) d_X_checkOf_39 ⟨Nat.le_of_ble_eq_true rfl, Nat.le_of_ble_eq_true rfl⟩) rfl rfl (by decide) (by decide) (fun r_5 u H locs hw hP hD hS => ?_)
  try dsimp only at hw
  have hP : va_P (dC, dI) classes [] H := hP
  have hD : va_D A [] := hD
  refine lv_imul hx hb d_X_checkOf_42 ?_
  refine lv_iadd hx hb d_X_checkOf_43 ?_
  refine lv_topi (fun x_6 ex_6 => ?_)
  have hw := hw x_6 ex_6
  refine lv_istore_n (lv' := [(1, .int x_6), (0, .int a_0)]) hx hb d_X_checkOf_44 rfl hl (by decide) rfl (fun ls hl => ?_)
  refine lv_bipush (v := (10 : Int32)) hx hb d_X_checkOf_45 (by decide) ?_
  refine lv_iload_n hx hb d_X_checkOf_47 rfl (lv_at hl 0 rfl) ?_
  refine lv_bipush (v := (10 : Int32)) hx hb d_X_checkOf_48 (by decide) ?_
  refine lv_irem hx hb d_X_checkOf_50 (by decide) ?_
  refine lv_isub hx hb d_X_checkOf_51 ?_
  refine lv_bipush (v := (10 : Int32)) hx hb d_X_checkOf_52 (by decide) ?_
  refine lv_irem hx hb d_X_checkOf_54 (by decide) ?_
  exact rt_i (u := ()) C0 hw hP hD hS (by decide) (by decide) d_X_checkOf_55
theorem d_XT_codeOf_0 : decode b_XT_codeOf 0 = .ok (.sipush 7919, 3) := by decide +kernel
theorem d_XT_codeOf_3 : decode b_XT_codeOf 3 = .ok (.iload_n 1, 1) := by decide +kernel
theorem d_XT_codeOf_4 : decode b_XT_codeOf 4 = .ok (.imul, 1) := by decide +kernel
theorem d_XT_codeOf_5 : decode b_XT_codeOf 5 = .ok (.bipush 31, 2) := by decide +kernel
theorem d_XT_codeOf_7 : decode b_XT_codeOf 7 = .ok (.aload_n 0, 1) := by decide +kernel
theorem d_XT_codeOf_8 : decode b_XT_codeOf 8 = .ok (.getfield 9, 3) := by decide +kernel
theorem d_XT_codeOf_11 : decode b_XT_codeOf 11 = .ok (.iload_n 1, 1) := by decide +kernel
theorem d_XT_codeOf_12 : decode b_XT_codeOf 12 = .ok (.iaload, 1) := by decide +kernel
theorem d_XT_codeOf_13 : decode b_XT_codeOf 13 = .ok (.imul, 1) := by decide +kernel
theorem d_XT_codeOf_14 : decode b_XT_codeOf 14 = .ok (.iadd, 1) := by decide +kernel
theorem d_XT_codeOf_15 : decode b_XT_codeOf 15 = .ok (.sipush 12345, 3) := by decide +kernel
theorem d_XT_codeOf_18 : decode b_XT_codeOf 18 = .ok (.iadd, 1) := by decide +kernel
theorem d_XT_codeOf_19 : decode b_XT_codeOf 19 = .ok (.ldc 29, 2) := by decide +kernel
theorem d_XT_codeOf_21 : decode b_XT_codeOf 21 = .ok (.irem, 1) := by decide +kernel
theorem d_XT_codeOf_22 : decode b_XT_codeOf 22 = .ok (.istore_n 2, 1) := by decide +kernel
theorem d_XT_codeOf_23 : decode b_XT_codeOf 23 = .ok (.iload_n 2, 1) := by decide +kernel
theorem d_XT_codeOf_24 : decode b_XT_codeOf 24 = .ok (.bipush 10, 2) := by decide +kernel
theorem d_XT_codeOf_26 : decode b_XT_codeOf 26 = .ok (.imul, 1) := by decide +kernel
theorem d_XT_codeOf_27 : decode b_XT_codeOf 27 = .ok (.iload_n 2, 1) := by decide +kernel
theorem d_XT_codeOf_28 : decode b_XT_codeOf 28 = .ok (.invokestatic 30, 3) := by decide +kernel
theorem d_XT_codeOf_31 : decode b_XT_codeOf 31 = .ok (.iadd, 1) := by decide +kernel
theorem d_XT_codeOf_32 : decode b_XT_codeOf 32 = .ok (.ireturn, 1) := by decide +kernel
def wp_XT_codeOf (post : Int32 → Unit → Prop) (a_1 : Int32) (v_slot : Nat → Int32) : Prop := (vp_in a_1 60 ∧ (∀ x_2 : Int32, x_2 = ((((7919 : Int32) * a_1) + ((31 : Int32) * (v_slot a_1.toNatClampNeg))) + (12345 : Int32)) - ((((7919 : Int32) * a_1) + ((31 : Int32) * (v_slot a_1.toNatClampNeg))) + (12345 : Int32)) / (100000 : Int32) * (100000 : Int32) → wp_X_checkOf (fun r_3 _ => post ((x_2 * (10 : Int32)) + r_3) ()) x_2))
set_option maxHeartbeats 4000000 in
set_option maxRecDepth 100000 in
theorem c_XT_codeOf (l : Launch) (hl9 : l.stackTraces = false) (dC : Nat → ClassId) (dI : Nat → Nat → Nat) (cI cJ cZ : ClassId) (q_0 q_slot q_guests q_kind q_returned : Nat) (a_1 : Int32) (v_slot : Nat → Int32) (v_made : Int32) (post : Int32 → Unit → Prop) (hw : wp_XT_codeOf post a_1 v_slot) : Ki l y_XT_codeOf b_XT_codeOf 3 (some .int) ({ frames := 2, cells := 0, slots := 0, locals := 46 } : Room) dC dI cI cJ cZ [.ref q_0, .int a_1] [(q_0, .inr (2, [.ref q_slot, .ref q_guests, .ref q_kind, .ref q_returned, .int v_made])), (q_slot, .inl (cI, 60, .inl v_slot))] post (fun u : Unit => [(q_0, .inr (2, [.ref q_slot, .ref q_guests, .ref q_kind, .ref q_returned, .int v_made])), (q_slot, .inl (cI, 60, .inl v_slot))]) := by
  refine mki hl9 (own := R_XT) rfl (by decide) ?_
  intro p e s m args below meth c A C0 hnm eav hP hD
  obtain ⟨-, hx, hb, hml, hr, hown, hts, hlocks, hK, hZ, hA, hNS⟩ := id C0
  subst eav
  have hS : va_S A s.heap s.heap [] := va_S.rf
  have hl := lv_entry ([.ref q_0, .int a_1]) (n := 3) (Nat.le_of_ble_eq_true rfl)
  rw [lg_entry_eq]
  generalize (lg_sl ([.ref q_0, .int a_1]) ++ List.replicate (3 - (lg_sl ([.ref q_0, .int a_1])).length) Slot.unset).toArray = ls at hl ⊢
  have hl : lv_has ls 3 [(0, .ref q_0), (1, .int a_1)] := hl
  unfold wp_XT_codeOf at hw
  refine lv_sipush (v := (7919 : Int32)) hx hb d_XT_codeOf_0 (by decide) ?_
  refine lv_iload_n hx hb d_XT_codeOf_3 rfl (lv_at hl 1 rfl) ?_
  refine lv_imul hx hb d_XT_codeOf_4 ?_
  refine lv_bipush (v := (31 : Int32)) hx hb d_XT_codeOf_5 (by decide) ?_
  refine lv_aload_n hx hb d_XT_codeOf_7 rfl (lv_at hl 0 rfl) ?_
  refine va_get (D := (dC, dI)) (ci := 2) (v := .ref q_slot) (C := R_XT) (T := F_XT) (N := 5) hx hb hts i_XT hown hK hP 0 rfl rfl 0 (by decide) (hts _ k_20) (fun _ h9 => h9) rfl d_XT_codeOf_8 ?_
  refine lv_iload_n hx hb d_XT_codeOf_11 rfl (lv_at hl 1 rfl) ?_
  obtain ⟨h_1, hw⟩ := hw
  refine va_iald hx hb hK hP 1 0 rfl rfl h_1 d_XT_codeOf_12 ?_
  refine lv_imul hx hb d_XT_codeOf_13 ?_
  refine lv_iadd hx hb d_XT_codeOf_14 ?_
  refine lv_sipush (v := (12345 : Int32)) hx hb d_XT_codeOf_15 (by decide) ?_
  refine lv_iadd hx hb d_XT_codeOf_18 ?_
  refine lv_ldc (v := (100000 : Int32)) hx hb hown (hts _ k_243) d_XT_codeOf_19 ?_
  refine lv_irem hx hb d_XT_codeOf_21 (by decide) ?_
  refine lv_topi (fun x_2 ex_2 => ?_)
  have hw := hw x_2 ex_2
  refine lv_istore_n (lv' := [(2, .int x_2), (0, .ref q_0), (1, .int a_1)]) hx hb d_XT_codeOf_22 rfl hl (by decide) rfl (fun ls hl => ?_)
  refine lv_iload_n hx hb d_XT_codeOf_23 rfl (lv_at hl 0 rfl) ?_
  refine lv_bipush (v := (10 : Int32)) hx hb d_XT_codeOf_24 (by decide) ?_
  refine lv_imul hx hb d_XT_codeOf_26 ?_
  refine lv_iload_n hx hb d_XT_codeOf_27 rfl (lv_at hl 0 rfl) ?_
  refine jn_i C0 hP hD hS [] [0, 1] (ru_SN C0 (As := [.int x_2]) (rest := [.int (x_2 * (10 : Int32))]) (c_X_checkOf l hl9 dC dI cI cJ cZ x_2 _ hw _) k_245 (zn hZ z_22) k_246 k_86 (n9 := 1) (by decide +kernel) rfl ⟨Nat.le_of_ble_eq_true rfl, Nat.le_of_ble_eq_true rfl⟩ hP hD hS [] rfl (by decide) hl.1 rfl (Nat.le_of_ble_eq_true rfl) d_XT_codeOf_28 ⟨Nat.le_of_ble_eq_true rfl, Nat.le_of_ble_eq_true rfl⟩) rfl rfl (by decide) (by decide) (fun r_3 u H locs hw hP hD hS => ?_)
  try dsimp only at hw
  have hP : va_P (dC, dI) classes [(q_0, .inr (2, [.ref q_slot, .ref q_guests, .ref q_kind, .ref q_returned, .int v_made])), (q_slot, .inl (cI, 60, .inl v_slot))] H := hP
  have hD : va_D A [(q_0, .inr (2, [.ref q_slot, .ref q_guests, .ref q_kind, .ref q_returned, .int v_made])), (q_slot, .inl (cI, 60, .inl v_slot))] := hD
  refine lv_iadd hx hb d_XT_codeOf_31 ?_
  exact rt_i (u := ()) C0 hw hP hD hS (by decide) (by decide) d_XT_codeOf_32
theorem d_XT_find_0 : decode b_XT_find 0 = .ok (.iconst 0, 1) := by decide +kernel
theorem d_XT_find_1 : decode b_XT_find 1 = .ok (.istore_n 2, 1) := by decide +kernel
theorem d_XT_find_2 : decode b_XT_find 2 = .ok (.iload_n 2, 1) := by decide +kernel
theorem d_XT_find_3 : decode b_XT_find 3 = .ok (.aload_n 0, 1) := by decide +kernel
theorem d_XT_find_4 : decode b_XT_find 4 = .ok (.getfield 25, 3) := by decide +kernel
theorem d_XT_find_7 : decode b_XT_find 7 = .ok (.if_icmp .ge 20, 3) := by decide +kernel
theorem d_XT_find_10 : decode b_XT_find 10 = .ok (.aload_n 0, 1) := by decide +kernel
theorem d_XT_find_11 : decode b_XT_find 11 = .ok (.iload_n 2, 1) := by decide +kernel
theorem d_XT_find_12 : decode b_XT_find 12 = .ok (.invokevirtual 34, 3) := by decide +kernel
theorem d_XT_find_15 : decode b_XT_find 15 = .ok (.iload_n 1, 1) := by decide +kernel
theorem d_XT_find_16 : decode b_XT_find 16 = .ok (.if_icmp .ne 5, 3) := by decide +kernel
theorem d_XT_find_19 : decode b_XT_find 19 = .ok (.iload_n 2, 1) := by decide +kernel
theorem d_XT_find_20 : decode b_XT_find 20 = .ok (.ireturn, 1) := by decide +kernel
theorem d_XT_find_21 : decode b_XT_find 21 = .ok (.iinc 2 1, 3) := by decide +kernel
theorem d_XT_find_24 : decode b_XT_find 24 = .ok (.goto (-22), 3) := by decide +kernel
theorem d_XT_find_27 : decode b_XT_find 27 = .ok (.iconst (-1), 1) := by decide +kernel
theorem d_XT_find_28 : decode b_XT_find 28 = .ok (.ireturn, 1) := by decide +kernel
def gl_XT_find_2 (p : Program) (l : Launch) (e : Env) (s : State) (m : MethodId) (args : Array Value) (below : List Frame) (meth : Method) (c : Code) (R : Room) (A : Nat → Prop) (Q : State → Prop) (dC : Nat → ClassId) (dI : Nat → Nat → Nat) (cI cJ cZ : ClassId) (q_0 q_slot q_guests q_kind q_returned : Nat) (v_slot : Nat → Int32) (v_made : Int32) (l_1 : Int32) (l_2 : Int32) : Prop :=
  ∀ (H : Heap) (locs : List Loc), va_P (dC, dI) classes [(q_0, .inr (2, [.ref q_slot, .ref q_guests, .ref q_kind, .ref q_returned, .int v_made])), (q_slot, .inl (cI, 60, .inl v_slot))] H → va_D A [(q_0, .inr (2, [.ref q_slot, .ref q_guests, .ref q_kind, .ref q_returned, .int v_made])), (q_slot, .inl (cI, 60, .inl v_slot))] → va_S A s.heap H locs → ∀ ls : Array Slot, lv_has ls 3 [(0, .ref q_0), (1, .int l_1), (2, .int l_2)] → W p l e R s m args below meth c H locs 0 0 Q (F0 m 2 ls [])
def wp_XT_find_2 (post : Int32 → Unit → Prop) (v_slot : Nat → Int32) (v_made : Int32) : Nat → Int32 → Int32 → Prop
  | 0 => fun _ _ => False
  | n_2 + 1 => fun l_1 l_2 => ((v_made ≤ l_2 → post (-1 : Int32) ()) ∧ (¬ (v_made ≤ l_2) → wp_XT_codeOf (fun r_2 _ => ((r_2 = l_1 → post l_2 ()) ∧ (¬ (r_2 = l_1) → (∀ x_4 : Int32, x_4 = l_2 + (1 : Int32) → (wp_XT_find_2 post v_slot v_made n_2) l_1 x_4)))) l_2 v_slot))
set_option maxHeartbeats 4000000 in
set_option maxRecDepth 100000 in
theorem t_XT_find_2 {p : Program} {l : Launch} {e : Env} {s : State} {m : MethodId} {args : Array Value} {below : List Frame} {meth : Method} {c : Code} {dC : Nat → ClassId} {dI : Nat → Nat → Nat} {cI cJ cZ : ClassId} {A : Nat → Prop} {q_0 : Nat} {q_slot : Nat} {q_guests : Nat} {q_kind : Nat} {q_returned : Nat} {v_slot : Nat → Int32} {v_made : Int32} {post : Int32 → Unit → Prop} (C0 : cxM b_XT_find 3 (some .int) R_XT l dC dI cI cJ cZ A p s m args meth c) : ∀ (n_2 : Nat) (l_1 : Int32) (l_2 : Int32), wp_XT_find_2 post v_slot v_made n_2 l_1 l_2 → gl_XT_find_2 p l e s m args below meth c ({ frames := 3, cells := 0, slots := 0, locals := 68 } : Room) A (Qi below args s A dC dI cI cJ cZ ({ frames := 3, cells := 0, slots := 0, locals := 68 } : Room) post (fun u : Unit => [(q_0, .inr (2, [.ref q_slot, .ref q_guests, .ref q_kind, .ref q_returned, .int v_made])), (q_slot, .inl (cI, 60, .inl v_slot))])) dC dI cI cJ cZ q_0 q_slot q_guests q_kind q_returned v_slot v_made l_1 l_2 := by
  obtain ⟨hl9, hx, hb, hml, hr, hown, hts, hlocks, hK, hZ, hA, hNS⟩ := id C0
  intro n_2
  induction n_2 with
  | zero => intro _ _ hw; exact hw.elim
  | succ n_2 ih =>
    intro l_1 l_2 hw H locs hP hD hS ls hl
    refine lv_iload_n hx hb d_XT_find_2 rfl (lv_at hl 2 rfl) ?_
    refine lv_aload_n hx hb d_XT_find_3 rfl (lv_at hl 0 rfl) ?_
    refine va_get (D := (dC, dI)) (ci := 2) (v := .int v_made) (C := R_XT) (T := F_XT) (N := 5) hx hb hts i_XT hown hK hP 0 rfl rfl 4 (by decide) (hts _ k_139) (fun _ h9 => h9) rfl d_XT_find_4 ?_
    refine lv_icmp_ge (tgt := 27) hx hb d_XT_find_7 (by decide) (fun c_1 => ?_) (fun c_1 => ?_)
    · have hw := hw.1 c_1
      refine lv_iconst (v := (-1 : Int32)) hx hb d_XT_find_27 (by decide) ?_
      exact rt_i (u := ()) C0 hw hP hD hS (by decide) (by decide) d_XT_find_28
    · have hw := hw.2 c_1
      refine lv_aload_n hx hb d_XT_find_10 rfl (lv_at hl 0 rfl) ?_
      refine lv_iload_n hx hb d_XT_find_11 rfl (lv_at hl 2 rfl) ?_
      refine jn_i C0 hP hD hS [0, 1] [] (ru_V C0 (As := [.int l_2]) (rest := []) (c_XT_codeOf l hl9 dC dI cI cJ cZ q_0 q_slot q_guests q_kind q_returned l_2 v_slot v_made _ hw _) k_247 k_253 k_249 k_250 k_18 (n9 := 1) (by decide +kernel) rfl (ci := 2) rfl rfl ⟨Nat.le_of_ble_eq_true rfl, Nat.le_of_ble_eq_true rfl⟩ hP hD hS [0, 1] rfl (by decide) hl.1 rfl (Nat.le_of_ble_eq_true rfl) d_XT_find_12 ⟨Nat.le_of_ble_eq_true rfl, Nat.le_of_ble_eq_true rfl⟩) rfl rfl (by decide) (by decide) (fun r_2 u H locs hw hP hD hS => ?_)
      try dsimp only at hw
      have hP : va_P (dC, dI) classes [(q_0, .inr (2, [.ref q_slot, .ref q_guests, .ref q_kind, .ref q_returned, .int v_made])), (q_slot, .inl (cI, 60, .inl v_slot))] H := hP
      have hD : va_D A [(q_0, .inr (2, [.ref q_slot, .ref q_guests, .ref q_kind, .ref q_returned, .int v_made])), (q_slot, .inl (cI, 60, .inl v_slot))] := hD
      refine lv_iload_n hx hb d_XT_find_15 rfl (lv_at hl 1 rfl) ?_
      refine lv_icmp_ne (tgt := 21) hx hb d_XT_find_16 (by decide) (fun c_3 => ?_) (fun c_3 => ?_)
      · have hw := hw.2 c_3
        obtain ⟨x_4, ex_4⟩ : ∃ y : Int32, y = l_2 + (1 : Int32) := ⟨_, rfl⟩
        have hw := hw x_4 ex_4
        refine lv_iinc (v := x_4) (lv' := [(2, .int x_4), (0, .ref q_0), (1, .int l_1)]) hx hb d_XT_find_21 hl (k := 2) rfl (by rw [ex_4]; rfl) (by decide) rfl (fun ls hl => ?_)
        refine lv_goto (tgt := 2) hx hb d_XT_find_24 (by decide) ?_
        exact ih l_1 x_4 hw _ _ hP hD hS _ (lv_sub hl [1, 2, 0] rfl)
      · have hw := hw.1 c_3
        refine lv_iload_n hx hb d_XT_find_19 rfl (lv_at hl 2 rfl) ?_
        exact rt_i (u := ()) C0 hw hP hD hS (by decide) (by decide) d_XT_find_20
def wp_XT_find (post : Int32 → Unit → Prop) (a_1 : Int32) (v_slot : Nat → Int32) (v_made : Int32) : Prop := ∃ n_2, wp_XT_find_2 post v_slot v_made n_2 a_1 (0 : Int32)
set_option maxHeartbeats 4000000 in
set_option maxRecDepth 100000 in
theorem c_XT_find (l : Launch) (hl9 : l.stackTraces = false) (dC : Nat → ClassId) (dI : Nat → Nat → Nat) (cI cJ cZ : ClassId) (q_0 q_slot q_guests q_kind q_returned : Nat) (a_1 : Int32) (v_slot : Nat → Int32) (v_made : Int32) (post : Int32 → Unit → Prop) (hw : wp_XT_find post a_1 v_slot v_made) : Ki l y_XT_find b_XT_find 3 (some .int) ({ frames := 3, cells := 0, slots := 0, locals := 68 } : Room) dC dI cI cJ cZ [.ref q_0, .int a_1] [(q_0, .inr (2, [.ref q_slot, .ref q_guests, .ref q_kind, .ref q_returned, .int v_made])), (q_slot, .inl (cI, 60, .inl v_slot))] post (fun u : Unit => [(q_0, .inr (2, [.ref q_slot, .ref q_guests, .ref q_kind, .ref q_returned, .int v_made])), (q_slot, .inl (cI, 60, .inl v_slot))]) := by
  refine mki hl9 (own := R_XT) rfl (by decide) ?_
  intro p e s m args below meth c A C0 hnm eav hP hD
  obtain ⟨-, hx, hb, hml, hr, hown, hts, hlocks, hK, hZ, hA, hNS⟩ := id C0
  subst eav
  have hS : va_S A s.heap s.heap [] := va_S.rf
  have hl := lv_entry ([.ref q_0, .int a_1]) (n := 3) (Nat.le_of_ble_eq_true rfl)
  rw [lg_entry_eq]
  generalize (lg_sl ([.ref q_0, .int a_1]) ++ List.replicate (3 - (lg_sl ([.ref q_0, .int a_1])).length) Slot.unset).toArray = ls at hl ⊢
  have hl : lv_has ls 3 [(0, .ref q_0), (1, .int a_1)] := hl
  unfold wp_XT_find at hw
  refine lv_iconst (v := (0 : Int32)) hx hb d_XT_find_0 (by decide) ?_
  refine lv_istore_n (lv' := [(2, .int (0 : Int32)), (0, .ref q_0), (1, .int a_1)]) hx hb d_XT_find_1 rfl hl (by decide) rfl (fun ls hl => ?_)
  obtain ⟨n_2, hw⟩ := hw
  exact t_XT_find_2 (post := post) C0 n_2 a_1 (0 : Int32) hw _ _ hP hD hS _ (lv_sub hl [1, 2, 0] rfl)
