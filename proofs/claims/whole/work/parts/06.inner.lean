theorem d_XC_init_0 : decode b_XC_init 0 = .ok (.aload_n 0, 1) := by decide +kernel
theorem d_XC_init_1 : decode b_XC_init 1 = .ok (.invokespecial 3, 3) := by decide +kernel
theorem d_XC_init_4 : decode b_XC_init 4 = .ok (.aload_n 0, 1) := by decide +kernel
theorem d_XC_init_5 : decode b_XC_init 5 = .ok (.bipush 115, 2) := by decide +kernel
theorem d_XC_init_7 : decode b_XC_init 7 = .ok (.newarray .long, 2) := by decide +kernel
theorem d_XC_init_9 : decode b_XC_init 9 = .ok (.putfield 11, 3) := by decide +kernel
theorem d_XC_init_12 : decode b_XC_init 12 = .ok (.return_, 1) := by decide +kernel
def wp_XC_init (post : ((Nat) × (Nat → Int64)) → Prop) : Prop := (∀ q_1 : Nat, post (q_1, (fun _ => (0 : Int64))))
set_option maxHeartbeats 4000000 in
set_option maxRecDepth 100000 in
theorem c_XC_init (l : Launch) (hl9 : l.stackTraces = false) (dC : Nat → ClassId) (dI : Nat → Nat → Nat) (cI cJ cZ : ClassId) (q_0 : Nat) (post : ((Nat) × (Nat → Int64)) → Prop) (hw : wp_XC_init post) : Kv l y_XC_init b_XC_init 1 none ({ frames := 1, cells := 1, slots := 115, locals := 22 } : Room) dC dI cI cJ cZ [.ref q_0] [(q_0, .inr (4, [.null]))] post (fun u : (Nat) × (Nat → Int64) => [(q_0, .inr (4, [.ref u.1])), (u.1, .inl (cJ, 115, .inr (.inl u.2)))]) := by
  refine mkv hl9 (own := R_XC) rfl (by decide) ?_
  intro p e s m args below meth c A C0 hnm eav hP hD
  obtain ⟨-, hx, hb, hml, hr, hown, hts, hlocks, hK, hZ, hA, hNS⟩ := id C0
  subst eav
  have hS : va_S A s.heap s.heap [] := va_S.rf
  have hl := lv_entry ([.ref q_0]) (n := 1) (Nat.le_of_ble_eq_true rfl)
  rw [lg_entry_eq]
  generalize (lg_sl ([.ref q_0]) ++ List.replicate (1 - (lg_sl ([.ref q_0])).length) Slot.unset).toArray = ls at hl ⊢
  have hl : lv_has ls 1 [(0, .ref q_0)] := hl
  unfold wp_XC_init at hw
  refine lv_aload_n hx hb d_XC_init_0 rfl (lv_at hl 0 rfl) ?_
  refine W.objInit hx hb hown (hts _ k_42) (hts _ k_1) (hts _ k_2) rfl (by rw [hml]; exact hl.1) rfl d_XC_init_1 (Nat.le_of_ble_eq_true rfl) (Nat.le_of_ble_eq_true rfl) ?_
  refine W.eq (g2 := F0 m 4 _ []) rfl ?_
  refine lv_aload_n hx hb d_XC_init_4 rfl (lv_at hl 0 rfl) ?_
  refine lv_bipush (v := (115 : Int32)) hx hb d_XC_init_5 (by decide) ?_
  refine nwaJ C0 k_43 hP hD hS (N9 := 115) (by decide) (by decide) (by decide) (by decide) (by decide) d_XC_init_7 (fun q_1 H hP hD hS => ?_)
  have hw := hw q_1
  have hP : va_P (dC, dI) classes [(q_0, .inr (4, [.null])), (q_1, .inl (cJ, 115, .inr (.inl (fun _ => (0 : Int64)))))] H := hP
  have hD : va_D A [(q_0, .inr (4, [.null])), (q_1, .inl (cJ, 115, .inr (.inl (fun _ => (0 : Int64)))))] := hD
  refine va_putF (D := (dC, dI)) (ci := 4) (v := .ref q_1) (ty := (.array .long)) (C := R_XC) (T := F_XC) (N := 1) hx hb hts i_XC t_XC t_XC_ok n_XC hown hK hP hD hS 0 rfl rfl 0 (by decide) (hts _ k_44) (fun _ h9 => h9) rfl hnm rfl (by decide +kernel) rfl rfl (Nat.le_of_ble_eq_true rfl) d_XC_init_9 (fun H locs hP hD hS => ?_)
  have hP : va_P (dC, dI) classes [(q_0, .inr (4, [.ref q_1])), (q_1, .inl (cJ, 115, .inr (.inl (fun _ => (0 : Int64)))))] H := hP
  have hD : va_D A [(q_0, .inr (4, [.ref q_1])), (q_1, .inl (cJ, 115, .inr (.inl (fun _ => (0 : Int64)))))] := hD
  exact rt_v (u := (q_1, (fun _ => (0 : Int64)))) C0 hw hP hD hS (by decide) (by decide) d_XC_init_12
theorem d_XF_init_0 : decode b_XF_init 0 = .ok (.aload_n 0, 1) := by decide +kernel
theorem d_XF_init_1 : decode b_XF_init 1 = .ok (.invokespecial 3, 3) := by decide +kernel
theorem d_XF_init_4 : decode b_XF_init 4 = .ok (.aload_n 0, 1) := by decide +kernel
theorem d_XF_init_5 : decode b_XF_init 5 = .ok (.bipush 60, 2) := by decide +kernel
theorem d_XF_init_7 : decode b_XF_init 7 = .ok (.newarray .int, 2) := by decide +kernel
theorem d_XF_init_9 : decode b_XF_init 9 = .ok (.putfield 9, 3) := by decide +kernel
theorem d_XF_init_12 : decode b_XF_init 12 = .ok (.aload_n 0, 1) := by decide +kernel
theorem d_XF_init_13 : decode b_XF_init 13 = .ok (.iconst 5, 1) := by decide +kernel
theorem d_XF_init_14 : decode b_XF_init 14 = .ok (.newarray .int, 2) := by decide +kernel
theorem d_XF_init_16 : decode b_XF_init 16 = .ok (.putfield 15, 3) := by decide +kernel
theorem d_XF_init_19 : decode b_XF_init 19 = .ok (.aload_n 0, 1) := by decide +kernel
theorem d_XF_init_20 : decode b_XF_init 20 = .ok (.bipush 10, 2) := by decide +kernel
theorem d_XF_init_22 : decode b_XF_init 22 = .ok (.newarray .int, 2) := by decide +kernel
theorem d_XF_init_24 : decode b_XF_init 24 = .ok (.putfield 18, 3) := by decide +kernel
theorem d_XF_init_27 : decode b_XF_init 27 = .ok (.aload_n 0, 1) := by decide +kernel
theorem d_XF_init_28 : decode b_XF_init 28 = .ok (.iconst 5, 1) := by decide +kernel
theorem d_XF_init_29 : decode b_XF_init 29 = .ok (.newarray .int, 2) := by decide +kernel
theorem d_XF_init_31 : decode b_XF_init 31 = .ok (.putfield 21, 3) := by decide +kernel
theorem d_XF_init_34 : decode b_XF_init 34 = .ok (.aload_n 0, 1) := by decide +kernel
theorem d_XF_init_35 : decode b_XF_init 35 = .ok (.bipush 10, 2) := by decide +kernel
theorem d_XF_init_37 : decode b_XF_init 37 = .ok (.newarray .int, 2) := by decide +kernel
theorem d_XF_init_39 : decode b_XF_init 39 = .ok (.putfield 24, 3) := by decide +kernel
theorem d_XF_init_42 : decode b_XF_init 42 = .ok (.return_, 1) := by decide +kernel
def wp_XF_init (post : ((Nat) × (Nat) × (Nat) × (Nat) × (Nat) × (Nat → Int32) × (Int32) × (Nat → Int32) × (Nat → Int32) × (Int32) × (Nat → Int32) × (Nat → Int32) × (Int32) × (Int32) × (Int32) × (Int32) × (Int32)) → Prop) : Prop := (∀ q_1 : Nat, (∀ q_2 : Nat, (∀ q_3 : Nat, (∀ q_4 : Nat, (∀ q_5 : Nat, post (q_1, q_2, q_3, q_4, q_5, (fun _ => (0 : Int32)), (0 : Int32), (fun _ => (0 : Int32)), (fun _ => (0 : Int32)), (0 : Int32), (fun _ => (0 : Int32)), (fun _ => (0 : Int32)), (0 : Int32), (0 : Int32), (0 : Int32), (0 : Int32), (0 : Int32)))))))
set_option maxHeartbeats 4000000 in
set_option maxRecDepth 100000 in
theorem c_XF_init (l : Launch) (hl9 : l.stackTraces = false) (dC : Nat → ClassId) (dI : Nat → Nat → Nat) (cI cJ cZ : ClassId) (q_0 : Nat) (post : ((Nat) × (Nat) × (Nat) × (Nat) × (Nat) × (Nat → Int32) × (Int32) × (Nat → Int32) × (Nat → Int32) × (Int32) × (Nat → Int32) × (Nat → Int32) × (Int32) × (Int32) × (Int32) × (Int32) × (Int32)) → Prop) (hw : wp_XF_init post) : Kv l y_XF_init b_XF_init 1 none ({ frames := 1, cells := 5, slots := 90, locals := 22 } : Room) dC dI cI cJ cZ [.ref q_0] [(q_0, .inr (5, [.null, .int (0 : Int32), .null, .null, .int (0 : Int32), .null, .null, .int (0 : Int32), .int (0 : Int32), .int (0 : Int32), .int (0 : Int32), .int (0 : Int32)]))] post (fun u : (Nat) × (Nat) × (Nat) × (Nat) × (Nat) × (Nat → Int32) × (Int32) × (Nat → Int32) × (Nat → Int32) × (Int32) × (Nat → Int32) × (Nat → Int32) × (Int32) × (Int32) × (Int32) × (Int32) × (Int32) => [(q_0, .inr (5, [.ref u.1, .int u.2.2.2.2.2.2.1, .ref u.2.1, .ref u.2.2.1, .int u.2.2.2.2.2.2.2.2.2.1, .ref u.2.2.2.1, .ref u.2.2.2.2.1, .int u.2.2.2.2.2.2.2.2.2.2.2.2.1, .int u.2.2.2.2.2.2.2.2.2.2.2.2.2.1, .int u.2.2.2.2.2.2.2.2.2.2.2.2.2.2.1, .int u.2.2.2.2.2.2.2.2.2.2.2.2.2.2.2.1, .int u.2.2.2.2.2.2.2.2.2.2.2.2.2.2.2.2])), (u.1, .inl (cI, 60, .inl u.2.2.2.2.2.1)), (u.2.1, .inl (cI, 5, .inl u.2.2.2.2.2.2.2.1)), (u.2.2.1, .inl (cI, 10, .inl u.2.2.2.2.2.2.2.2.1)), (u.2.2.2.1, .inl (cI, 5, .inl u.2.2.2.2.2.2.2.2.2.2.1)), (u.2.2.2.2.1, .inl (cI, 10, .inl u.2.2.2.2.2.2.2.2.2.2.2.1))]) := by
  refine mkv hl9 (own := R_XF) rfl (by decide) ?_
  intro p e s m args below meth c A C0 hnm eav hP hD
  obtain ⟨-, hx, hb, hml, hr, hown, hts, hlocks, hK, hZ, hA, hNS⟩ := id C0
  subst eav
  have hS : va_S A s.heap s.heap [] := va_S.rf
  have hl := lv_entry ([.ref q_0]) (n := 1) (Nat.le_of_ble_eq_true rfl)
  rw [lg_entry_eq]
  generalize (lg_sl ([.ref q_0]) ++ List.replicate (1 - (lg_sl ([.ref q_0])).length) Slot.unset).toArray = ls at hl ⊢
  have hl : lv_has ls 1 [(0, .ref q_0)] := hl
  unfold wp_XF_init at hw
  refine lv_aload_n hx hb d_XF_init_0 rfl (lv_at hl 0 rfl) ?_
  refine W.objInit hx hb hown (hts _ k_51) (hts _ k_1) (hts _ k_2) rfl (by rw [hml]; exact hl.1) rfl d_XF_init_1 (Nat.le_of_ble_eq_true rfl) (Nat.le_of_ble_eq_true rfl) ?_
  refine W.eq (g2 := F0 m 4 _ []) rfl ?_
  refine lv_aload_n hx hb d_XF_init_4 rfl (lv_at hl 0 rfl) ?_
  refine lv_bipush (v := (60 : Int32)) hx hb d_XF_init_5 (by decide) ?_
  refine nwaI C0 k_7 hP hD hS (N9 := 60) (by decide) (by decide) (by decide) (by decide) (by decide) d_XF_init_7 (fun q_1 H hP hD hS => ?_)
  have hw := hw q_1
  have hP : va_P (dC, dI) classes [(q_0, .inr (5, [.null, .int (0 : Int32), .null, .null, .int (0 : Int32), .null, .null, .int (0 : Int32), .int (0 : Int32), .int (0 : Int32), .int (0 : Int32), .int (0 : Int32)])), (q_1, .inl (cI, 60, .inl (fun _ => (0 : Int32))))] H := hP
  have hD : va_D A [(q_0, .inr (5, [.null, .int (0 : Int32), .null, .null, .int (0 : Int32), .null, .null, .int (0 : Int32), .int (0 : Int32), .int (0 : Int32), .int (0 : Int32), .int (0 : Int32)])), (q_1, .inl (cI, 60, .inl (fun _ => (0 : Int32))))] := hD
  refine va_putF (D := (dC, dI)) (ci := 5) (v := .ref q_1) (ty := (.array .int)) (C := R_XF) (T := F_XF) (N := 12) hx hb hts i_XF t_XF t_XF_ok n_XF hown hK hP hD hS 0 rfl rfl 0 (by decide) (hts _ k_52) (fun _ h9 => h9) rfl hnm rfl (by decide +kernel) rfl rfl (Nat.le_of_ble_eq_true rfl) d_XF_init_9 (fun H locs hP hD hS => ?_)
  have hP : va_P (dC, dI) classes [(q_0, .inr (5, [.ref q_1, .int (0 : Int32), .null, .null, .int (0 : Int32), .null, .null, .int (0 : Int32), .int (0 : Int32), .int (0 : Int32), .int (0 : Int32), .int (0 : Int32)])), (q_1, .inl (cI, 60, .inl (fun _ => (0 : Int32))))] H := hP
  have hD : va_D A [(q_0, .inr (5, [.ref q_1, .int (0 : Int32), .null, .null, .int (0 : Int32), .null, .null, .int (0 : Int32), .int (0 : Int32), .int (0 : Int32), .int (0 : Int32), .int (0 : Int32)])), (q_1, .inl (cI, 60, .inl (fun _ => (0 : Int32))))] := hD
  refine lv_aload_n hx hb d_XF_init_12 rfl (lv_at hl 0 rfl) ?_
  refine lv_iconst (v := (5 : Int32)) hx hb d_XF_init_13 (by decide) ?_
  refine nwaI C0 k_7 hP hD hS (N9 := 5) (by decide) (by decide) (by decide) (by decide) (by decide) d_XF_init_14 (fun q_2 H hP hD hS => ?_)
  have hw := hw q_2
  have hP : va_P (dC, dI) classes [(q_0, .inr (5, [.ref q_1, .int (0 : Int32), .null, .null, .int (0 : Int32), .null, .null, .int (0 : Int32), .int (0 : Int32), .int (0 : Int32), .int (0 : Int32), .int (0 : Int32)])), (q_1, .inl (cI, 60, .inl (fun _ => (0 : Int32)))), (q_2, .inl (cI, 5, .inl (fun _ => (0 : Int32))))] H := hP
  have hD : va_D A [(q_0, .inr (5, [.ref q_1, .int (0 : Int32), .null, .null, .int (0 : Int32), .null, .null, .int (0 : Int32), .int (0 : Int32), .int (0 : Int32), .int (0 : Int32), .int (0 : Int32)])), (q_1, .inl (cI, 60, .inl (fun _ => (0 : Int32)))), (q_2, .inl (cI, 5, .inl (fun _ => (0 : Int32))))] := hD
  refine va_putF (D := (dC, dI)) (ci := 5) (v := .ref q_2) (ty := (.array .int)) (C := R_XF) (T := F_XF) (N := 12) hx hb hts i_XF t_XF t_XF_ok n_XF hown hK hP hD hS 0 rfl rfl 2 (by decide) (hts _ k_53) (fun _ h9 => h9) rfl hnm rfl (by decide +kernel) rfl rfl (Nat.le_of_ble_eq_true rfl) d_XF_init_16 (fun H locs hP hD hS => ?_)
  have hP : va_P (dC, dI) classes [(q_0, .inr (5, [.ref q_1, .int (0 : Int32), .ref q_2, .null, .int (0 : Int32), .null, .null, .int (0 : Int32), .int (0 : Int32), .int (0 : Int32), .int (0 : Int32), .int (0 : Int32)])), (q_1, .inl (cI, 60, .inl (fun _ => (0 : Int32)))), (q_2, .inl (cI, 5, .inl (fun _ => (0 : Int32))))] H := hP
  have hD : va_D A [(q_0, .inr (5, [.ref q_1, .int (0 : Int32), .ref q_2, .null, .int (0 : Int32), .null, .null, .int (0 : Int32), .int (0 : Int32), .int (0 : Int32), .int (0 : Int32), .int (0 : Int32)])), (q_1, .inl (cI, 60, .inl (fun _ => (0 : Int32)))), (q_2, .inl (cI, 5, .inl (fun _ => (0 : Int32))))] := hD
  refine lv_aload_n hx hb d_XF_init_19 rfl (lv_at hl 0 rfl) ?_
  refine lv_bipush (v := (10 : Int32)) hx hb d_XF_init_20 (by decide) ?_
  refine nwaI C0 k_7 hP hD hS (N9 := 10) (by decide) (by decide) (by decide) (by decide) (by decide) d_XF_init_22 (fun q_3 H hP hD hS => ?_)
  have hw := hw q_3
  have hP : va_P (dC, dI) classes [(q_0, .inr (5, [.ref q_1, .int (0 : Int32), .ref q_2, .null, .int (0 : Int32), .null, .null, .int (0 : Int32), .int (0 : Int32), .int (0 : Int32), .int (0 : Int32), .int (0 : Int32)])), (q_1, .inl (cI, 60, .inl (fun _ => (0 : Int32)))), (q_2, .inl (cI, 5, .inl (fun _ => (0 : Int32)))), (q_3, .inl (cI, 10, .inl (fun _ => (0 : Int32))))] H := hP
  have hD : va_D A [(q_0, .inr (5, [.ref q_1, .int (0 : Int32), .ref q_2, .null, .int (0 : Int32), .null, .null, .int (0 : Int32), .int (0 : Int32), .int (0 : Int32), .int (0 : Int32), .int (0 : Int32)])), (q_1, .inl (cI, 60, .inl (fun _ => (0 : Int32)))), (q_2, .inl (cI, 5, .inl (fun _ => (0 : Int32)))), (q_3, .inl (cI, 10, .inl (fun _ => (0 : Int32))))] := hD
  refine va_putF (D := (dC, dI)) (ci := 5) (v := .ref q_3) (ty := (.array .int)) (C := R_XF) (T := F_XF) (N := 12) hx hb hts i_XF t_XF t_XF_ok n_XF hown hK hP hD hS 0 rfl rfl 3 (by decide) (hts _ k_54) (fun _ h9 => h9) rfl hnm rfl (by decide +kernel) rfl rfl (Nat.le_of_ble_eq_true rfl) d_XF_init_24 (fun H locs hP hD hS => ?_)
  have hP : va_P (dC, dI) classes [(q_0, .inr (5, [.ref q_1, .int (0 : Int32), .ref q_2, .ref q_3, .int (0 : Int32), .null, .null, .int (0 : Int32), .int (0 : Int32), .int (0 : Int32), .int (0 : Int32), .int (0 : Int32)])), (q_1, .inl (cI, 60, .inl (fun _ => (0 : Int32)))), (q_2, .inl (cI, 5, .inl (fun _ => (0 : Int32)))), (q_3, .inl (cI, 10, .inl (fun _ => (0 : Int32))))] H := hP
  have hD : va_D A [(q_0, .inr (5, [.ref q_1, .int (0 : Int32), .ref q_2, .ref q_3, .int (0 : Int32), .null, .null, .int (0 : Int32), .int (0 : Int32), .int (0 : Int32), .int (0 : Int32), .int (0 : Int32)])), (q_1, .inl (cI, 60, .inl (fun _ => (0 : Int32)))), (q_2, .inl (cI, 5, .inl (fun _ => (0 : Int32)))), (q_3, .inl (cI, 10, .inl (fun _ => (0 : Int32))))] := hD
  refine lv_aload_n hx hb d_XF_init_27 rfl (lv_at hl 0 rfl) ?_
  refine lv_iconst (v := (5 : Int32)) hx hb d_XF_init_28 (by decide) ?_
  refine nwaI C0 k_7 hP hD hS (N9 := 5) (by decide) (by decide) (by decide) (by decide) (by decide) d_XF_init_29 (fun q_4 H hP hD hS => ?_)
  have hw := hw q_4
  have hP : va_P (dC, dI) classes [(q_0, .inr (5, [.ref q_1, .int (0 : Int32), .ref q_2, .ref q_3, .int (0 : Int32), .null, .null, .int (0 : Int32), .int (0 : Int32), .int (0 : Int32), .int (0 : Int32), .int (0 : Int32)])), (q_1, .inl (cI, 60, .inl (fun _ => (0 : Int32)))), (q_2, .inl (cI, 5, .inl (fun _ => (0 : Int32)))), (q_3, .inl (cI, 10, .inl (fun _ => (0 : Int32)))), (q_4, .inl (cI, 5, .inl (fun _ => (0 : Int32))))] H := hP
  have hD : va_D A [(q_0, .inr (5, [.ref q_1, .int (0 : Int32), .ref q_2, .ref q_3, .int (0 : Int32), .null, .null, .int (0 : Int32), .int (0 : Int32), .int (0 : Int32), .int (0 : Int32), .int (0 : Int32)])), (q_1, .inl (cI, 60, .inl (fun _ => (0 : Int32)))), (q_2, .inl (cI, 5, .inl (fun _ => (0 : Int32)))), (q_3, .inl (cI, 10, .inl (fun _ => (0 : Int32)))), (q_4, .inl (cI, 5, .inl (fun _ => (0 : Int32))))] := hD
  refine va_putF (D := (dC, dI)) (ci := 5) (v := .ref q_4) (ty := (.array .int)) (C := R_XF) (T := F_XF) (N := 12) hx hb hts i_XF t_XF t_XF_ok n_XF hown hK hP hD hS 0 rfl rfl 5 (by decide) (hts _ k_55) (fun _ h9 => h9) rfl hnm rfl (by decide +kernel) rfl rfl (Nat.le_of_ble_eq_true rfl) d_XF_init_31 (fun H locs hP hD hS => ?_)
  have hP : va_P (dC, dI) classes [(q_0, .inr (5, [.ref q_1, .int (0 : Int32), .ref q_2, .ref q_3, .int (0 : Int32), .ref q_4, .null, .int (0 : Int32), .int (0 : Int32), .int (0 : Int32), .int (0 : Int32), .int (0 : Int32)])), (q_1, .inl (cI, 60, .inl (fun _ => (0 : Int32)))), (q_2, .inl (cI, 5, .inl (fun _ => (0 : Int32)))), (q_3, .inl (cI, 10, .inl (fun _ => (0 : Int32)))), (q_4, .inl (cI, 5, .inl (fun _ => (0 : Int32))))] H := hP
  have hD : va_D A [(q_0, .inr (5, [.ref q_1, .int (0 : Int32), .ref q_2, .ref q_3, .int (0 : Int32), .ref q_4, .null, .int (0 : Int32), .int (0 : Int32), .int (0 : Int32), .int (0 : Int32), .int (0 : Int32)])), (q_1, .inl (cI, 60, .inl (fun _ => (0 : Int32)))), (q_2, .inl (cI, 5, .inl (fun _ => (0 : Int32)))), (q_3, .inl (cI, 10, .inl (fun _ => (0 : Int32)))), (q_4, .inl (cI, 5, .inl (fun _ => (0 : Int32))))] := hD
  refine lv_aload_n hx hb d_XF_init_34 rfl (lv_at hl 0 rfl) ?_
  refine lv_bipush (v := (10 : Int32)) hx hb d_XF_init_35 (by decide) ?_
  refine nwaI C0 k_7 hP hD hS (N9 := 10) (by decide) (by decide) (by decide) (by decide) (by decide) d_XF_init_37 (fun q_5 H hP hD hS => ?_)
  have hw := hw q_5
  have hP : va_P (dC, dI) classes [(q_0, .inr (5, [.ref q_1, .int (0 : Int32), .ref q_2, .ref q_3, .int (0 : Int32), .ref q_4, .null, .int (0 : Int32), .int (0 : Int32), .int (0 : Int32), .int (0 : Int32), .int (0 : Int32)])), (q_1, .inl (cI, 60, .inl (fun _ => (0 : Int32)))), (q_2, .inl (cI, 5, .inl (fun _ => (0 : Int32)))), (q_3, .inl (cI, 10, .inl (fun _ => (0 : Int32)))), (q_4, .inl (cI, 5, .inl (fun _ => (0 : Int32)))), (q_5, .inl (cI, 10, .inl (fun _ => (0 : Int32))))] H := hP
  have hD : va_D A [(q_0, .inr (5, [.ref q_1, .int (0 : Int32), .ref q_2, .ref q_3, .int (0 : Int32), .ref q_4, .null, .int (0 : Int32), .int (0 : Int32), .int (0 : Int32), .int (0 : Int32), .int (0 : Int32)])), (q_1, .inl (cI, 60, .inl (fun _ => (0 : Int32)))), (q_2, .inl (cI, 5, .inl (fun _ => (0 : Int32)))), (q_3, .inl (cI, 10, .inl (fun _ => (0 : Int32)))), (q_4, .inl (cI, 5, .inl (fun _ => (0 : Int32)))), (q_5, .inl (cI, 10, .inl (fun _ => (0 : Int32))))] := hD
  refine va_putF (D := (dC, dI)) (ci := 5) (v := .ref q_5) (ty := (.array .int)) (C := R_XF) (T := F_XF) (N := 12) hx hb hts i_XF t_XF t_XF_ok n_XF hown hK hP hD hS 0 rfl rfl 6 (by decide) (hts _ k_56) (fun _ h9 => h9) rfl hnm rfl (by decide +kernel) rfl rfl (Nat.le_of_ble_eq_true rfl) d_XF_init_39 (fun H locs hP hD hS => ?_)
  have hP : va_P (dC, dI) classes [(q_0, .inr (5, [.ref q_1, .int (0 : Int32), .ref q_2, .ref q_3, .int (0 : Int32), .ref q_4, .ref q_5, .int (0 : Int32), .int (0 : Int32), .int (0 : Int32), .int (0 : Int32), .int (0 : Int32)])), (q_1, .inl (cI, 60, .inl (fun _ => (0 : Int32)))), (q_2, .inl (cI, 5, .inl (fun _ => (0 : Int32)))), (q_3, .inl (cI, 10, .inl (fun _ => (0 : Int32)))), (q_4, .inl (cI, 5, .inl (fun _ => (0 : Int32)))), (q_5, .inl (cI, 10, .inl (fun _ => (0 : Int32))))] H := hP
  have hD : va_D A [(q_0, .inr (5, [.ref q_1, .int (0 : Int32), .ref q_2, .ref q_3, .int (0 : Int32), .ref q_4, .ref q_5, .int (0 : Int32), .int (0 : Int32), .int (0 : Int32), .int (0 : Int32), .int (0 : Int32)])), (q_1, .inl (cI, 60, .inl (fun _ => (0 : Int32)))), (q_2, .inl (cI, 5, .inl (fun _ => (0 : Int32)))), (q_3, .inl (cI, 10, .inl (fun _ => (0 : Int32)))), (q_4, .inl (cI, 5, .inl (fun _ => (0 : Int32)))), (q_5, .inl (cI, 10, .inl (fun _ => (0 : Int32))))] := hD
  exact rt_v (u := (q_1, q_2, q_3, q_4, q_5, (fun _ => (0 : Int32)), (0 : Int32), (fun _ => (0 : Int32)), (fun _ => (0 : Int32)), (0 : Int32), (fun _ => (0 : Int32)), (fun _ => (0 : Int32)), (0 : Int32), (0 : Int32), (0 : Int32), (0 : Int32), (0 : Int32))) C0 hw hP hD hS (by decide) (by decide) d_XF_init_42
theorem d_XD_init_0 : decode b_XD_init 0 = .ok (.aload_n 0, 1) := by decide +kernel
theorem d_XD_init_1 : decode b_XD_init 1 = .ok (.invokespecial 3, 3) := by decide +kernel
theorem d_XD_init_4 : decode b_XD_init 4 = .ok (.aload_n 0, 1) := by decide +kernel
theorem d_XD_init_5 : decode b_XD_init 5 = .ok (.sipush 360, 3) := by decide +kernel
theorem d_XD_init_8 : decode b_XD_init 8 = .ok (.newarray .int, 2) := by decide +kernel
theorem d_XD_init_10 : decode b_XD_init 10 = .ok (.putfield 9, 3) := by decide +kernel
theorem d_XD_init_13 : decode b_XD_init 13 = .ok (.aload_n 0, 1) := by decide +kernel
theorem d_XD_init_14 : decode b_XD_init 14 = .ok (.bipush 6, 2) := by decide +kernel
theorem d_XD_init_16 : decode b_XD_init 16 = .ok (.newarray .int, 2) := by decide +kernel
theorem d_XD_init_18 : decode b_XD_init 18 = .ok (.putfield 15, 3) := by decide +kernel
theorem d_XD_init_21 : decode b_XD_init 21 = .ok (.aload_n 0, 1) := by decide +kernel
theorem d_XD_init_22 : decode b_XD_init 22 = .ok (.bipush 60, 2) := by decide +kernel
theorem d_XD_init_24 : decode b_XD_init 24 = .ok (.newarray .int, 2) := by decide +kernel
theorem d_XD_init_26 : decode b_XD_init 26 = .ok (.putfield 18, 3) := by decide +kernel
theorem d_XD_init_29 : decode b_XD_init 29 = .ok (.aload_n 0, 1) := by decide +kernel
theorem d_XD_init_30 : decode b_XD_init 30 = .ok (.sipush 300, 3) := by decide +kernel
theorem d_XD_init_33 : decode b_XD_init 33 = .ok (.newarray .int, 2) := by decide +kernel
theorem d_XD_init_35 : decode b_XD_init 35 = .ok (.putfield 21, 3) := by decide +kernel
theorem d_XD_init_38 : decode b_XD_init 38 = .ok (.aload_n 0, 1) := by decide +kernel
theorem d_XD_init_39 : decode b_XD_init 39 = .ok (.bipush 60, 2) := by decide +kernel
theorem d_XD_init_41 : decode b_XD_init 41 = .ok (.newarray .int, 2) := by decide +kernel
theorem d_XD_init_43 : decode b_XD_init 43 = .ok (.putfield 24, 3) := by decide +kernel
theorem d_XD_init_46 : decode b_XD_init 46 = .ok (.aload_n 0, 1) := by decide +kernel
theorem d_XD_init_47 : decode b_XD_init 47 = .ok (.getfield 9, 3) := by decide +kernel
theorem d_XD_init_50 : decode b_XD_init 50 = .ok (.iconst (-1), 1) := by decide +kernel
theorem d_XD_init_51 : decode b_XD_init 51 = .ok (.invokestatic 27, 3) := by decide +kernel
theorem d_XD_init_54 : decode b_XD_init 54 = .ok (.aload_n 0, 1) := by decide +kernel
theorem d_XD_init_55 : decode b_XD_init 55 = .ok (.getfield 18, 3) := by decide +kernel
theorem d_XD_init_58 : decode b_XD_init 58 = .ok (.iconst (-1), 1) := by decide +kernel
theorem d_XD_init_59 : decode b_XD_init 59 = .ok (.invokestatic 27, 3) := by decide +kernel
theorem d_XD_init_62 : decode b_XD_init 62 = .ok (.aload_n 0, 1) := by decide +kernel
theorem d_XD_init_63 : decode b_XD_init 63 = .ok (.getfield 24, 3) := by decide +kernel
theorem d_XD_init_66 : decode b_XD_init 66 = .ok (.iconst (-1), 1) := by decide +kernel
theorem d_XD_init_67 : decode b_XD_init 67 = .ok (.invokestatic 27, 3) := by decide +kernel
theorem d_XD_init_70 : decode b_XD_init 70 = .ok (.return_, 1) := by decide +kernel
def wp_XD_init (post : ((Nat) × (Nat) × (Nat) × (Nat) × (Nat) × (Nat → Int32) × (Nat → Int32) × (Nat → Int32) × (Nat → Int32) × (Int32) × (Nat → Int32)) → Prop) : Prop := (∀ q_1 : Nat, (∀ q_2 : Nat, (∀ q_3 : Nat, (∀ q_4 : Nat, (∀ q_5 : Nat, wp_JA_fill_aIIV (fun f_6 => wp_JA_fill_aIIV (fun f_7 => wp_JA_fill_aIIV (fun f_8 => post (q_1, q_2, q_3, q_4, q_5, f_6, (fun _ => (0 : Int32)), f_7, (fun _ => (0 : Int32)), (0 : Int32), f_8)) 60 (-1 : Int32) (fun _ => (0 : Int32))) 60 (-1 : Int32) (fun _ => (0 : Int32))) 360 (-1 : Int32) (fun _ => (0 : Int32)))))))
set_option maxHeartbeats 4000000 in
set_option maxRecDepth 100000 in
theorem c_XD_init (l : Launch) (hl9 : l.stackTraces = false) (dC : Nat → ClassId) (dI : Nat → Nat → Nat) (cI cJ cZ : ClassId) (q_0 : Nat) (post : ((Nat) × (Nat) × (Nat) × (Nat) × (Nat) × (Nat → Int32) × (Nat → Int32) × (Nat → Int32) × (Nat → Int32) × (Int32) × (Nat → Int32)) → Prop) (hw : wp_XD_init post) : Kv l y_XD_init b_XD_init 1 none ({ frames := 1, cells := 5, slots := 786, locals := 23 } : Room) dC dI cI cJ cZ [.ref q_0] [(q_0, .inr (6, [.null, .null, .null, .null, .int (0 : Int32), .null]))] post (fun u : (Nat) × (Nat) × (Nat) × (Nat) × (Nat) × (Nat → Int32) × (Nat → Int32) × (Nat → Int32) × (Nat → Int32) × (Int32) × (Nat → Int32) => [(q_0, .inr (6, [.ref u.1, .ref u.2.1, .ref u.2.2.1, .ref u.2.2.2.1, .int u.2.2.2.2.2.2.2.2.2.1, .ref u.2.2.2.2.1])), (u.1, .inl (cI, 360, .inl u.2.2.2.2.2.1)), (u.2.1, .inl (cI, 6, .inl u.2.2.2.2.2.2.1)), (u.2.2.1, .inl (cI, 60, .inl u.2.2.2.2.2.2.2.1)), (u.2.2.2.1, .inl (cI, 300, .inl u.2.2.2.2.2.2.2.2.1)), (u.2.2.2.2.1, .inl (cI, 60, .inl u.2.2.2.2.2.2.2.2.2.2))]) := by
  refine mkv hl9 (own := R_XD) rfl (by decide) ?_
  intro p e s m args below meth c A C0 hnm eav hP hD
  obtain ⟨-, hx, hb, hml, hr, hown, hts, hlocks, hK, hZ, hA, hNS⟩ := id C0
  subst eav
  have hS : va_S A s.heap s.heap [] := va_S.rf
  have hl := lv_entry ([.ref q_0]) (n := 1) (Nat.le_of_ble_eq_true rfl)
  rw [lg_entry_eq]
  generalize (lg_sl ([.ref q_0]) ++ List.replicate (1 - (lg_sl ([.ref q_0])).length) Slot.unset).toArray = ls at hl ⊢
  have hl : lv_has ls 1 [(0, .ref q_0)] := hl
  unfold wp_XD_init at hw
  refine lv_aload_n hx hb d_XD_init_0 rfl (lv_at hl 0 rfl) ?_
  refine W.objInit hx hb hown (hts _ k_63) (hts _ k_1) (hts _ k_2) rfl (by rw [hml]; exact hl.1) rfl d_XD_init_1 (Nat.le_of_ble_eq_true rfl) (Nat.le_of_ble_eq_true rfl) ?_
  refine W.eq (g2 := F0 m 4 _ []) rfl ?_
  refine lv_aload_n hx hb d_XD_init_4 rfl (lv_at hl 0 rfl) ?_
  refine lv_sipush (v := (360 : Int32)) hx hb d_XD_init_5 (by decide) ?_
  refine nwaI C0 k_7 hP hD hS (N9 := 360) (by decide) (by decide) (by decide) (by decide) (by decide) d_XD_init_8 (fun q_1 H hP hD hS => ?_)
  have hw := hw q_1
  have hP : va_P (dC, dI) classes [(q_0, .inr (6, [.null, .null, .null, .null, .int (0 : Int32), .null])), (q_1, .inl (cI, 360, .inl (fun _ => (0 : Int32))))] H := hP
  have hD : va_D A [(q_0, .inr (6, [.null, .null, .null, .null, .int (0 : Int32), .null])), (q_1, .inl (cI, 360, .inl (fun _ => (0 : Int32))))] := hD
  refine va_putF (D := (dC, dI)) (ci := 6) (v := .ref q_1) (ty := (.array .int)) (C := R_XD) (T := F_XD) (N := 6) hx hb hts i_XD t_XD t_XD_ok n_XD hown hK hP hD hS 0 rfl rfl 0 (by decide) (hts _ k_64) (fun _ h9 => h9) rfl hnm rfl (by decide +kernel) rfl rfl (Nat.le_of_ble_eq_true rfl) d_XD_init_10 (fun H locs hP hD hS => ?_)
  have hP : va_P (dC, dI) classes [(q_0, .inr (6, [.ref q_1, .null, .null, .null, .int (0 : Int32), .null])), (q_1, .inl (cI, 360, .inl (fun _ => (0 : Int32))))] H := hP
  have hD : va_D A [(q_0, .inr (6, [.ref q_1, .null, .null, .null, .int (0 : Int32), .null])), (q_1, .inl (cI, 360, .inl (fun _ => (0 : Int32))))] := hD
  refine lv_aload_n hx hb d_XD_init_13 rfl (lv_at hl 0 rfl) ?_
  refine lv_bipush (v := (6 : Int32)) hx hb d_XD_init_14 (by decide) ?_
  refine nwaI C0 k_7 hP hD hS (N9 := 6) (by decide) (by decide) (by decide) (by decide) (by decide) d_XD_init_16 (fun q_2 H hP hD hS => ?_)
  have hw := hw q_2
  have hP : va_P (dC, dI) classes [(q_0, .inr (6, [.ref q_1, .null, .null, .null, .int (0 : Int32), .null])), (q_1, .inl (cI, 360, .inl (fun _ => (0 : Int32)))), (q_2, .inl (cI, 6, .inl (fun _ => (0 : Int32))))] H := hP
  have hD : va_D A [(q_0, .inr (6, [.ref q_1, .null, .null, .null, .int (0 : Int32), .null])), (q_1, .inl (cI, 360, .inl (fun _ => (0 : Int32)))), (q_2, .inl (cI, 6, .inl (fun _ => (0 : Int32))))] := hD
  refine va_putF (D := (dC, dI)) (ci := 6) (v := .ref q_2) (ty := (.array .int)) (C := R_XD) (T := F_XD) (N := 6) hx hb hts i_XD t_XD t_XD_ok n_XD hown hK hP hD hS 0 rfl rfl 1 (by decide) (hts _ k_65) (fun _ h9 => h9) rfl hnm rfl (by decide +kernel) rfl rfl (Nat.le_of_ble_eq_true rfl) d_XD_init_18 (fun H locs hP hD hS => ?_)
  have hP : va_P (dC, dI) classes [(q_0, .inr (6, [.ref q_1, .ref q_2, .null, .null, .int (0 : Int32), .null])), (q_1, .inl (cI, 360, .inl (fun _ => (0 : Int32)))), (q_2, .inl (cI, 6, .inl (fun _ => (0 : Int32))))] H := hP
  have hD : va_D A [(q_0, .inr (6, [.ref q_1, .ref q_2, .null, .null, .int (0 : Int32), .null])), (q_1, .inl (cI, 360, .inl (fun _ => (0 : Int32)))), (q_2, .inl (cI, 6, .inl (fun _ => (0 : Int32))))] := hD
  refine lv_aload_n hx hb d_XD_init_21 rfl (lv_at hl 0 rfl) ?_
  refine lv_bipush (v := (60 : Int32)) hx hb d_XD_init_22 (by decide) ?_
  refine nwaI C0 k_7 hP hD hS (N9 := 60) (by decide) (by decide) (by decide) (by decide) (by decide) d_XD_init_24 (fun q_3 H hP hD hS => ?_)
  have hw := hw q_3
  have hP : va_P (dC, dI) classes [(q_0, .inr (6, [.ref q_1, .ref q_2, .null, .null, .int (0 : Int32), .null])), (q_1, .inl (cI, 360, .inl (fun _ => (0 : Int32)))), (q_2, .inl (cI, 6, .inl (fun _ => (0 : Int32)))), (q_3, .inl (cI, 60, .inl (fun _ => (0 : Int32))))] H := hP
  have hD : va_D A [(q_0, .inr (6, [.ref q_1, .ref q_2, .null, .null, .int (0 : Int32), .null])), (q_1, .inl (cI, 360, .inl (fun _ => (0 : Int32)))), (q_2, .inl (cI, 6, .inl (fun _ => (0 : Int32)))), (q_3, .inl (cI, 60, .inl (fun _ => (0 : Int32))))] := hD
  refine va_putF (D := (dC, dI)) (ci := 6) (v := .ref q_3) (ty := (.array .int)) (C := R_XD) (T := F_XD) (N := 6) hx hb hts i_XD t_XD t_XD_ok n_XD hown hK hP hD hS 0 rfl rfl 2 (by decide) (hts _ k_66) (fun _ h9 => h9) rfl hnm rfl (by decide +kernel) rfl rfl (Nat.le_of_ble_eq_true rfl) d_XD_init_26 (fun H locs hP hD hS => ?_)
  have hP : va_P (dC, dI) classes [(q_0, .inr (6, [.ref q_1, .ref q_2, .ref q_3, .null, .int (0 : Int32), .null])), (q_1, .inl (cI, 360, .inl (fun _ => (0 : Int32)))), (q_2, .inl (cI, 6, .inl (fun _ => (0 : Int32)))), (q_3, .inl (cI, 60, .inl (fun _ => (0 : Int32))))] H := hP
  have hD : va_D A [(q_0, .inr (6, [.ref q_1, .ref q_2, .ref q_3, .null, .int (0 : Int32), .null])), (q_1, .inl (cI, 360, .inl (fun _ => (0 : Int32)))), (q_2, .inl (cI, 6, .inl (fun _ => (0 : Int32)))), (q_3, .inl (cI, 60, .inl (fun _ => (0 : Int32))))] := hD
  refine lv_aload_n hx hb d_XD_init_29 rfl (lv_at hl 0 rfl) ?_
  refine lv_sipush (v := (300 : Int32)) hx hb d_XD_init_30 (by decide) ?_
  refine nwaI C0 k_7 hP hD hS (N9 := 300) (by decide) (by decide) (by decide) (by decide) (by decide) d_XD_init_33 (fun q_4 H hP hD hS => ?_)
  have hw := hw q_4
  have hP : va_P (dC, dI) classes [(q_0, .inr (6, [.ref q_1, .ref q_2, .ref q_3, .null, .int (0 : Int32), .null])), (q_1, .inl (cI, 360, .inl (fun _ => (0 : Int32)))), (q_2, .inl (cI, 6, .inl (fun _ => (0 : Int32)))), (q_3, .inl (cI, 60, .inl (fun _ => (0 : Int32)))), (q_4, .inl (cI, 300, .inl (fun _ => (0 : Int32))))] H := hP
  have hD : va_D A [(q_0, .inr (6, [.ref q_1, .ref q_2, .ref q_3, .null, .int (0 : Int32), .null])), (q_1, .inl (cI, 360, .inl (fun _ => (0 : Int32)))), (q_2, .inl (cI, 6, .inl (fun _ => (0 : Int32)))), (q_3, .inl (cI, 60, .inl (fun _ => (0 : Int32)))), (q_4, .inl (cI, 300, .inl (fun _ => (0 : Int32))))] := hD
  refine va_putF (D := (dC, dI)) (ci := 6) (v := .ref q_4) (ty := (.array .int)) (C := R_XD) (T := F_XD) (N := 6) hx hb hts i_XD t_XD t_XD_ok n_XD hown hK hP hD hS 0 rfl rfl 3 (by decide) (hts _ k_67) (fun _ h9 => h9) rfl hnm rfl (by decide +kernel) rfl rfl (Nat.le_of_ble_eq_true rfl) d_XD_init_35 (fun H locs hP hD hS => ?_)
  have hP : va_P (dC, dI) classes [(q_0, .inr (6, [.ref q_1, .ref q_2, .ref q_3, .ref q_4, .int (0 : Int32), .null])), (q_1, .inl (cI, 360, .inl (fun _ => (0 : Int32)))), (q_2, .inl (cI, 6, .inl (fun _ => (0 : Int32)))), (q_3, .inl (cI, 60, .inl (fun _ => (0 : Int32)))), (q_4, .inl (cI, 300, .inl (fun _ => (0 : Int32))))] H := hP
  have hD : va_D A [(q_0, .inr (6, [.ref q_1, .ref q_2, .ref q_3, .ref q_4, .int (0 : Int32), .null])), (q_1, .inl (cI, 360, .inl (fun _ => (0 : Int32)))), (q_2, .inl (cI, 6, .inl (fun _ => (0 : Int32)))), (q_3, .inl (cI, 60, .inl (fun _ => (0 : Int32)))), (q_4, .inl (cI, 300, .inl (fun _ => (0 : Int32))))] := hD
  refine lv_aload_n hx hb d_XD_init_38 rfl (lv_at hl 0 rfl) ?_
  refine lv_bipush (v := (60 : Int32)) hx hb d_XD_init_39 (by decide) ?_
  refine nwaI C0 k_7 hP hD hS (N9 := 60) (by decide) (by decide) (by decide) (by decide) (by decide) d_XD_init_41 (fun q_5 H hP hD hS => ?_)
  have hw := hw q_5
  have hP : va_P (dC, dI) classes [(q_0, .inr (6, [.ref q_1, .ref q_2, .ref q_3, .ref q_4, .int (0 : Int32), .null])), (q_1, .inl (cI, 360, .inl (fun _ => (0 : Int32)))), (q_2, .inl (cI, 6, .inl (fun _ => (0 : Int32)))), (q_3, .inl (cI, 60, .inl (fun _ => (0 : Int32)))), (q_4, .inl (cI, 300, .inl (fun _ => (0 : Int32)))), (q_5, .inl (cI, 60, .inl (fun _ => (0 : Int32))))] H := hP
  have hD : va_D A [(q_0, .inr (6, [.ref q_1, .ref q_2, .ref q_3, .ref q_4, .int (0 : Int32), .null])), (q_1, .inl (cI, 360, .inl (fun _ => (0 : Int32)))), (q_2, .inl (cI, 6, .inl (fun _ => (0 : Int32)))), (q_3, .inl (cI, 60, .inl (fun _ => (0 : Int32)))), (q_4, .inl (cI, 300, .inl (fun _ => (0 : Int32)))), (q_5, .inl (cI, 60, .inl (fun _ => (0 : Int32))))] := hD
  refine va_putF (D := (dC, dI)) (ci := 6) (v := .ref q_5) (ty := (.array .int)) (C := R_XD) (T := F_XD) (N := 6) hx hb hts i_XD t_XD t_XD_ok n_XD hown hK hP hD hS 0 rfl rfl 5 (by decide) (hts _ k_68) (fun _ h9 => h9) rfl hnm rfl (by decide +kernel) rfl rfl (Nat.le_of_ble_eq_true rfl) d_XD_init_43 (fun H locs hP hD hS => ?_)
  have hP : va_P (dC, dI) classes [(q_0, .inr (6, [.ref q_1, .ref q_2, .ref q_3, .ref q_4, .int (0 : Int32), .ref q_5])), (q_1, .inl (cI, 360, .inl (fun _ => (0 : Int32)))), (q_2, .inl (cI, 6, .inl (fun _ => (0 : Int32)))), (q_3, .inl (cI, 60, .inl (fun _ => (0 : Int32)))), (q_4, .inl (cI, 300, .inl (fun _ => (0 : Int32)))), (q_5, .inl (cI, 60, .inl (fun _ => (0 : Int32))))] H := hP
  have hD : va_D A [(q_0, .inr (6, [.ref q_1, .ref q_2, .ref q_3, .ref q_4, .int (0 : Int32), .ref q_5])), (q_1, .inl (cI, 360, .inl (fun _ => (0 : Int32)))), (q_2, .inl (cI, 6, .inl (fun _ => (0 : Int32)))), (q_3, .inl (cI, 60, .inl (fun _ => (0 : Int32)))), (q_4, .inl (cI, 300, .inl (fun _ => (0 : Int32)))), (q_5, .inl (cI, 60, .inl (fun _ => (0 : Int32))))] := hD
  refine lv_aload_n hx hb d_XD_init_46 rfl (lv_at hl 0 rfl) ?_
  refine va_get (D := (dC, dI)) (ci := 6) (v := .ref q_1) (C := R_XD) (T := F_XD) (N := 6) hx hb hts i_XD hown hK hP 0 rfl rfl 0 (by decide) (hts _ k_64) (fun _ h9 => h9) rfl d_XD_init_47 ?_
  refine lv_iconst (v := (-1 : Int32)) hx hb d_XD_init_50 (by decide) ?_
  refine jn_v C0 hP hD hS [1] [0, 2, 3, 4, 5] (ru_SO C0 (As := [.ref q_1, .int (-1 : Int32)]) (rest := []) (c_JA_fill_aIIV l hl9 dC dI cI cJ cZ q_1 360 (-1 : Int32) (fun _ => (0 : Int32)) _ hw _) k_69 k_70 k_71 k_72 (n9 := 2) (by decide +kernel) rfl ⟨Nat.le_of_ble_eq_true rfl, Nat.le_of_ble_eq_true rfl⟩ hP hD hS [1] rfl (by decide) hl.1 rfl (Nat.le_of_ble_eq_true rfl) d_XD_init_51 ⟨Nat.le_of_ble_eq_true rfl, Nat.le_of_ble_eq_true rfl⟩) rfl rfl (by decide) (by decide) (fun u H locs hw hP hD hS => ?_)
  obtain ⟨f_6, rfl⟩ : ∃ z9, z9 = u := ⟨_, rfl⟩
  try dsimp only at hw
  have hP : va_P (dC, dI) classes [(q_0, .inr (6, [.ref q_1, .ref q_2, .ref q_3, .ref q_4, .int (0 : Int32), .ref q_5])), (q_2, .inl (cI, 6, .inl (fun _ => (0 : Int32)))), (q_3, .inl (cI, 60, .inl (fun _ => (0 : Int32)))), (q_4, .inl (cI, 300, .inl (fun _ => (0 : Int32)))), (q_5, .inl (cI, 60, .inl (fun _ => (0 : Int32)))), (q_1, .inl (cI, 360, .inl f_6))] H := hP
  have hD : va_D A [(q_0, .inr (6, [.ref q_1, .ref q_2, .ref q_3, .ref q_4, .int (0 : Int32), .ref q_5])), (q_2, .inl (cI, 6, .inl (fun _ => (0 : Int32)))), (q_3, .inl (cI, 60, .inl (fun _ => (0 : Int32)))), (q_4, .inl (cI, 300, .inl (fun _ => (0 : Int32)))), (q_5, .inl (cI, 60, .inl (fun _ => (0 : Int32)))), (q_1, .inl (cI, 360, .inl f_6))] := hD
  refine lv_aload_n hx hb d_XD_init_54 rfl (lv_at hl 0 rfl) ?_
  refine va_get (D := (dC, dI)) (ci := 6) (v := .ref q_3) (C := R_XD) (T := F_XD) (N := 6) hx hb hts i_XD hown hK hP 0 rfl rfl 2 (by decide) (hts _ k_66) (fun _ h9 => h9) rfl d_XD_init_55 ?_
  refine lv_iconst (v := (-1 : Int32)) hx hb d_XD_init_58 (by decide) ?_
  refine jn_v C0 hP hD hS [2] [0, 1, 3, 4, 5] (ru_SO C0 (As := [.ref q_3, .int (-1 : Int32)]) (rest := []) (c_JA_fill_aIIV l hl9 dC dI cI cJ cZ q_3 60 (-1 : Int32) (fun _ => (0 : Int32)) _ hw _) k_69 k_70 k_71 k_72 (n9 := 2) (by decide +kernel) rfl ⟨Nat.le_of_ble_eq_true rfl, Nat.le_of_ble_eq_true rfl⟩ hP hD hS [2] rfl (by decide) hl.1 rfl (Nat.le_of_ble_eq_true rfl) d_XD_init_59 ⟨Nat.le_of_ble_eq_true rfl, Nat.le_of_ble_eq_true rfl⟩) rfl rfl (by decide) (by decide) (fun u H locs hw hP hD hS => ?_)
  obtain ⟨f_7, rfl⟩ : ∃ z9, z9 = u := ⟨_, rfl⟩
  try dsimp only at hw
  have hP : va_P (dC, dI) classes [(q_0, .inr (6, [.ref q_1, .ref q_2, .ref q_3, .ref q_4, .int (0 : Int32), .ref q_5])), (q_2, .inl (cI, 6, .inl (fun _ => (0 : Int32)))), (q_4, .inl (cI, 300, .inl (fun _ => (0 : Int32)))), (q_5, .inl (cI, 60, .inl (fun _ => (0 : Int32)))), (q_1, .inl (cI, 360, .inl f_6)), (q_3, .inl (cI, 60, .inl f_7))] H := hP
  have hD : va_D A [(q_0, .inr (6, [.ref q_1, .ref q_2, .ref q_3, .ref q_4, .int (0 : Int32), .ref q_5])), (q_2, .inl (cI, 6, .inl (fun _ => (0 : Int32)))), (q_4, .inl (cI, 300, .inl (fun _ => (0 : Int32)))), (q_5, .inl (cI, 60, .inl (fun _ => (0 : Int32)))), (q_1, .inl (cI, 360, .inl f_6)), (q_3, .inl (cI, 60, .inl f_7))] := hD
  refine lv_aload_n hx hb d_XD_init_62 rfl (lv_at hl 0 rfl) ?_
  refine va_get (D := (dC, dI)) (ci := 6) (v := .ref q_5) (C := R_XD) (T := F_XD) (N := 6) hx hb hts i_XD hown hK hP 0 rfl rfl 5 (by decide) (hts _ k_68) (fun _ h9 => h9) rfl d_XD_init_63 ?_
  refine lv_iconst (v := (-1 : Int32)) hx hb d_XD_init_66 (by decide) ?_
  refine jn_v C0 hP hD hS [3] [0, 1, 2, 4, 5] (ru_SO C0 (As := [.ref q_5, .int (-1 : Int32)]) (rest := []) (c_JA_fill_aIIV l hl9 dC dI cI cJ cZ q_5 60 (-1 : Int32) (fun _ => (0 : Int32)) _ hw _) k_69 k_70 k_71 k_72 (n9 := 2) (by decide +kernel) rfl ⟨Nat.le_of_ble_eq_true rfl, Nat.le_of_ble_eq_true rfl⟩ hP hD hS [3] rfl (by decide) hl.1 rfl (Nat.le_of_ble_eq_true rfl) d_XD_init_67 ⟨Nat.le_of_ble_eq_true rfl, Nat.le_of_ble_eq_true rfl⟩) rfl rfl (by decide) (by decide) (fun u H locs hw hP hD hS => ?_)
  obtain ⟨f_8, rfl⟩ : ∃ z9, z9 = u := ⟨_, rfl⟩
  try dsimp only at hw
  have hP : va_P (dC, dI) classes [(q_0, .inr (6, [.ref q_1, .ref q_2, .ref q_3, .ref q_4, .int (0 : Int32), .ref q_5])), (q_2, .inl (cI, 6, .inl (fun _ => (0 : Int32)))), (q_4, .inl (cI, 300, .inl (fun _ => (0 : Int32)))), (q_1, .inl (cI, 360, .inl f_6)), (q_3, .inl (cI, 60, .inl f_7)), (q_5, .inl (cI, 60, .inl f_8))] H := hP
  have hD : va_D A [(q_0, .inr (6, [.ref q_1, .ref q_2, .ref q_3, .ref q_4, .int (0 : Int32), .ref q_5])), (q_2, .inl (cI, 6, .inl (fun _ => (0 : Int32)))), (q_4, .inl (cI, 300, .inl (fun _ => (0 : Int32)))), (q_1, .inl (cI, 360, .inl f_6)), (q_3, .inl (cI, 60, .inl f_7)), (q_5, .inl (cI, 60, .inl f_8))] := hD
  exact rt_v (u := (q_1, q_2, q_3, q_4, q_5, f_6, (fun _ => (0 : Int32)), f_7, (fun _ => (0 : Int32)), (0 : Int32), f_8)) C0 hw (hP.sub [0, 3, 1, 4, 2, 5] rfl) (hD.sub [0, 3, 1, 4, 2, 5] (by decide) rfl) hS (by decide) (by decide) d_XD_init_70
theorem d_XC_mix_0 : decode b_XC_mix 0 = .ok (.lconst 0, 1) := by decide +kernel
theorem d_XC_mix_1 : decode b_XC_mix 1 = .ok (.lstore 5, 2) := by decide +kernel
theorem d_XC_mix_3 : decode b_XC_mix 3 = .ok (.iconst 0, 1) := by decide +kernel
theorem d_XC_mix_4 : decode b_XC_mix 4 = .ok (.istore 7, 2) := by decide +kernel
theorem d_XC_mix_6 : decode b_XC_mix 6 = .ok (.iload 7, 2) := by decide +kernel
theorem d_XC_mix_8 : decode b_XC_mix 8 = .ok (.iconst 5, 1) := by decide +kernel
theorem d_XC_mix_9 : decode b_XC_mix 9 = .ok (.if_icmp .ge 69, 3) := by decide +kernel
theorem d_XC_mix_12 : decode b_XC_mix 12 = .ok (.aload_n 0, 1) := by decide +kernel
theorem d_XC_mix_13 : decode b_XC_mix 13 = .ok (.getfield 11, 3) := by decide +kernel
theorem d_XC_mix_16 : decode b_XC_mix 16 = .ok (.iload_n 1, 1) := by decide +kernel
theorem d_XC_mix_17 : decode b_XC_mix 17 = .ok (.iconst 5, 1) := by decide +kernel
theorem d_XC_mix_18 : decode b_XC_mix 18 = .ok (.imul, 1) := by decide +kernel
theorem d_XC_mix_19 : decode b_XC_mix 19 = .ok (.iload 7, 2) := by decide +kernel
theorem d_XC_mix_21 : decode b_XC_mix 21 = .ok (.iadd, 1) := by decide +kernel
theorem d_XC_mix_22 : decode b_XC_mix 22 = .ok (.laload, 1) := by decide +kernel
theorem d_XC_mix_23 : decode b_XC_mix 23 = .ok (.iload_n 2, 1) := by decide +kernel
theorem d_XC_mix_24 : decode b_XC_mix 24 = .ok (.i2l, 1) := by decide +kernel
theorem d_XC_mix_25 : decode b_XC_mix 25 = .ok (.lmul, 1) := by decide +kernel
theorem d_XC_mix_26 : decode b_XC_mix 26 = .ok (.aload_n 0, 1) := by decide +kernel
theorem d_XC_mix_27 : decode b_XC_mix 27 = .ok (.getfield 11, 3) := by decide +kernel
theorem d_XC_mix_30 : decode b_XC_mix 30 = .ok (.iload_n 3, 1) := by decide +kernel
theorem d_XC_mix_31 : decode b_XC_mix 31 = .ok (.iconst 5, 1) := by decide +kernel
theorem d_XC_mix_32 : decode b_XC_mix 32 = .ok (.imul, 1) := by decide +kernel
theorem d_XC_mix_33 : decode b_XC_mix 33 = .ok (.iload 7, 2) := by decide +kernel
theorem d_XC_mix_35 : decode b_XC_mix 35 = .ok (.iadd, 1) := by decide +kernel
theorem d_XC_mix_36 : decode b_XC_mix 36 = .ok (.laload, 1) := by decide +kernel
theorem d_XC_mix_37 : decode b_XC_mix 37 = .ok (.iload 4, 2) := by decide +kernel
theorem d_XC_mix_39 : decode b_XC_mix 39 = .ok (.i2l, 1) := by decide +kernel
theorem d_XC_mix_40 : decode b_XC_mix 40 = .ok (.lmul, 1) := by decide +kernel
theorem d_XC_mix_41 : decode b_XC_mix 41 = .ok (.ladd, 1) := by decide +kernel
theorem d_XC_mix_42 : decode b_XC_mix 42 = .ok (.lload 5, 2) := by decide +kernel
theorem d_XC_mix_44 : decode b_XC_mix 44 = .ok (.ladd, 1) := by decide +kernel
theorem d_XC_mix_45 : decode b_XC_mix 45 = .ok (.lstore 8, 2) := by decide +kernel
theorem d_XC_mix_47 : decode b_XC_mix 47 = .ok (.aload_n 0, 1) := by decide +kernel
theorem d_XC_mix_48 : decode b_XC_mix 48 = .ok (.getfield 11, 3) := by decide +kernel
theorem d_XC_mix_51 : decode b_XC_mix 51 = .ok (.iload_n 1, 1) := by decide +kernel
theorem d_XC_mix_52 : decode b_XC_mix 52 = .ok (.iconst 5, 1) := by decide +kernel
theorem d_XC_mix_53 : decode b_XC_mix 53 = .ok (.imul, 1) := by decide +kernel
theorem d_XC_mix_54 : decode b_XC_mix 54 = .ok (.iload 7, 2) := by decide +kernel
theorem d_XC_mix_56 : decode b_XC_mix 56 = .ok (.iadd, 1) := by decide +kernel
theorem d_XC_mix_57 : decode b_XC_mix 57 = .ok (.lload 8, 2) := by decide +kernel
theorem d_XC_mix_59 : decode b_XC_mix 59 = .ok (.ldc2_w 40, 3) := by decide +kernel
theorem d_XC_mix_62 : decode b_XC_mix 62 = .ok (.lrem, 1) := by decide +kernel
theorem d_XC_mix_63 : decode b_XC_mix 63 = .ok (.lastore, 1) := by decide +kernel
theorem d_XC_mix_64 : decode b_XC_mix 64 = .ok (.lload 8, 2) := by decide +kernel
theorem d_XC_mix_66 : decode b_XC_mix 66 = .ok (.ldc2_w 40, 3) := by decide +kernel
theorem d_XC_mix_69 : decode b_XC_mix 69 = .ok (.ldiv, 1) := by decide +kernel
theorem d_XC_mix_70 : decode b_XC_mix 70 = .ok (.lstore 5, 2) := by decide +kernel
theorem d_XC_mix_72 : decode b_XC_mix 72 = .ok (.iinc 7 1, 3) := by decide +kernel
theorem d_XC_mix_75 : decode b_XC_mix 75 = .ok (.goto (-69), 3) := by decide +kernel
theorem d_XC_mix_78 : decode b_XC_mix 78 = .ok (.return_, 1) := by decide +kernel
def gl_XC_mix_6 (p : Program) (l : Launch) (e : Env) (s : State) (m : MethodId) (args : Array Value) (below : List Frame) (meth : Method) (c : Code) (R : Room) (A : Nat → Prop) (Q : State → Prop) (dC : Nat → ClassId) (dI : Nat → Nat → Nat) (cI cJ cZ : ClassId) (q_0 q_ways : Nat) (l_1 : Int32) (l_2 : Int32) (l_3 : Int32) (l_4 : Int32) (l_5 : Int64) (l_7 : Int32) (v_ways : Nat → Int64) : Prop :=
  ∀ (H : Heap) (locs : List Loc), va_P (dC, dI) classes [(q_0, .inr (4, [.ref q_ways])), (q_ways, .inl (cJ, 115, .inr (.inl v_ways)))] H → va_D A [(q_0, .inr (4, [.ref q_ways])), (q_ways, .inl (cJ, 115, .inr (.inl v_ways)))] → va_S A s.heap H locs → ∀ ls : Array Slot, lv_has ls 10 [(0, .ref q_0), (1, .int l_1), (2, .int l_2), (3, .int l_3), (4, .int l_4), (5, .long l_5), (7, .int l_7)] → W p l e R s m args below meth c H locs 0 0 Q (F0 m 6 ls [])
def wp_XC_mix_6 (post : (Nat → Int64) → Prop) : Nat → Int32 → Int32 → Int32 → Int32 → Int64 → Int32 → (Nat → Int64) → Prop
  | 0 => fun _ _ _ _ _ _ _ => False
  | n_6 + 1 => fun l_1 l_2 l_3 l_4 l_5 l_7 v_ways => (((5 : Int32) ≤ l_7 → post v_ways) ∧ (¬ ((5 : Int32) ≤ l_7) → (vp_in ((l_1 * (5 : Int32)) + l_7) 115 ∧ (vp_in ((l_3 * (5 : Int32)) + l_7) 115 ∧ (∀ x_4 : Int64, x_4 = (((v_ways ((l_1 * (5 : Int32)) + l_7).toNatClampNeg) * l_2.toInt64) + ((v_ways ((l_3 * (5 : Int32)) + l_7).toNatClampNeg) * l_4.toInt64)) + l_5 → (vp_in ((l_1 * (5 : Int32)) + l_7) 115 ∧ (∀ f_6 : Nat → Int64, f_6 = vp_updL v_ways ((l_1 * (5 : Int32)) + l_7).toNatClampNeg (x_4 - x_4 / (1000000000 : Int64) * (1000000000 : Int64)) → (∀ x_7 : Int64, x_7 = x_4 / (1000000000 : Int64) → (∀ x_8 : Int32, x_8 = l_7 + (1 : Int32) → (wp_XC_mix_6 post n_6) l_1 l_2 l_3 l_4 x_7 x_8 f_6)))))))))
set_option maxHeartbeats 4000000 in
set_option maxRecDepth 100000 in
theorem t_XC_mix_6 {p : Program} {l : Launch} {e : Env} {s : State} {m : MethodId} {args : Array Value} {below : List Frame} {meth : Method} {c : Code} {dC : Nat → ClassId} {dI : Nat → Nat → Nat} {cI cJ cZ : ClassId} {A : Nat → Prop} {q_0 : Nat} {q_ways : Nat} {post : (Nat → Int64) → Prop} (C0 : cxM b_XC_mix 10 none R_XC l dC dI cI cJ cZ A p s m args meth c) : ∀ (n_6 : Nat) (l_1 : Int32) (l_2 : Int32) (l_3 : Int32) (l_4 : Int32) (l_5 : Int64) (l_7 : Int32) (v_ways : Nat → Int64), wp_XC_mix_6 post n_6 l_1 l_2 l_3 l_4 l_5 l_7 v_ways → gl_XC_mix_6 p l e s m args below meth c ({ frames := 0, cells := 0, slots := 0, locals := 0 } : Room) A (Qv below args s A dC dI cI cJ cZ ({ frames := 0, cells := 0, slots := 0, locals := 0 } : Room) post (fun u : (Nat → Int64) => [(q_0, .inr (4, [.ref q_ways])), (q_ways, .inl (cJ, 115, .inr (.inl u)))])) dC dI cI cJ cZ q_0 q_ways l_1 l_2 l_3 l_4 l_5 l_7 v_ways := by
  obtain ⟨hl9, hx, hb, hml, hr, hown, hts, hlocks, hK, hZ, hA, hNS⟩ := id C0
  intro n_6
  induction n_6 with
  | zero => intro _ _ _ _ _ _ _ hw; exact hw.elim
  | succ n_6 ih =>
    intro l_1 l_2 l_3 l_4 l_5 l_7 v_ways hw H locs hP hD hS ls hl
    refine lv_iload hx hb d_XC_mix_6 (lv_at hl 6 rfl) ?_
    refine lv_iconst (v := (5 : Int32)) hx hb d_XC_mix_8 (by decide) ?_
    refine lv_icmp_ge (tgt := 78) hx hb d_XC_mix_9 (by decide) (fun c_1 => ?_) (fun c_1 => ?_)
    · have hw := hw.1 c_1
      exact rt_v (u := v_ways) C0 hw hP hD hS (by decide) (by decide) d_XC_mix_78
    · have hw := hw.2 c_1
      refine lv_aload_n hx hb d_XC_mix_12 rfl (lv_at hl 0 rfl) ?_
      refine va_get (D := (dC, dI)) (ci := 4) (v := .ref q_ways) (C := R_XC) (T := F_XC) (N := 1) hx hb hts i_XC hown hK hP 0 rfl rfl 0 (by decide) (hts _ k_44) (fun _ h9 => h9) rfl d_XC_mix_13 ?_
      refine lv_iload_n hx hb d_XC_mix_16 rfl (lv_at hl 1 rfl) ?_
      refine lv_iconst (v := (5 : Int32)) hx hb d_XC_mix_17 (by decide) ?_
      refine lv_imul hx hb d_XC_mix_18 ?_
      refine lv_iload hx hb d_XC_mix_19 (lv_at hl 6 rfl) ?_
      refine lv_iadd hx hb d_XC_mix_21 ?_
      obtain ⟨h_2, hw⟩ := hw
      refine va_lald hx hb hK hP 1 1 rfl rfl h_2 d_XC_mix_22 ?_
      refine lv_iload_n hx hb d_XC_mix_23 rfl (lv_at hl 2 rfl) ?_
      refine lv_i2l hx hb d_XC_mix_24 rfl ?_
      refine lv_lmul hx hb d_XC_mix_25 ?_
      refine lv_aload_n hx hb d_XC_mix_26 rfl (lv_at hl 0 rfl) ?_
      refine va_get (D := (dC, dI)) (ci := 4) (v := .ref q_ways) (C := R_XC) (T := F_XC) (N := 1) hx hb hts i_XC hown hK hP 0 rfl rfl 0 (by decide) (hts _ k_44) (fun _ h9 => h9) rfl d_XC_mix_27 ?_
      refine lv_iload_n hx hb d_XC_mix_30 rfl (lv_at hl 3 rfl) ?_
      refine lv_iconst (v := (5 : Int32)) hx hb d_XC_mix_31 (by decide) ?_
      refine lv_imul hx hb d_XC_mix_32 ?_
      refine lv_iload hx hb d_XC_mix_33 (lv_at hl 6 rfl) ?_
      refine lv_iadd hx hb d_XC_mix_35 ?_
      obtain ⟨h_3, hw⟩ := hw
      refine va_lald hx hb hK hP 1 1 rfl rfl h_3 d_XC_mix_36 ?_
      refine lv_iload hx hb d_XC_mix_37 (lv_at hl 4 rfl) ?_
      refine lv_i2l hx hb d_XC_mix_39 rfl ?_
      refine lv_lmul hx hb d_XC_mix_40 ?_
      refine lv_ladd hx hb d_XC_mix_41 ?_
      refine lv_lload hx hb d_XC_mix_42 (lv_at hl 5 rfl) ?_
      refine lv_ladd hx hb d_XC_mix_44 ?_
      refine lv_topl (fun x_4 ex_4 => ?_)
      have hw := hw x_4 ex_4
      refine lv_lstore (lv' := [(8, .long x_4), (0, .ref q_0), (1, .int l_1), (2, .int l_2), (3, .int l_3), (4, .int l_4), (5, .long l_5), (7, .int l_7)]) hx hb d_XC_mix_45 hl (by decide) rfl (fun ls hl => ?_)
      refine lv_aload_n hx hb d_XC_mix_47 rfl (lv_at hl 1 rfl) ?_
      refine va_get (D := (dC, dI)) (ci := 4) (v := .ref q_ways) (C := R_XC) (T := F_XC) (N := 1) hx hb hts i_XC hown hK hP 0 rfl rfl 0 (by decide) (hts _ k_44) (fun _ h9 => h9) rfl d_XC_mix_48 ?_
      refine lv_iload_n hx hb d_XC_mix_51 rfl (lv_at hl 2 rfl) ?_
      refine lv_iconst (v := (5 : Int32)) hx hb d_XC_mix_52 (by decide) ?_
      refine lv_imul hx hb d_XC_mix_53 ?_
      refine lv_iload hx hb d_XC_mix_54 (lv_at hl 7 rfl) ?_
      refine lv_iadd hx hb d_XC_mix_56 ?_
      refine lv_lload hx hb d_XC_mix_57 (lv_at hl 0 rfl) ?_
      refine lv_ldc2 (v := (1000000000 : Int64)) hx hb hown (hts _ k_93) d_XC_mix_59 ?_
      refine lv_lrem hx hb d_XC_mix_62 (by decide) ?_
      obtain ⟨h_5, hw⟩ := hw
      refine va_last hx hb hK hP hD hS 1 1 rfl rfl h_5 d_XC_mix_63 (fun H locs hP hD hS => ?_)
      obtain ⟨f_6, ef_6⟩ : ∃ g : Nat → Int64, g = vp_updL v_ways ((l_1 * (5 : Int32)) + l_7).toNatClampNeg (x_4 - x_4 / (1000000000 : Int64) * (1000000000 : Int64)) := ⟨_, rfl⟩
      have hw := hw f_6 ef_6
      have hP : va_P (dC, dI) classes [(q_0, .inr (4, [.ref q_ways])), (q_ways, .inl (cJ, 115, .inr (.inl f_6)))] H := by rw [ef_6]; exact hP
      have hD : va_D A [(q_0, .inr (4, [.ref q_ways])), (q_ways, .inl (cJ, 115, .inr (.inl f_6)))] := by rw [ef_6]; exact hD
      refine lv_lload hx hb d_XC_mix_64 (lv_at hl 0 rfl) ?_
      refine lv_ldc2 (v := (1000000000 : Int64)) hx hb hown (hts _ k_93) d_XC_mix_66 ?_
      refine lv_ldiv hx hb d_XC_mix_69 (by decide) ?_
      refine lv_topl (fun x_7 ex_7 => ?_)
      have hw := hw x_7 ex_7
      refine lv_lstore (lv' := [(5, .long x_7), (8, .long x_4), (0, .ref q_0), (1, .int l_1), (2, .int l_2), (3, .int l_3), (4, .int l_4), (7, .int l_7)]) hx hb d_XC_mix_70 hl (by decide) rfl (fun ls hl => ?_)
      obtain ⟨x_8, ex_8⟩ : ∃ y : Int32, y = l_7 + (1 : Int32) := ⟨_, rfl⟩
      have hw := hw x_8 ex_8
      refine lv_iinc (v := x_8) (lv' := [(7, .int x_8), (5, .long x_7), (8, .long x_4), (0, .ref q_0), (1, .int l_1), (2, .int l_2), (3, .int l_3), (4, .int l_4)]) hx hb d_XC_mix_72 hl (k := 7) rfl (by rw [ex_8]; rfl) (by decide) rfl (fun ls hl => ?_)
      refine lv_goto (tgt := 6) hx hb d_XC_mix_75 (by decide) ?_
      exact ih l_1 l_2 l_3 l_4 x_7 x_8 f_6 hw _ _ hP hD hS _ (lv_sub hl [3, 4, 5, 6, 7, 1, 0] rfl)
def wp_XC_mix (post : (Nat → Int64) → Prop) (a_1 : Int32) (a_2 : Int32) (a_3 : Int32) (a_4 : Int32) (v_ways : Nat → Int64) : Prop := ∃ n_6, wp_XC_mix_6 post n_6 a_1 a_2 a_3 a_4 (0 : Int64) (0 : Int32) v_ways
set_option maxHeartbeats 4000000 in
set_option maxRecDepth 100000 in
theorem c_XC_mix (l : Launch) (hl9 : l.stackTraces = false) (dC : Nat → ClassId) (dI : Nat → Nat → Nat) (cI cJ cZ : ClassId) (q_0 q_ways : Nat) (a_1 : Int32) (a_2 : Int32) (a_3 : Int32) (a_4 : Int32) (v_ways : Nat → Int64) (post : (Nat → Int64) → Prop) (hw : wp_XC_mix post a_1 a_2 a_3 a_4 v_ways) : Kv l y_XC_mix b_XC_mix 10 none ({ frames := 0, cells := 0, slots := 0, locals := 0 } : Room) dC dI cI cJ cZ [.ref q_0, .int a_1, .int a_2, .int a_3, .int a_4] [(q_0, .inr (4, [.ref q_ways])), (q_ways, .inl (cJ, 115, .inr (.inl v_ways)))] post (fun u : (Nat → Int64) => [(q_0, .inr (4, [.ref q_ways])), (q_ways, .inl (cJ, 115, .inr (.inl u)))]) := by
  refine mkv hl9 (own := R_XC) rfl (by decide) ?_
  intro p e s m args below meth c A C0 hnm eav hP hD
  obtain ⟨-, hx, hb, hml, hr, hown, hts, hlocks, hK, hZ, hA, hNS⟩ := id C0
  subst eav
  have hS : va_S A s.heap s.heap [] := va_S.rf
  have hl := lv_entry ([.ref q_0, .int a_1, .int a_2, .int a_3, .int a_4]) (n := 10) (Nat.le_of_ble_eq_true rfl)
  rw [lg_entry_eq]
  generalize (lg_sl ([.ref q_0, .int a_1, .int a_2, .int a_3, .int a_4]) ++ List.replicate (10 - (lg_sl ([.ref q_0, .int a_1, .int a_2, .int a_3, .int a_4])).length) Slot.unset).toArray = ls at hl ⊢
  have hl : lv_has ls 10 [(0, .ref q_0), (1, .int a_1), (2, .int a_2), (3, .int a_3), (4, .int a_4)] := hl
  unfold wp_XC_mix at hw
  refine lv_lconst (v := (0 : Int64)) hx hb d_XC_mix_0 (by decide) ?_
  refine lv_lstore (lv' := [(5, .long (0 : Int64)), (0, .ref q_0), (1, .int a_1), (2, .int a_2), (3, .int a_3), (4, .int a_4)]) hx hb d_XC_mix_1 hl (by decide) rfl (fun ls hl => ?_)
  refine lv_iconst (v := (0 : Int32)) hx hb d_XC_mix_3 (by decide) ?_
  refine lv_istore (lv' := [(7, .int (0 : Int32)), (5, .long (0 : Int64)), (0, .ref q_0), (1, .int a_1), (2, .int a_2), (3, .int a_3), (4, .int a_4)]) hx hb d_XC_mix_4 hl (by decide) rfl (fun ls hl => ?_)
  obtain ⟨n_6, hw⟩ := hw
  exact t_XC_mix_6 (post := post) C0 n_6 a_1 a_2 a_3 a_4 (0 : Int64) (0 : Int32) v_ways hw _ _ hP hD hS _ (lv_sub hl [2, 3, 4, 5, 6, 1, 0] rfl)
theorem d_XC_inviteOne_0 : decode b_XC_inviteOne 0 = .ok (.aload_n 0, 1) := by decide +kernel
theorem d_XC_inviteOne_1 : decode b_XC_inviteOne 1 = .ok (.bipush 22, 2) := by decide +kernel
theorem d_XC_inviteOne_3 : decode b_XC_inviteOne 3 = .ok (.iload_n 3, 1) := by decide +kernel
theorem d_XC_inviteOne_4 : decode b_XC_inviteOne 4 = .ok (.bipush 22, 2) := by decide +kernel
theorem d_XC_inviteOne_6 : decode b_XC_inviteOne 6 = .ok (.iconst 0, 1) := by decide +kernel
theorem d_XC_inviteOne_7 : decode b_XC_inviteOne 7 = .ok (.invokevirtual 37, 3) := by decide +kernel
theorem d_XC_inviteOne_10 : decode b_XC_inviteOne 10 = .ok (.aload_n 0, 1) := by decide +kernel
theorem d_XC_inviteOne_11 : decode b_XC_inviteOne 11 = .ok (.bipush 21, 2) := by decide +kernel
theorem d_XC_inviteOne_13 : decode b_XC_inviteOne 13 = .ok (.iload_n 3, 1) := by decide +kernel
theorem d_XC_inviteOne_14 : decode b_XC_inviteOne 14 = .ok (.iload_n 1, 1) := by decide +kernel
theorem d_XC_inviteOne_15 : decode b_XC_inviteOne 15 = .ok (.iload_n 2, 1) := by decide +kernel
theorem d_XC_inviteOne_16 : decode b_XC_inviteOne 16 = .ok (.invokevirtual 37, 3) := by decide +kernel
theorem d_XC_inviteOne_19 : decode b_XC_inviteOne 19 = .ok (.iload_n 1, 1) := by decide +kernel
theorem d_XC_inviteOne_20 : decode b_XC_inviteOne 20 = .ok (.istore 4, 2) := by decide +kernel
theorem d_XC_inviteOne_22 : decode b_XC_inviteOne 22 = .ok (.iload 4, 2) := by decide +kernel
theorem d_XC_inviteOne_24 : decode b_XC_inviteOne 24 = .ok (.ifCond .le 23, 3) := by decide +kernel
theorem d_XC_inviteOne_27 : decode b_XC_inviteOne 27 = .ok (.aload_n 0, 1) := by decide +kernel
theorem d_XC_inviteOne_28 : decode b_XC_inviteOne 28 = .ok (.iload 4, 2) := by decide +kernel
theorem d_XC_inviteOne_30 : decode b_XC_inviteOne 30 = .ok (.iload_n 3, 1) := by decide +kernel
theorem d_XC_inviteOne_31 : decode b_XC_inviteOne 31 = .ok (.iload_n 2, 1) := by decide +kernel
theorem d_XC_inviteOne_32 : decode b_XC_inviteOne 32 = .ok (.isub, 1) := by decide +kernel
theorem d_XC_inviteOne_33 : decode b_XC_inviteOne 33 = .ok (.iload 4, 2) := by decide +kernel
theorem d_XC_inviteOne_35 : decode b_XC_inviteOne 35 = .ok (.iconst 1, 1) := by decide +kernel
theorem d_XC_inviteOne_36 : decode b_XC_inviteOne 36 = .ok (.isub, 1) := by decide +kernel
theorem d_XC_inviteOne_37 : decode b_XC_inviteOne 37 = .ok (.iload_n 2, 1) := by decide +kernel
theorem d_XC_inviteOne_38 : decode b_XC_inviteOne 38 = .ok (.invokevirtual 37, 3) := by decide +kernel
theorem d_XC_inviteOne_41 : decode b_XC_inviteOne 41 = .ok (.iinc 4 (-1), 3) := by decide +kernel
theorem d_XC_inviteOne_44 : decode b_XC_inviteOne 44 = .ok (.goto (-22), 3) := by decide +kernel
theorem d_XC_inviteOne_47 : decode b_XC_inviteOne 47 = .ok (.aload_n 0, 1) := by decide +kernel
theorem d_XC_inviteOne_48 : decode b_XC_inviteOne 48 = .ok (.iconst 0, 1) := by decide +kernel
theorem d_XC_inviteOne_49 : decode b_XC_inviteOne 49 = .ok (.iload_n 3, 1) := by decide +kernel
theorem d_XC_inviteOne_50 : decode b_XC_inviteOne 50 = .ok (.iload_n 2, 1) := by decide +kernel
theorem d_XC_inviteOne_51 : decode b_XC_inviteOne 51 = .ok (.isub, 1) := by decide +kernel
theorem d_XC_inviteOne_52 : decode b_XC_inviteOne 52 = .ok (.iconst 0, 1) := by decide +kernel
theorem d_XC_inviteOne_53 : decode b_XC_inviteOne 53 = .ok (.iconst 0, 1) := by decide +kernel
theorem d_XC_inviteOne_54 : decode b_XC_inviteOne 54 = .ok (.invokevirtual 37, 3) := by decide +kernel
theorem d_XC_inviteOne_57 : decode b_XC_inviteOne 57 = .ok (.return_, 1) := by decide +kernel
def gl_XC_inviteOne_22 (p : Program) (l : Launch) (e : Env) (s : State) (m : MethodId) (args : Array Value) (below : List Frame) (meth : Method) (c : Code) (R : Room) (A : Nat → Prop) (Q : State → Prop) (dC : Nat → ClassId) (dI : Nat → Nat → Nat) (cI cJ cZ : ClassId) (q_0 q_ways : Nat) (l_2 : Int32) (l_3 : Int32) (l_4 : Int32) (v_ways : Nat → Int64) : Prop :=
  ∀ (H : Heap) (locs : List Loc), va_P (dC, dI) classes [(q_0, .inr (4, [.ref q_ways])), (q_ways, .inl (cJ, 115, .inr (.inl v_ways)))] H → va_D A [(q_0, .inr (4, [.ref q_ways])), (q_ways, .inl (cJ, 115, .inr (.inl v_ways)))] → va_S A s.heap H locs → ∀ ls : Array Slot, lv_has ls 5 [(0, .ref q_0), (2, .int l_2), (3, .int l_3), (4, .int l_4)] → W p l e R s m args below meth c H locs 0 0 Q (F0 m 22 ls [])
def wp_XC_inviteOne_22 (post : (Nat → Int64) → Prop) : Nat → Int32 → Int32 → Int32 → (Nat → Int64) → Prop
  | 0 => fun _ _ _ _ => False
  | n_22 + 1 => fun l_2 l_3 l_4 v_ways => ((l_4 ≤ 0 → wp_XC_mix (fun f_4 => post f_4) (0 : Int32) (l_3 - l_2) (0 : Int32) (0 : Int32) v_ways) ∧ (¬ (l_4 ≤ 0) → wp_XC_mix (fun f_5 => (∀ x_6 : Int32, x_6 = l_4 + (-1 : Int32) → (wp_XC_inviteOne_22 post n_22) l_2 l_3 x_6 f_5)) l_4 (l_3 - l_2) (l_4 - (1 : Int32)) l_2 v_ways))
set_option maxHeartbeats 4000000 in
set_option maxRecDepth 100000 in
theorem t_XC_inviteOne_22 {p : Program} {l : Launch} {e : Env} {s : State} {m : MethodId} {args : Array Value} {below : List Frame} {meth : Method} {c : Code} {dC : Nat → ClassId} {dI : Nat → Nat → Nat} {cI cJ cZ : ClassId} {A : Nat → Prop} {q_0 : Nat} {q_ways : Nat} {post : (Nat → Int64) → Prop} (C0 : cxM b_XC_inviteOne 5 none R_XC l dC dI cI cJ cZ A p s m args meth c) : ∀ (n_22 : Nat) (l_2 : Int32) (l_3 : Int32) (l_4 : Int32) (v_ways : Nat → Int64), wp_XC_inviteOne_22 post n_22 l_2 l_3 l_4 v_ways → gl_XC_inviteOne_22 p l e s m args below meth c ({ frames := 1, cells := 0, slots := 0, locals := 29 } : Room) A (Qv below args s A dC dI cI cJ cZ ({ frames := 1, cells := 0, slots := 0, locals := 29 } : Room) post (fun u : (Nat → Int64) => [(q_0, .inr (4, [.ref q_ways])), (q_ways, .inl (cJ, 115, .inr (.inl u)))])) dC dI cI cJ cZ q_0 q_ways l_2 l_3 l_4 v_ways := by
  obtain ⟨hl9, hx, hb, hml, hr, hown, hts, hlocks, hK, hZ, hA, hNS⟩ := id C0
  intro n_22
  induction n_22 with
  | zero => intro _ _ _ _ hw; exact hw.elim
  | succ n_22 ih =>
    intro l_2 l_3 l_4 v_ways hw H locs hP hD hS ls hl
    refine lv_iload hx hb d_XC_inviteOne_22 (lv_at hl 3 rfl) ?_
    refine lv_if_le (tgt := 47) hx hb d_XC_inviteOne_24 (by decide) (fun c_3 => ?_) (fun c_3 => ?_)
    · have hw := hw.1 c_3
      refine lv_aload_n hx hb d_XC_inviteOne_47 rfl (lv_at hl 0 rfl) ?_
      refine lv_iconst (v := (0 : Int32)) hx hb d_XC_inviteOne_48 (by decide) ?_
      refine lv_iload_n hx hb d_XC_inviteOne_49 rfl (lv_at hl 2 rfl) ?_
      refine lv_iload_n hx hb d_XC_inviteOne_50 rfl (lv_at hl 1 rfl) ?_
      refine lv_isub hx hb d_XC_inviteOne_51 ?_
      refine lv_iconst (v := (0 : Int32)) hx hb d_XC_inviteOne_52 (by decide) ?_
      refine lv_iconst (v := (0 : Int32)) hx hb d_XC_inviteOne_53 (by decide) ?_
      refine jn_v C0 hP hD hS [0, 1] [] (ru_V C0 (As := [.int (0 : Int32), .int (l_3 - l_2), .int (0 : Int32), .int (0 : Int32)]) (rest := []) (c_XC_mix l hl9 dC dI cI cJ cZ q_0 q_ways (0 : Int32) (l_3 - l_2) (0 : Int32) (0 : Int32) v_ways _ hw _) k_94 k_95 k_96 k_97 k_41 (n9 := 4) (by decide +kernel) rfl (ci := 4) rfl rfl ⟨Nat.le_of_ble_eq_true rfl, Nat.le_of_ble_eq_true rfl⟩ hP hD hS [0, 1] rfl (by decide) hl.1 rfl (Nat.le_of_ble_eq_true rfl) d_XC_inviteOne_54 ⟨Nat.le_of_ble_eq_true rfl, Nat.le_of_ble_eq_true rfl⟩) rfl rfl (by decide) (by decide) (fun u H locs hw hP hD hS => ?_)
      obtain ⟨f_4, rfl⟩ : ∃ z9, z9 = u := ⟨_, rfl⟩
      try dsimp only at hw
      have hP : va_P (dC, dI) classes [(q_0, .inr (4, [.ref q_ways])), (q_ways, .inl (cJ, 115, .inr (.inl f_4)))] H := hP
      have hD : va_D A [(q_0, .inr (4, [.ref q_ways])), (q_ways, .inl (cJ, 115, .inr (.inl f_4)))] := hD
      exact rt_v (u := f_4) C0 hw hP hD hS (by decide) (by decide) d_XC_inviteOne_57
    · have hw := hw.2 c_3
      refine lv_aload_n hx hb d_XC_inviteOne_27 rfl (lv_at hl 0 rfl) ?_
      refine lv_iload hx hb d_XC_inviteOne_28 (lv_at hl 3 rfl) ?_
      refine lv_iload_n hx hb d_XC_inviteOne_30 rfl (lv_at hl 2 rfl) ?_
      refine lv_iload_n hx hb d_XC_inviteOne_31 rfl (lv_at hl 1 rfl) ?_
      refine lv_isub hx hb d_XC_inviteOne_32 ?_
      refine lv_iload hx hb d_XC_inviteOne_33 (lv_at hl 3 rfl) ?_
      refine lv_iconst (v := (1 : Int32)) hx hb d_XC_inviteOne_35 (by decide) ?_
      refine lv_isub hx hb d_XC_inviteOne_36 ?_
      refine lv_iload_n hx hb d_XC_inviteOne_37 rfl (lv_at hl 1 rfl) ?_
      refine jn_v C0 hP hD hS [0, 1] [] (ru_V C0 (As := [.int l_4, .int (l_3 - l_2), .int (l_4 - (1 : Int32)), .int l_2]) (rest := []) (c_XC_mix l hl9 dC dI cI cJ cZ q_0 q_ways l_4 (l_3 - l_2) (l_4 - (1 : Int32)) l_2 v_ways _ hw _) k_94 k_95 k_96 k_97 k_41 (n9 := 4) (by decide +kernel) rfl (ci := 4) rfl rfl ⟨Nat.le_of_ble_eq_true rfl, Nat.le_of_ble_eq_true rfl⟩ hP hD hS [0, 1] rfl (by decide) hl.1 rfl (Nat.le_of_ble_eq_true rfl) d_XC_inviteOne_38 ⟨Nat.le_of_ble_eq_true rfl, Nat.le_of_ble_eq_true rfl⟩) rfl rfl (by decide) (by decide) (fun u H locs hw hP hD hS => ?_)
      obtain ⟨f_5, rfl⟩ : ∃ z9, z9 = u := ⟨_, rfl⟩
      try dsimp only at hw
      have hP : va_P (dC, dI) classes [(q_0, .inr (4, [.ref q_ways])), (q_ways, .inl (cJ, 115, .inr (.inl f_5)))] H := hP
      have hD : va_D A [(q_0, .inr (4, [.ref q_ways])), (q_ways, .inl (cJ, 115, .inr (.inl f_5)))] := hD
      obtain ⟨x_6, ex_6⟩ : ∃ y : Int32, y = l_4 + (-1 : Int32) := ⟨_, rfl⟩
      have hw := hw x_6 ex_6
      refine lv_iinc (v := x_6) (lv' := [(4, .int x_6), (0, .ref q_0), (2, .int l_2), (3, .int l_3)]) hx hb d_XC_inviteOne_41 hl (k := 3) rfl (by rw [ex_6]; rfl) (by decide) rfl (fun ls hl => ?_)
      refine lv_goto (tgt := 22) hx hb d_XC_inviteOne_44 (by decide) ?_
      exact ih l_2 l_3 x_6 f_5 hw _ _ hP hD hS _ (lv_sub hl [1, 2, 3, 0] rfl)
def wp_XC_inviteOne (post : (Nat → Int64) → Prop) (a_1 : Int32) (a_2 : Int32) (a_3 : Int32) (v_ways : Nat → Int64) : Prop := wp_XC_mix (fun f_1 => wp_XC_mix (fun f_2 => ∃ n_22, wp_XC_inviteOne_22 post n_22 a_2 a_3 a_1 f_2) (21 : Int32) a_3 a_1 a_2 f_1) (22 : Int32) a_3 (22 : Int32) (0 : Int32) v_ways
set_option maxHeartbeats 4000000 in
set_option maxRecDepth 100000 in
theorem c_XC_inviteOne (l : Launch) (hl9 : l.stackTraces = false) (dC : Nat → ClassId) (dI : Nat → Nat → Nat) (cI cJ cZ : ClassId) (q_0 q_ways : Nat) (a_1 : Int32) (a_2 : Int32) (a_3 : Int32) (v_ways : Nat → Int64) (post : (Nat → Int64) → Prop) (hw : wp_XC_inviteOne post a_1 a_2 a_3 v_ways) : Kv l y_XC_inviteOne b_XC_inviteOne 5 none ({ frames := 1, cells := 0, slots := 0, locals := 29 } : Room) dC dI cI cJ cZ [.ref q_0, .int a_1, .int a_2, .int a_3] [(q_0, .inr (4, [.ref q_ways])), (q_ways, .inl (cJ, 115, .inr (.inl v_ways)))] post (fun u : (Nat → Int64) => [(q_0, .inr (4, [.ref q_ways])), (q_ways, .inl (cJ, 115, .inr (.inl u)))]) := by
  refine mkv hl9 (own := R_XC) rfl (by decide) ?_
  intro p e s m args below meth c A C0 hnm eav hP hD
  obtain ⟨-, hx, hb, hml, hr, hown, hts, hlocks, hK, hZ, hA, hNS⟩ := id C0
  subst eav
  have hS : va_S A s.heap s.heap [] := va_S.rf
  have hl := lv_entry ([.ref q_0, .int a_1, .int a_2, .int a_3]) (n := 5) (Nat.le_of_ble_eq_true rfl)
  rw [lg_entry_eq]
  generalize (lg_sl ([.ref q_0, .int a_1, .int a_2, .int a_3]) ++ List.replicate (5 - (lg_sl ([.ref q_0, .int a_1, .int a_2, .int a_3])).length) Slot.unset).toArray = ls at hl ⊢
  have hl : lv_has ls 5 [(0, .ref q_0), (1, .int a_1), (2, .int a_2), (3, .int a_3)] := hl
  unfold wp_XC_inviteOne at hw
  refine lv_aload_n hx hb d_XC_inviteOne_0 rfl (lv_at hl 0 rfl) ?_
  refine lv_bipush (v := (22 : Int32)) hx hb d_XC_inviteOne_1 (by decide) ?_
  refine lv_iload_n hx hb d_XC_inviteOne_3 rfl (lv_at hl 3 rfl) ?_
  refine lv_bipush (v := (22 : Int32)) hx hb d_XC_inviteOne_4 (by decide) ?_
  refine lv_iconst (v := (0 : Int32)) hx hb d_XC_inviteOne_6 (by decide) ?_
  refine jn_v C0 hP hD hS [0, 1] [] (ru_V C0 (As := [.int (22 : Int32), .int a_3, .int (22 : Int32), .int (0 : Int32)]) (rest := []) (c_XC_mix l hl9 dC dI cI cJ cZ q_0 q_ways (22 : Int32) a_3 (22 : Int32) (0 : Int32) v_ways _ hw _) k_94 k_95 k_96 k_97 k_41 (n9 := 4) (by decide +kernel) rfl (ci := 4) rfl rfl ⟨Nat.le_of_ble_eq_true rfl, Nat.le_of_ble_eq_true rfl⟩ hP hD hS [0, 1] rfl (by decide) hl.1 rfl (Nat.le_of_ble_eq_true rfl) d_XC_inviteOne_7 ⟨Nat.le_of_ble_eq_true rfl, Nat.le_of_ble_eq_true rfl⟩) rfl rfl (by decide) (by decide) (fun u H locs hw hP hD hS => ?_)
  obtain ⟨f_1, rfl⟩ : ∃ z9, z9 = u := ⟨_, rfl⟩
  try dsimp only at hw
  have hP : va_P (dC, dI) classes [(q_0, .inr (4, [.ref q_ways])), (q_ways, .inl (cJ, 115, .inr (.inl f_1)))] H := hP
  have hD : va_D A [(q_0, .inr (4, [.ref q_ways])), (q_ways, .inl (cJ, 115, .inr (.inl f_1)))] := hD
  refine lv_aload_n hx hb d_XC_inviteOne_10 rfl (lv_at hl 0 rfl) ?_
  refine lv_bipush (v := (21 : Int32)) hx hb d_XC_inviteOne_11 (by decide) ?_
  refine lv_iload_n hx hb d_XC_inviteOne_13 rfl (lv_at hl 3 rfl) ?_
  refine lv_iload_n hx hb d_XC_inviteOne_14 rfl (lv_at hl 1 rfl) ?_
  refine lv_iload_n hx hb d_XC_inviteOne_15 rfl (lv_at hl 2 rfl) ?_
  refine jn_v C0 hP hD hS [0, 1] [] (ru_V C0 (As := [.int (21 : Int32), .int a_3, .int a_1, .int a_2]) (rest := []) (c_XC_mix l hl9 dC dI cI cJ cZ q_0 q_ways (21 : Int32) a_3 a_1 a_2 f_1 _ hw _) k_94 k_95 k_96 k_97 k_41 (n9 := 4) (by decide +kernel) rfl (ci := 4) rfl rfl ⟨Nat.le_of_ble_eq_true rfl, Nat.le_of_ble_eq_true rfl⟩ hP hD hS [0, 1] rfl (by decide) hl.1 rfl (Nat.le_of_ble_eq_true rfl) d_XC_inviteOne_16 ⟨Nat.le_of_ble_eq_true rfl, Nat.le_of_ble_eq_true rfl⟩) rfl rfl (by decide) (by decide) (fun u H locs hw hP hD hS => ?_)
  obtain ⟨f_2, rfl⟩ : ∃ z9, z9 = u := ⟨_, rfl⟩
  try dsimp only at hw
  have hP : va_P (dC, dI) classes [(q_0, .inr (4, [.ref q_ways])), (q_ways, .inl (cJ, 115, .inr (.inl f_2)))] H := hP
  have hD : va_D A [(q_0, .inr (4, [.ref q_ways])), (q_ways, .inl (cJ, 115, .inr (.inl f_2)))] := hD
  refine lv_iload_n hx hb d_XC_inviteOne_19 rfl (lv_at hl 1 rfl) ?_
  refine lv_istore (lv' := [(4, .int a_1), (0, .ref q_0), (1, .int a_1), (2, .int a_2), (3, .int a_3)]) hx hb d_XC_inviteOne_20 hl (by decide) rfl (fun ls hl => ?_)
  obtain ⟨n_22, hw⟩ := hw
  exact t_XC_inviteOne_22 (post := post) C0 n_22 a_2 a_3 a_1 f_2 hw _ _ hP hD hS _ (lv_sub hl [1, 3, 4, 0] rfl)
theorem d_XC_invite_0 : decode b_XC_invite 0 = .ok (.aload_n 0, 1) := by decide +kernel
theorem d_XC_invite_1 : decode b_XC_invite 1 = .ok (.getfield 11, 3) := by decide +kernel
theorem d_XC_invite_4 : decode b_XC_invite 4 = .ok (.lconst 0, 1) := by decide +kernel
theorem d_XC_invite_5 : decode b_XC_invite 5 = .ok (.invokestatic 27, 3) := by decide +kernel
theorem d_XC_invite_8 : decode b_XC_invite 8 = .ok (.aload_n 0, 1) := by decide +kernel
theorem d_XC_invite_9 : decode b_XC_invite 9 = .ok (.getfield 11, 3) := by decide +kernel
theorem d_XC_invite_12 : decode b_XC_invite 12 = .ok (.iconst 0, 1) := by decide +kernel
theorem d_XC_invite_13 : decode b_XC_invite 13 = .ok (.lconst 1, 1) := by decide +kernel
theorem d_XC_invite_14 : decode b_XC_invite 14 = .ok (.lastore, 1) := by decide +kernel
theorem d_XC_invite_15 : decode b_XC_invite 15 = .ok (.aload_n 0, 1) := by decide +kernel
theorem d_XC_invite_16 : decode b_XC_invite 16 = .ok (.getfield 11, 3) := by decide +kernel
theorem d_XC_invite_19 : decode b_XC_invite 19 = .ok (.bipush 110, 2) := by decide +kernel
theorem d_XC_invite_21 : decode b_XC_invite 21 = .ok (.lconst 1, 1) := by decide +kernel
theorem d_XC_invite_22 : decode b_XC_invite 22 = .ok (.lastore, 1) := by decide +kernel
theorem d_XC_invite_23 : decode b_XC_invite 23 = .ok (.iconst 0, 1) := by decide +kernel
theorem d_XC_invite_24 : decode b_XC_invite 24 = .ok (.istore 5, 2) := by decide +kernel
theorem d_XC_invite_26 : decode b_XC_invite 26 = .ok (.iload 5, 2) := by decide +kernel
theorem d_XC_invite_28 : decode b_XC_invite 28 = .ok (.iload_n 1, 1) := by decide +kernel
theorem d_XC_invite_29 : decode b_XC_invite 29 = .ok (.if_icmp .ge 17, 3) := by decide +kernel
theorem d_XC_invite_32 : decode b_XC_invite 32 = .ok (.aload_n 0, 1) := by decide +kernel
theorem d_XC_invite_33 : decode b_XC_invite 33 = .ok (.iload_n 2, 1) := by decide +kernel
theorem d_XC_invite_34 : decode b_XC_invite 34 = .ok (.iload_n 3, 1) := by decide +kernel
theorem d_XC_invite_35 : decode b_XC_invite 35 = .ok (.iload 4, 2) := by decide +kernel
theorem d_XC_invite_37 : decode b_XC_invite 37 = .ok (.invokevirtual 19, 3) := by decide +kernel
theorem d_XC_invite_40 : decode b_XC_invite 40 = .ok (.iinc 5 1, 3) := by decide +kernel
theorem d_XC_invite_43 : decode b_XC_invite 43 = .ok (.goto (-17), 3) := by decide +kernel
theorem d_XC_invite_46 : decode b_XC_invite 46 = .ok (.return_, 1) := by decide +kernel
def gl_XC_invite_26 (p : Program) (l : Launch) (e : Env) (s : State) (m : MethodId) (args : Array Value) (below : List Frame) (meth : Method) (c : Code) (R : Room) (A : Nat → Prop) (Q : State → Prop) (dC : Nat → ClassId) (dI : Nat → Nat → Nat) (cI cJ cZ : ClassId) (q_0 q_ways : Nat) (l_1 : Int32) (l_2 : Int32) (l_3 : Int32) (l_4 : Int32) (l_5 : Int32) (v_ways : Nat → Int64) : Prop :=
  ∀ (H : Heap) (locs : List Loc), va_P (dC, dI) classes [(q_0, .inr (4, [.ref q_ways])), (q_ways, .inl (cJ, 115, .inr (.inl v_ways)))] H → va_D A [(q_0, .inr (4, [.ref q_ways])), (q_ways, .inl (cJ, 115, .inr (.inl v_ways)))] → va_S A s.heap H locs → ∀ ls : Array Slot, lv_has ls 6 [(0, .ref q_0), (1, .int l_1), (2, .int l_2), (3, .int l_3), (4, .int l_4), (5, .int l_5)] → W p l e R s m args below meth c H locs 0 0 Q (F0 m 26 ls [])
def wp_XC_invite_26 (post : (Nat → Int64) → Prop) : Nat → Int32 → Int32 → Int32 → Int32 → Int32 → (Nat → Int64) → Prop
  | 0 => fun _ _ _ _ _ _ => False
  | n_26 + 1 => fun l_1 l_2 l_3 l_4 l_5 v_ways => ((l_1 ≤ l_5 → post v_ways) ∧ (¬ (l_1 ≤ l_5) → wp_XC_inviteOne (fun f_5 => (∀ x_6 : Int32, x_6 = l_5 + (1 : Int32) → (wp_XC_invite_26 post n_26) l_1 l_2 l_3 l_4 x_6 f_5)) l_2 l_3 l_4 v_ways))
set_option maxHeartbeats 4000000 in
set_option maxRecDepth 100000 in
theorem t_XC_invite_26 {p : Program} {l : Launch} {e : Env} {s : State} {m : MethodId} {args : Array Value} {below : List Frame} {meth : Method} {c : Code} {dC : Nat → ClassId} {dI : Nat → Nat → Nat} {cI cJ cZ : ClassId} {A : Nat → Prop} {q_0 : Nat} {q_ways : Nat} {post : (Nat → Int64) → Prop} (C0 : cxM b_XC_invite 6 none R_XC l dC dI cI cJ cZ A p s m args meth c) : ∀ (n_26 : Nat) (l_1 : Int32) (l_2 : Int32) (l_3 : Int32) (l_4 : Int32) (l_5 : Int32) (v_ways : Nat → Int64), wp_XC_invite_26 post n_26 l_1 l_2 l_3 l_4 l_5 v_ways → gl_XC_invite_26 p l e s m args below meth c ({ frames := 2, cells := 0, slots := 0, locals := 53 } : Room) A (Qv below args s A dC dI cI cJ cZ ({ frames := 2, cells := 0, slots := 0, locals := 53 } : Room) post (fun u : (Nat → Int64) => [(q_0, .inr (4, [.ref q_ways])), (q_ways, .inl (cJ, 115, .inr (.inl u)))])) dC dI cI cJ cZ q_0 q_ways l_1 l_2 l_3 l_4 l_5 v_ways := by
  obtain ⟨hl9, hx, hb, hml, hr, hown, hts, hlocks, hK, hZ, hA, hNS⟩ := id C0
  intro n_26
  induction n_26 with
  | zero => intro _ _ _ _ _ _ hw; exact hw.elim
  | succ n_26 ih =>
    intro l_1 l_2 l_3 l_4 l_5 v_ways hw H locs hP hD hS ls hl
    refine lv_iload hx hb d_XC_invite_26 (lv_at hl 5 rfl) ?_
    refine lv_iload_n hx hb d_XC_invite_28 rfl (lv_at hl 1 rfl) ?_
    refine lv_icmp_ge (tgt := 46) hx hb d_XC_invite_29 (by decide) (fun c_4 => ?_) (fun c_4 => ?_)
    · have hw := hw.1 c_4
      exact rt_v (u := v_ways) C0 hw hP hD hS (by decide) (by decide) d_XC_invite_46
    · have hw := hw.2 c_4
      refine lv_aload_n hx hb d_XC_invite_32 rfl (lv_at hl 0 rfl) ?_
      refine lv_iload_n hx hb d_XC_invite_33 rfl (lv_at hl 2 rfl) ?_
      refine lv_iload_n hx hb d_XC_invite_34 rfl (lv_at hl 3 rfl) ?_
      refine lv_iload hx hb d_XC_invite_35 (lv_at hl 4 rfl) ?_
      refine jn_v C0 hP hD hS [0, 1] [] (ru_V C0 (As := [.int l_2, .int l_3, .int l_4]) (rest := []) (c_XC_inviteOne l hl9 dC dI cI cJ cZ q_0 q_ways l_2 l_3 l_4 v_ways _ hw _) k_98 k_99 k_100 k_101 k_41 (n9 := 3) (by decide +kernel) rfl (ci := 4) rfl rfl ⟨Nat.le_of_ble_eq_true rfl, Nat.le_of_ble_eq_true rfl⟩ hP hD hS [0, 1] rfl (by decide) hl.1 rfl (Nat.le_of_ble_eq_true rfl) d_XC_invite_37 ⟨Nat.le_of_ble_eq_true rfl, Nat.le_of_ble_eq_true rfl⟩) rfl rfl (by decide) (by decide) (fun u H locs hw hP hD hS => ?_)
      obtain ⟨f_5, rfl⟩ : ∃ z9, z9 = u := ⟨_, rfl⟩
      try dsimp only at hw
      have hP : va_P (dC, dI) classes [(q_0, .inr (4, [.ref q_ways])), (q_ways, .inl (cJ, 115, .inr (.inl f_5)))] H := hP
      have hD : va_D A [(q_0, .inr (4, [.ref q_ways])), (q_ways, .inl (cJ, 115, .inr (.inl f_5)))] := hD
      obtain ⟨x_6, ex_6⟩ : ∃ y : Int32, y = l_5 + (1 : Int32) := ⟨_, rfl⟩
      have hw := hw x_6 ex_6
      refine lv_iinc (v := x_6) (lv' := [(5, .int x_6), (0, .ref q_0), (1, .int l_1), (2, .int l_2), (3, .int l_3), (4, .int l_4)]) hx hb d_XC_invite_40 hl (k := 5) rfl (by rw [ex_6]; rfl) (by decide) rfl (fun ls hl => ?_)
      refine lv_goto (tgt := 26) hx hb d_XC_invite_43 (by decide) ?_
      exact ih l_1 l_2 l_3 l_4 x_6 f_5 hw _ _ hP hD hS _ (lv_sub hl [1, 2, 3, 4, 5, 0] rfl)
def wp_XC_invite (post : (Nat → Int64) → Prop) (a_1 : Int32) (a_2 : Int32) (a_3 : Int32) (a_4 : Int32) (v_ways : Nat → Int64) : Prop := wp_JA_fill_aJJV (fun f_1 => (∀ f_2 : Nat → Int64, f_2 = vp_updL f_1 (0 : Int32).toNatClampNeg (1 : Int64) → (∀ f_3 : Nat → Int64, f_3 = vp_updL f_2 (110 : Int32).toNatClampNeg (1 : Int64) → ∃ n_26, wp_XC_invite_26 post n_26 a_1 a_2 a_3 a_4 (0 : Int32) f_3))) 115 (0 : Int64) v_ways
set_option maxHeartbeats 4000000 in
set_option maxRecDepth 100000 in
theorem c_XC_invite (l : Launch) (hl9 : l.stackTraces = false) (dC : Nat → ClassId) (dI : Nat → Nat → Nat) (cI cJ cZ : ClassId) (q_0 q_ways : Nat) (a_1 : Int32) (a_2 : Int32) (a_3 : Int32) (a_4 : Int32) (v_ways : Nat → Int64) (post : (Nat → Int64) → Prop) (hw : wp_XC_invite post a_1 a_2 a_3 a_4 v_ways) : Kv l y_XC_invite b_XC_invite 6 none ({ frames := 2, cells := 0, slots := 0, locals := 53 } : Room) dC dI cI cJ cZ [.ref q_0, .int a_1, .int a_2, .int a_3, .int a_4] [(q_0, .inr (4, [.ref q_ways])), (q_ways, .inl (cJ, 115, .inr (.inl v_ways)))] post (fun u : (Nat → Int64) => [(q_0, .inr (4, [.ref q_ways])), (q_ways, .inl (cJ, 115, .inr (.inl u)))]) := by
  refine mkv hl9 (own := R_XC) rfl (by decide) ?_
  intro p e s m args below meth c A C0 hnm eav hP hD
  obtain ⟨-, hx, hb, hml, hr, hown, hts, hlocks, hK, hZ, hA, hNS⟩ := id C0
  subst eav
  have hS : va_S A s.heap s.heap [] := va_S.rf
  have hl := lv_entry ([.ref q_0, .int a_1, .int a_2, .int a_3, .int a_4]) (n := 6) (Nat.le_of_ble_eq_true rfl)
  rw [lg_entry_eq]
  generalize (lg_sl ([.ref q_0, .int a_1, .int a_2, .int a_3, .int a_4]) ++ List.replicate (6 - (lg_sl ([.ref q_0, .int a_1, .int a_2, .int a_3, .int a_4])).length) Slot.unset).toArray = ls at hl ⊢
  have hl : lv_has ls 6 [(0, .ref q_0), (1, .int a_1), (2, .int a_2), (3, .int a_3), (4, .int a_4)] := hl
  unfold wp_XC_invite at hw
  refine lv_aload_n hx hb d_XC_invite_0 rfl (lv_at hl 0 rfl) ?_
  refine va_get (D := (dC, dI)) (ci := 4) (v := .ref q_ways) (C := R_XC) (T := F_XC) (N := 1) hx hb hts i_XC hown hK hP 0 rfl rfl 0 (by decide) (hts _ k_44) (fun _ h9 => h9) rfl d_XC_invite_1 ?_
  refine lv_lconst (v := (0 : Int64)) hx hb d_XC_invite_4 (by decide) ?_
  refine jn_v C0 hP hD hS [1] [0] (ru_SO C0 (As := [.ref q_ways, .long (0 : Int64)]) (rest := []) (c_JA_fill_aJJV l hl9 dC dI cI cJ cZ q_ways 115 (0 : Int64) v_ways _ hw _) k_90 k_91 k_92 k_72 (n9 := 2) (by decide +kernel) rfl ⟨Nat.le_of_ble_eq_true rfl, Nat.le_of_ble_eq_true rfl⟩ hP hD hS [1] rfl (by decide) hl.1 rfl (Nat.le_of_ble_eq_true rfl) d_XC_invite_5 ⟨Nat.le_of_ble_eq_true rfl, Nat.le_of_ble_eq_true rfl⟩) rfl rfl (by decide) (by decide) (fun u H locs hw hP hD hS => ?_)
  obtain ⟨f_1, rfl⟩ : ∃ z9, z9 = u := ⟨_, rfl⟩
  try dsimp only at hw
  have hP : va_P (dC, dI) classes [(q_0, .inr (4, [.ref q_ways])), (q_ways, .inl (cJ, 115, .inr (.inl f_1)))] H := hP
  have hD : va_D A [(q_0, .inr (4, [.ref q_ways])), (q_ways, .inl (cJ, 115, .inr (.inl f_1)))] := hD
  refine lv_aload_n hx hb d_XC_invite_8 rfl (lv_at hl 0 rfl) ?_
  refine va_get (D := (dC, dI)) (ci := 4) (v := .ref q_ways) (C := R_XC) (T := F_XC) (N := 1) hx hb hts i_XC hown hK hP 0 rfl rfl 0 (by decide) (hts _ k_44) (fun _ h9 => h9) rfl d_XC_invite_9 ?_
  refine lv_iconst (v := (0 : Int32)) hx hb d_XC_invite_12 (by decide) ?_
  refine lv_lconst (v := (1 : Int64)) hx hb d_XC_invite_13 (by decide) ?_
  refine va_last hx hb hK hP hD hS 1 1 rfl rfl (show vp_in (0 : Int32) 115 from (by decide : ¬ ((0 : Int32) < 0 ∨ 115 ≤ (0 : Int32).toNatClampNeg))) d_XC_invite_14 (fun H locs hP hD hS => ?_)
  obtain ⟨f_2, ef_2⟩ : ∃ g : Nat → Int64, g = vp_updL f_1 (0 : Int32).toNatClampNeg (1 : Int64) := ⟨_, rfl⟩
  have hw := hw f_2 ef_2
  have hP : va_P (dC, dI) classes [(q_0, .inr (4, [.ref q_ways])), (q_ways, .inl (cJ, 115, .inr (.inl f_2)))] H := by rw [ef_2]; exact hP
  have hD : va_D A [(q_0, .inr (4, [.ref q_ways])), (q_ways, .inl (cJ, 115, .inr (.inl f_2)))] := by rw [ef_2]; exact hD
  refine lv_aload_n hx hb d_XC_invite_15 rfl (lv_at hl 0 rfl) ?_
  refine va_get (D := (dC, dI)) (ci := 4) (v := .ref q_ways) (C := R_XC) (T := F_XC) (N := 1) hx hb hts i_XC hown hK hP 0 rfl rfl 0 (by decide) (hts _ k_44) (fun _ h9 => h9) rfl d_XC_invite_16 ?_
  refine lv_bipush (v := (110 : Int32)) hx hb d_XC_invite_19 (by decide) ?_
  refine lv_lconst (v := (1 : Int64)) hx hb d_XC_invite_21 (by decide) ?_
  refine va_last hx hb hK hP hD hS 1 1 rfl rfl (show vp_in (110 : Int32) 115 from (by decide : ¬ ((110 : Int32) < 0 ∨ 115 ≤ (110 : Int32).toNatClampNeg))) d_XC_invite_22 (fun H locs hP hD hS => ?_)
  obtain ⟨f_3, ef_3⟩ : ∃ g : Nat → Int64, g = vp_updL f_2 (110 : Int32).toNatClampNeg (1 : Int64) := ⟨_, rfl⟩
  have hw := hw f_3 ef_3
  have hP : va_P (dC, dI) classes [(q_0, .inr (4, [.ref q_ways])), (q_ways, .inl (cJ, 115, .inr (.inl f_3)))] H := by rw [ef_3]; exact hP
  have hD : va_D A [(q_0, .inr (4, [.ref q_ways])), (q_ways, .inl (cJ, 115, .inr (.inl f_3)))] := by rw [ef_3]; exact hD
  refine lv_iconst (v := (0 : Int32)) hx hb d_XC_invite_23 (by decide) ?_
  refine lv_istore (lv' := [(5, .int (0 : Int32)), (0, .ref q_0), (1, .int a_1), (2, .int a_2), (3, .int a_3), (4, .int a_4)]) hx hb d_XC_invite_24 hl (by decide) rfl (fun ls hl => ?_)
  obtain ⟨n_26, hw⟩ := hw
  exact t_XC_invite_26 (post := post) C0 n_26 a_1 a_2 a_3 a_4 (0 : Int32) f_3 hw _ _ hP hD hS _ (lv_sub hl [1, 2, 3, 4, 5, 0] rfl)
theorem d_XC_isAbove_0 : decode b_XC_isAbove 0 = .ok (.lconst 0, 1) := by decide +kernel
theorem d_XC_isAbove_1 : decode b_XC_isAbove 1 = .ok (.lstore_n 3, 1) := by decide +kernel
theorem d_XC_isAbove_2 : decode b_XC_isAbove 2 = .ok (.iconst 0, 1) := by decide +kernel
theorem d_XC_isAbove_3 : decode b_XC_isAbove 3 = .ok (.istore 5, 2) := by decide +kernel
theorem d_XC_isAbove_5 : decode b_XC_isAbove 5 = .ok (.iconst 0, 1) := by decide +kernel
theorem d_XC_isAbove_6 : decode b_XC_isAbove 6 = .ok (.istore 6, 2) := by decide +kernel
theorem d_XC_isAbove_8 : decode b_XC_isAbove 8 = .ok (.iload 6, 2) := by decide +kernel
theorem d_XC_isAbove_10 : decode b_XC_isAbove 10 = .ok (.iconst 5, 1) := by decide +kernel
theorem d_XC_isAbove_11 : decode b_XC_isAbove 11 = .ok (.if_icmp .ge 74, 3) := by decide +kernel
theorem d_XC_isAbove_14 : decode b_XC_isAbove 14 = .ok (.aload_n 0, 1) := by decide +kernel
theorem d_XC_isAbove_15 : decode b_XC_isAbove 15 = .ok (.getfield 11, 3) := by decide +kernel
theorem d_XC_isAbove_18 : decode b_XC_isAbove 18 = .ok (.bipush 105, 2) := by decide +kernel
theorem d_XC_isAbove_20 : decode b_XC_isAbove 20 = .ok (.iload 6, 2) := by decide +kernel
theorem d_XC_isAbove_22 : decode b_XC_isAbove 22 = .ok (.iadd, 1) := by decide +kernel
theorem d_XC_isAbove_23 : decode b_XC_isAbove 23 = .ok (.laload, 1) := by decide +kernel
theorem d_XC_isAbove_24 : decode b_XC_isAbove 24 = .ok (.iload_n 2, 1) := by decide +kernel
theorem d_XC_isAbove_25 : decode b_XC_isAbove 25 = .ok (.i2l, 1) := by decide +kernel
theorem d_XC_isAbove_26 : decode b_XC_isAbove 26 = .ok (.lmul, 1) := by decide +kernel
theorem d_XC_isAbove_27 : decode b_XC_isAbove 27 = .ok (.aload_n 0, 1) := by decide +kernel
theorem d_XC_isAbove_28 : decode b_XC_isAbove 28 = .ok (.getfield 11, 3) := by decide +kernel
theorem d_XC_isAbove_31 : decode b_XC_isAbove 31 = .ok (.bipush 110, 2) := by decide +kernel
theorem d_XC_isAbove_33 : decode b_XC_isAbove 33 = .ok (.iload 6, 2) := by decide +kernel
theorem d_XC_isAbove_35 : decode b_XC_isAbove 35 = .ok (.iadd, 1) := by decide +kernel
theorem d_XC_isAbove_36 : decode b_XC_isAbove 36 = .ok (.laload, 1) := by decide +kernel
theorem d_XC_isAbove_37 : decode b_XC_isAbove 37 = .ok (.iload_n 1, 1) := by decide +kernel
theorem d_XC_isAbove_38 : decode b_XC_isAbove 38 = .ok (.i2l, 1) := by decide +kernel
theorem d_XC_isAbove_39 : decode b_XC_isAbove 39 = .ok (.lmul, 1) := by decide +kernel
theorem d_XC_isAbove_40 : decode b_XC_isAbove 40 = .ok (.lsub, 1) := by decide +kernel
theorem d_XC_isAbove_41 : decode b_XC_isAbove 41 = .ok (.lload_n 3, 1) := by decide +kernel
theorem d_XC_isAbove_42 : decode b_XC_isAbove 42 = .ok (.ladd, 1) := by decide +kernel
theorem d_XC_isAbove_43 : decode b_XC_isAbove 43 = .ok (.lstore 7, 2) := by decide +kernel
theorem d_XC_isAbove_45 : decode b_XC_isAbove 45 = .ok (.lload 7, 2) := by decide +kernel
theorem d_XC_isAbove_47 : decode b_XC_isAbove 47 = .ok (.ldc2_w 40, 3) := by decide +kernel
theorem d_XC_isAbove_50 : decode b_XC_isAbove 50 = .ok (.invokestatic 42, 3) := by decide +kernel
theorem d_XC_isAbove_53 : decode b_XC_isAbove 53 = .ok (.lstore_n 3, 1) := by decide +kernel
theorem d_XC_isAbove_54 : decode b_XC_isAbove 54 = .ok (.iload 5, 2) := by decide +kernel
theorem d_XC_isAbove_56 : decode b_XC_isAbove 56 = .ok (.ifCond .ne 16, 3) := by decide +kernel
theorem d_XC_isAbove_59 : decode b_XC_isAbove 59 = .ok (.lload 7, 2) := by decide +kernel
theorem d_XC_isAbove_61 : decode b_XC_isAbove 61 = .ok (.ldc2_w 40, 3) := by decide +kernel
theorem d_XC_isAbove_64 : decode b_XC_isAbove 64 = .ok (.invokestatic 48, 3) := by decide +kernel
theorem d_XC_isAbove_67 : decode b_XC_isAbove 67 = .ok (.lconst 0, 1) := by decide +kernel
theorem d_XC_isAbove_68 : decode b_XC_isAbove 68 = .ok (.lcmp, 1) := by decide +kernel
theorem d_XC_isAbove_69 : decode b_XC_isAbove 69 = .ok (.ifCond .eq 7, 3) := by decide +kernel
theorem d_XC_isAbove_72 : decode b_XC_isAbove 72 = .ok (.iconst 1, 1) := by decide +kernel
theorem d_XC_isAbove_73 : decode b_XC_isAbove 73 = .ok (.goto 4, 3) := by decide +kernel
theorem d_XC_isAbove_76 : decode b_XC_isAbove 76 = .ok (.iconst 0, 1) := by decide +kernel
theorem d_XC_isAbove_77 : decode b_XC_isAbove 77 = .ok (.istore 5, 2) := by decide +kernel
theorem d_XC_isAbove_79 : decode b_XC_isAbove 79 = .ok (.iinc 6 1, 3) := by decide +kernel
theorem d_XC_isAbove_82 : decode b_XC_isAbove 82 = .ok (.goto (-74), 3) := by decide +kernel
theorem d_XC_isAbove_85 : decode b_XC_isAbove 85 = .ok (.lload_n 3, 1) := by decide +kernel
theorem d_XC_isAbove_86 : decode b_XC_isAbove 86 = .ok (.lconst 0, 1) := by decide +kernel
theorem d_XC_isAbove_87 : decode b_XC_isAbove 87 = .ok (.lcmp, 1) := by decide +kernel
theorem d_XC_isAbove_88 : decode b_XC_isAbove 88 = .ok (.ifCond .lt 12, 3) := by decide +kernel
theorem d_XC_isAbove_91 : decode b_XC_isAbove 91 = .ok (.iload 5, 2) := by decide +kernel
theorem d_XC_isAbove_93 : decode b_XC_isAbove 93 = .ok (.ifCond .eq 7, 3) := by decide +kernel
theorem d_XC_isAbove_96 : decode b_XC_isAbove 96 = .ok (.iconst 1, 1) := by decide +kernel
theorem d_XC_isAbove_97 : decode b_XC_isAbove 97 = .ok (.goto 4, 3) := by decide +kernel
theorem d_XC_isAbove_100 : decode b_XC_isAbove 100 = .ok (.iconst 0, 1) := by decide +kernel
theorem d_XC_isAbove_101 : decode b_XC_isAbove 101 = .ok (.ireturn, 1) := by decide +kernel
def gl_XC_isAbove_8 (p : Program) (l : Launch) (e : Env) (s : State) (m : MethodId) (args : Array Value) (below : List Frame) (meth : Method) (c : Code) (R : Room) (A : Nat → Prop) (Q : State → Prop) (dC : Nat → ClassId) (dI : Nat → Nat → Nat) (cI cJ cZ : ClassId) (q_0 q_ways : Nat) (v_ways : Nat → Int64) (l_1 : Int32) (l_2 : Int32) (l_3 : Int64) (l_5 : Int32) (l_6 : Int32) : Prop :=
  ∀ (H : Heap) (locs : List Loc), va_P (dC, dI) classes [(q_0, .inr (4, [.ref q_ways])), (q_ways, .inl (cJ, 115, .inr (.inl v_ways)))] H → va_D A [(q_0, .inr (4, [.ref q_ways])), (q_ways, .inl (cJ, 115, .inr (.inl v_ways)))] → va_S A s.heap H locs → ∀ ls : Array Slot, lv_has ls 9 [(0, .ref q_0), (1, .int l_1), (2, .int l_2), (3, .long l_3), (5, .int l_5), (6, .int l_6)] → W p l e R s m args below meth c H locs 0 0 Q (F0 m 8 ls [])
def wp_XC_isAbove_8 (post : Int32 → Unit → Prop) (v_ways : Nat → Int64) : Nat → Int32 → Int32 → Int64 → Int32 → Int32 → Prop
  | 0 => fun _ _ _ _ _ => False
  | n_8 + 1 => fun l_1 l_2 l_3 l_5 l_6 => (((5 : Int32) ≤ l_6 → ((l_3 < (0 : Int64) → post (0 : Int32) ()) ∧ (¬ (l_3 < (0 : Int64)) → ((l_5 = 0 → post (0 : Int32) ()) ∧ (¬ (l_5 = 0) → post (1 : Int32) ()))))) ∧ (¬ ((5 : Int32) ≤ l_6) → (vp_in ((105 : Int32) + l_6) 115 ∧ (vp_in ((110 : Int32) + l_6) 115 ∧ (∀ x_6 : Int64, x_6 = (((v_ways ((105 : Int32) + l_6).toNatClampNeg) * l_2.toInt64) - ((v_ways ((110 : Int32) + l_6).toNatClampNeg) * l_1.toInt64)) + l_3 → wp_JM_floorDiv (fun r_7 _ => ((l_5 = 0 → wp_JM_floorMod (fun r_10 _ => ((r_10 = (0 : Int64) → (∀ x_12 : Int32, x_12 = l_6 + (1 : Int32) → (wp_XC_isAbove_8 post v_ways n_8) l_1 l_2 r_7 (0 : Int32) x_12)) ∧ (¬ (r_10 = (0 : Int64)) → (∀ x_13 : Int32, x_13 = l_6 + (1 : Int32) → (wp_XC_isAbove_8 post v_ways n_8) l_1 l_2 r_7 (1 : Int32) x_13)))) x_6 (1000000000 : Int64)) ∧ (¬ (l_5 = 0) → (∀ x_9 : Int32, x_9 = l_6 + (1 : Int32) → (wp_XC_isAbove_8 post v_ways n_8) l_1 l_2 r_7 (1 : Int32) x_9)))) x_6 (1000000000 : Int64))))))
set_option maxHeartbeats 4000000 in
set_option maxRecDepth 100000 in
theorem t_XC_isAbove_8 {p : Program} {l : Launch} {e : Env} {s : State} {m : MethodId} {args : Array Value} {below : List Frame} {meth : Method} {c : Code} {dC : Nat → ClassId} {dI : Nat → Nat → Nat} {cI cJ cZ : ClassId} {A : Nat → Prop} {q_0 : Nat} {q_ways : Nat} {v_ways : Nat → Int64} {post : Int32 → Unit → Prop} (C0 : cxM b_XC_isAbove 9 (some .boolean) R_XC l dC dI cI cJ cZ A p s m args meth c) : ∀ (n_8 : Nat) (l_1 : Int32) (l_2 : Int32) (l_3 : Int64) (l_5 : Int32) (l_6 : Int32), wp_XC_isAbove_8 post v_ways n_8 l_1 l_2 l_3 l_5 l_6 → gl_XC_isAbove_8 p l e s m args below meth c ({ frames := 1, cells := 0, slots := 0, locals := 25 } : Room) A (Qi below args s A dC dI cI cJ cZ ({ frames := 1, cells := 0, slots := 0, locals := 25 } : Room) post (fun u : Unit => [(q_0, .inr (4, [.ref q_ways])), (q_ways, .inl (cJ, 115, .inr (.inl v_ways)))])) dC dI cI cJ cZ q_0 q_ways v_ways l_1 l_2 l_3 l_5 l_6 := by
  obtain ⟨hl9, hx, hb, hml, hr, hown, hts, hlocks, hK, hZ, hA, hNS⟩ := id C0
  intro n_8
  induction n_8 with
  | zero => intro _ _ _ _ _ hw; exact hw.elim
  | succ n_8 ih =>
    intro l_1 l_2 l_3 l_5 l_6 hw H locs hP hD hS ls hl
    refine lv_iload hx hb d_XC_isAbove_8 (lv_at hl 5 rfl) ?_
    refine lv_iconst (v := (5 : Int32)) hx hb d_XC_isAbove_10 (by decide) ?_
    refine lv_icmp_ge (tgt := 85) hx hb d_XC_isAbove_11 (by decide) (fun c_1 => ?_) (fun c_1 => ?_)
    · have hw := hw.1 c_1
      refine lv_lload_n hx hb d_XC_isAbove_85 rfl (lv_at hl 3 rfl) ?_
      refine lv_lconst (v := (0 : Int64)) hx hb d_XC_isAbove_86 (by decide) ?_
      refine W.lcmp hx hb d_XC_isAbove_87 ?_
      refine lv_if_lt (tgt := 100) hx hb d_XC_isAbove_88 (by decide) (fun c_2 => ?_) (fun c_2 => ?_)
      · have hw := hw.1 ((lg_cmp_lt _ _).mp c_2)
        refine lv_iconst (v := (0 : Int32)) hx hb d_XC_isAbove_100 (by decide) ?_
        exact rt_z (u := ()) C0 (by decide) hw hP hD hS (by decide) (by decide) d_XC_isAbove_101
      · have hw := hw.2 (fun q9 => c_2 ((lg_cmp_lt _ _).mpr q9))
        refine lv_iload hx hb d_XC_isAbove_91 (lv_at hl 4 rfl) ?_
        refine lv_if_eq (tgt := 100) hx hb d_XC_isAbove_93 (by decide) (fun c_3 => ?_) (fun c_3 => ?_)
        · have hw := hw.1 c_3
          refine lv_iconst (v := (0 : Int32)) hx hb d_XC_isAbove_100 (by decide) ?_
          exact rt_z (u := ()) C0 (by decide) hw hP hD hS (by decide) (by decide) d_XC_isAbove_101
        · have hw := hw.2 c_3
          refine lv_iconst (v := (1 : Int32)) hx hb d_XC_isAbove_96 (by decide) ?_
          refine lv_goto (tgt := 101) hx hb d_XC_isAbove_97 (by decide) ?_
          exact rt_z (u := ()) C0 (by decide) hw hP hD hS (by decide) (by decide) d_XC_isAbove_101
    · have hw := hw.2 c_1
      refine lv_aload_n hx hb d_XC_isAbove_14 rfl (lv_at hl 0 rfl) ?_
      refine va_get (D := (dC, dI)) (ci := 4) (v := .ref q_ways) (C := R_XC) (T := F_XC) (N := 1) hx hb hts i_XC hown hK hP 0 rfl rfl 0 (by decide) (hts _ k_44) (fun _ h9 => h9) rfl d_XC_isAbove_15 ?_
      refine lv_bipush (v := (105 : Int32)) hx hb d_XC_isAbove_18 (by decide) ?_
      refine lv_iload hx hb d_XC_isAbove_20 (lv_at hl 5 rfl) ?_
      refine lv_iadd hx hb d_XC_isAbove_22 ?_
      obtain ⟨h_4, hw⟩ := hw
      refine va_lald hx hb hK hP 1 1 rfl rfl h_4 d_XC_isAbove_23 ?_
      refine lv_iload_n hx hb d_XC_isAbove_24 rfl (lv_at hl 2 rfl) ?_
      refine lv_i2l hx hb d_XC_isAbove_25 rfl ?_
      refine lv_lmul hx hb d_XC_isAbove_26 ?_
      refine lv_aload_n hx hb d_XC_isAbove_27 rfl (lv_at hl 0 rfl) ?_
      refine va_get (D := (dC, dI)) (ci := 4) (v := .ref q_ways) (C := R_XC) (T := F_XC) (N := 1) hx hb hts i_XC hown hK hP 0 rfl rfl 0 (by decide) (hts _ k_44) (fun _ h9 => h9) rfl d_XC_isAbove_28 ?_
      refine lv_bipush (v := (110 : Int32)) hx hb d_XC_isAbove_31 (by decide) ?_
      refine lv_iload hx hb d_XC_isAbove_33 (lv_at hl 5 rfl) ?_
      refine lv_iadd hx hb d_XC_isAbove_35 ?_
      obtain ⟨h_5, hw⟩ := hw
      refine va_lald hx hb hK hP 1 1 rfl rfl h_5 d_XC_isAbove_36 ?_
      refine lv_iload_n hx hb d_XC_isAbove_37 rfl (lv_at hl 1 rfl) ?_
      refine lv_i2l hx hb d_XC_isAbove_38 rfl ?_
      refine lv_lmul hx hb d_XC_isAbove_39 ?_
      refine lv_lsub hx hb d_XC_isAbove_40 ?_
      refine lv_lload_n hx hb d_XC_isAbove_41 rfl (lv_at hl 3 rfl) ?_
      refine lv_ladd hx hb d_XC_isAbove_42 ?_
      refine lv_topl (fun x_6 ex_6 => ?_)
      have hw := hw x_6 ex_6
      refine lv_lstore (lv' := [(7, .long x_6), (0, .ref q_0), (1, .int l_1), (2, .int l_2), (3, .long l_3), (5, .int l_5), (6, .int l_6)]) hx hb d_XC_isAbove_43 hl (by decide) rfl (fun ls hl => ?_)
      refine lv_lload hx hb d_XC_isAbove_45 (lv_at hl 0 rfl) ?_
      refine lv_ldc2 (v := (1000000000 : Int64)) hx hb hown (hts _ k_93) d_XC_isAbove_47 ?_
      refine jn_l C0 hP hD hS [] [0, 1] (ru_SO C0 (As := [.long x_6, .long (1000000000 : Int64)]) (rest := []) (c_JM_floorDiv l hl9 dC dI cI cJ cZ x_6 (1000000000 : Int64) _ hw _) k_106 k_107 k_108 k_109 (n9 := 2) (by decide +kernel) rfl ⟨Nat.le_of_ble_eq_true rfl, Nat.le_of_ble_eq_true rfl⟩ hP hD hS [] rfl (by decide) hl.1 rfl (Nat.le_of_ble_eq_true rfl) d_XC_isAbove_50 ⟨Nat.le_of_ble_eq_true rfl, Nat.le_of_ble_eq_true rfl⟩) rfl rfl (by decide) (by decide) (fun r_7 u H locs hw hP hD hS => ?_)
      try dsimp only at hw
      have hP : va_P (dC, dI) classes [(q_0, .inr (4, [.ref q_ways])), (q_ways, .inl (cJ, 115, .inr (.inl v_ways)))] H := hP
      have hD : va_D A [(q_0, .inr (4, [.ref q_ways])), (q_ways, .inl (cJ, 115, .inr (.inl v_ways)))] := hD
      refine lv_lstore_n (lv' := [(3, .long r_7), (7, .long x_6), (0, .ref q_0), (1, .int l_1), (2, .int l_2), (5, .int l_5), (6, .int l_6)]) hx hb d_XC_isAbove_53 rfl hl (by decide) rfl (fun ls hl => ?_)
      refine lv_iload hx hb d_XC_isAbove_54 (lv_at hl 5 rfl) ?_
      refine lv_if_ne (tgt := 72) hx hb d_XC_isAbove_56 (by decide) (fun c_8 => ?_) (fun c_8 => ?_)
      · have hw := hw.2 c_8
        refine lv_iconst (v := (1 : Int32)) hx hb d_XC_isAbove_72 (by decide) ?_
        refine lv_goto (tgt := 77) hx hb d_XC_isAbove_73 (by decide) ?_
        refine lv_istore (lv' := [(5, .int (1 : Int32)), (3, .long r_7), (7, .long x_6), (0, .ref q_0), (1, .int l_1), (2, .int l_2), (6, .int l_6)]) hx hb d_XC_isAbove_77 hl (by decide) rfl (fun ls hl => ?_)
        obtain ⟨x_9, ex_9⟩ : ∃ y : Int32, y = l_6 + (1 : Int32) := ⟨_, rfl⟩
        have hw := hw x_9 ex_9
        refine lv_iinc (v := x_9) (lv' := [(6, .int x_9), (5, .int (1 : Int32)), (3, .long r_7), (7, .long x_6), (0, .ref q_0), (1, .int l_1), (2, .int l_2)]) hx hb d_XC_isAbove_79 hl (k := 6) rfl (by rw [ex_9]; rfl) (by decide) rfl (fun ls hl => ?_)
        refine lv_goto (tgt := 8) hx hb d_XC_isAbove_82 (by decide) ?_
        exact ih l_1 l_2 r_7 (1 : Int32) x_9 hw _ _ hP hD hS _ (lv_sub hl [4, 5, 6, 2, 1, 0] rfl)
      · have hw := hw.1 c_8
        refine lv_lload hx hb d_XC_isAbove_59 (lv_at hl 1 rfl) ?_
        refine lv_ldc2 (v := (1000000000 : Int64)) hx hb hown (hts _ k_93) d_XC_isAbove_61 ?_
        refine jn_l C0 hP hD hS [] [0, 1] (ru_SO C0 (As := [.long x_6, .long (1000000000 : Int64)]) (rest := []) (c_JM_floorMod l hl9 dC dI cI cJ cZ x_6 (1000000000 : Int64) _ hw _) k_110 k_111 k_112 k_109 (n9 := 2) (by decide +kernel) rfl ⟨Nat.le_of_ble_eq_true rfl, Nat.le_of_ble_eq_true rfl⟩ hP hD hS [] rfl (by decide) hl.1 rfl (Nat.le_of_ble_eq_true rfl) d_XC_isAbove_64 ⟨Nat.le_of_ble_eq_true rfl, Nat.le_of_ble_eq_true rfl⟩) rfl rfl (by decide) (by decide) (fun r_10 u H locs hw hP hD hS => ?_)
        try dsimp only at hw
        have hP : va_P (dC, dI) classes [(q_0, .inr (4, [.ref q_ways])), (q_ways, .inl (cJ, 115, .inr (.inl v_ways)))] H := hP
        have hD : va_D A [(q_0, .inr (4, [.ref q_ways])), (q_ways, .inl (cJ, 115, .inr (.inl v_ways)))] := hD
        refine lv_lconst (v := (0 : Int64)) hx hb d_XC_isAbove_67 (by decide) ?_
        refine W.lcmp hx hb d_XC_isAbove_68 ?_
        refine lv_if_eq (tgt := 76) hx hb d_XC_isAbove_69 (by decide) (fun c_11 => ?_) (fun c_11 => ?_)
        · have hw := hw.1 ((lg_cmp_eq _ _).mp c_11)
          refine lv_iconst (v := (0 : Int32)) hx hb d_XC_isAbove_76 (by decide) ?_
          refine lv_istore (lv' := [(5, .int (0 : Int32)), (3, .long r_7), (7, .long x_6), (0, .ref q_0), (1, .int l_1), (2, .int l_2), (6, .int l_6)]) hx hb d_XC_isAbove_77 hl (by decide) rfl (fun ls hl => ?_)
          obtain ⟨x_12, ex_12⟩ : ∃ y : Int32, y = l_6 + (1 : Int32) := ⟨_, rfl⟩
          have hw := hw x_12 ex_12
          refine lv_iinc (v := x_12) (lv' := [(6, .int x_12), (5, .int (0 : Int32)), (3, .long r_7), (7, .long x_6), (0, .ref q_0), (1, .int l_1), (2, .int l_2)]) hx hb d_XC_isAbove_79 hl (k := 6) rfl (by rw [ex_12]; rfl) (by decide) rfl (fun ls hl => ?_)
          refine lv_goto (tgt := 8) hx hb d_XC_isAbove_82 (by decide) ?_
          exact ih l_1 l_2 r_7 (0 : Int32) x_12 hw _ _ hP hD hS _ (lv_sub hl [4, 5, 6, 2, 1, 0] rfl)
        · have hw := hw.2 (fun q9 => c_11 ((lg_cmp_eq _ _).mpr q9))
          refine lv_iconst (v := (1 : Int32)) hx hb d_XC_isAbove_72 (by decide) ?_
          refine lv_goto (tgt := 77) hx hb d_XC_isAbove_73 (by decide) ?_
          refine lv_istore (lv' := [(5, .int (1 : Int32)), (3, .long r_7), (7, .long x_6), (0, .ref q_0), (1, .int l_1), (2, .int l_2), (6, .int l_6)]) hx hb d_XC_isAbove_77 hl (by decide) rfl (fun ls hl => ?_)
          obtain ⟨x_13, ex_13⟩ : ∃ y : Int32, y = l_6 + (1 : Int32) := ⟨_, rfl⟩
          have hw := hw x_13 ex_13
          refine lv_iinc (v := x_13) (lv' := [(6, .int x_13), (5, .int (1 : Int32)), (3, .long r_7), (7, .long x_6), (0, .ref q_0), (1, .int l_1), (2, .int l_2)]) hx hb d_XC_isAbove_79 hl (k := 6) rfl (by rw [ex_13]; rfl) (by decide) rfl (fun ls hl => ?_)
          refine lv_goto (tgt := 8) hx hb d_XC_isAbove_82 (by decide) ?_
          exact ih l_1 l_2 r_7 (1 : Int32) x_13 hw _ _ hP hD hS _ (lv_sub hl [4, 5, 6, 2, 1, 0] rfl)
def wp_XC_isAbove (post : Int32 → Unit → Prop) (a_1 : Int32) (a_2 : Int32) (v_ways : Nat → Int64) : Prop := ∃ n_8, wp_XC_isAbove_8 post v_ways n_8 a_1 a_2 (0 : Int64) (0 : Int32) (0 : Int32)
set_option maxHeartbeats 4000000 in
set_option maxRecDepth 100000 in
theorem c_XC_isAbove (l : Launch) (hl9 : l.stackTraces = false) (dC : Nat → ClassId) (dI : Nat → Nat → Nat) (cI cJ cZ : ClassId) (q_0 q_ways : Nat) (a_1 : Int32) (a_2 : Int32) (v_ways : Nat → Int64) (post : Int32 → Unit → Prop) (hw : wp_XC_isAbove post a_1 a_2 v_ways) : Ki l y_XC_isAbove b_XC_isAbove 9 (some .boolean) ({ frames := 1, cells := 0, slots := 0, locals := 25 } : Room) dC dI cI cJ cZ [.ref q_0, .int a_1, .int a_2] [(q_0, .inr (4, [.ref q_ways])), (q_ways, .inl (cJ, 115, .inr (.inl v_ways)))] post (fun u : Unit => [(q_0, .inr (4, [.ref q_ways])), (q_ways, .inl (cJ, 115, .inr (.inl v_ways)))]) := by
  refine mki hl9 (own := R_XC) rfl (by decide) ?_
  intro p e s m args below meth c A C0 hnm eav hP hD
  obtain ⟨-, hx, hb, hml, hr, hown, hts, hlocks, hK, hZ, hA, hNS⟩ := id C0
  subst eav
  have hS : va_S A s.heap s.heap [] := va_S.rf
  have hl := lv_entry ([.ref q_0, .int a_1, .int a_2]) (n := 9) (Nat.le_of_ble_eq_true rfl)
  rw [lg_entry_eq]
  generalize (lg_sl ([.ref q_0, .int a_1, .int a_2]) ++ List.replicate (9 - (lg_sl ([.ref q_0, .int a_1, .int a_2])).length) Slot.unset).toArray = ls at hl ⊢
  have hl : lv_has ls 9 [(0, .ref q_0), (1, .int a_1), (2, .int a_2)] := hl
  unfold wp_XC_isAbove at hw
  refine lv_lconst (v := (0 : Int64)) hx hb d_XC_isAbove_0 (by decide) ?_
  refine lv_lstore_n (lv' := [(3, .long (0 : Int64)), (0, .ref q_0), (1, .int a_1), (2, .int a_2)]) hx hb d_XC_isAbove_1 rfl hl (by decide) rfl (fun ls hl => ?_)
  refine lv_iconst (v := (0 : Int32)) hx hb d_XC_isAbove_2 (by decide) ?_
  refine lv_istore (lv' := [(5, .int (0 : Int32)), (3, .long (0 : Int64)), (0, .ref q_0), (1, .int a_1), (2, .int a_2)]) hx hb d_XC_isAbove_3 hl (by decide) rfl (fun ls hl => ?_)
  refine lv_iconst (v := (0 : Int32)) hx hb d_XC_isAbove_5 (by decide) ?_
  refine lv_istore (lv' := [(6, .int (0 : Int32)), (5, .int (0 : Int32)), (3, .long (0 : Int64)), (0, .ref q_0), (1, .int a_1), (2, .int a_2)]) hx hb d_XC_isAbove_6 hl (by decide) rfl (fun ls hl => ?_)
  obtain ⟨n_8, hw⟩ := hw
  exact t_XC_isAbove_8 (post := post) C0 n_8 a_1 a_2 (0 : Int64) (0 : Int32) (0 : Int32) hw _ _ hP hD hS _ (lv_sub hl [3, 4, 5, 2, 1, 0] rfl)
theorem d_XC_greatestSafe_0 : decode b_XC_greatestSafe 0 = .ok (.aload_n 0, 1) := by decide +kernel
theorem d_XC_greatestSafe_1 : decode b_XC_greatestSafe 1 = .ok (.iload_n 1, 1) := by decide +kernel
theorem d_XC_greatestSafe_2 : decode b_XC_greatestSafe 2 = .ok (.iload_n 1, 1) := by decide +kernel
theorem d_XC_greatestSafe_3 : decode b_XC_greatestSafe 3 = .ok (.iload_n 2, 1) := by decide +kernel
theorem d_XC_greatestSafe_4 : decode b_XC_greatestSafe 4 = .ok (.iload_n 3, 1) := by decide +kernel
theorem d_XC_greatestSafe_5 : decode b_XC_greatestSafe 5 = .ok (.invokevirtual 15, 3) := by decide +kernel
theorem d_XC_greatestSafe_8 : decode b_XC_greatestSafe 8 = .ok (.iload_n 1, 1) := by decide +kernel
theorem d_XC_greatestSafe_9 : decode b_XC_greatestSafe 9 = .ok (.istore 6, 2) := by decide +kernel
theorem d_XC_greatestSafe_11 : decode b_XC_greatestSafe 11 = .ok (.iload_n 1, 1) := by decide +kernel
theorem d_XC_greatestSafe_12 : decode b_XC_greatestSafe 12 = .ok (.iconst 1, 1) := by decide +kernel
theorem d_XC_greatestSafe_13 : decode b_XC_greatestSafe 13 = .ok (.iadd, 1) := by decide +kernel
theorem d_XC_greatestSafe_14 : decode b_XC_greatestSafe 14 = .ok (.istore 7, 2) := by decide +kernel
theorem d_XC_greatestSafe_16 : decode b_XC_greatestSafe 16 = .ok (.iload 7, 2) := by decide +kernel
theorem d_XC_greatestSafe_18 : decode b_XC_greatestSafe 18 = .ok (.iload_n 1, 1) := by decide +kernel
theorem d_XC_greatestSafe_19 : decode b_XC_greatestSafe 19 = .ok (.bipush 8, 2) := by decide +kernel
theorem d_XC_greatestSafe_21 : decode b_XC_greatestSafe 21 = .ok (.iadd, 1) := by decide +kernel
theorem d_XC_greatestSafe_22 : decode b_XC_greatestSafe 22 = .ok (.if_icmp .gt 34, 3) := by decide +kernel
theorem d_XC_greatestSafe_25 : decode b_XC_greatestSafe 25 = .ok (.aload_n 0, 1) := by decide +kernel
theorem d_XC_greatestSafe_26 : decode b_XC_greatestSafe 26 = .ok (.iload_n 1, 1) := by decide +kernel
theorem d_XC_greatestSafe_27 : decode b_XC_greatestSafe 27 = .ok (.iload_n 2, 1) := by decide +kernel
theorem d_XC_greatestSafe_28 : decode b_XC_greatestSafe 28 = .ok (.iload_n 3, 1) := by decide +kernel
theorem d_XC_greatestSafe_29 : decode b_XC_greatestSafe 29 = .ok (.invokevirtual 19, 3) := by decide +kernel
theorem d_XC_greatestSafe_32 : decode b_XC_greatestSafe 32 = .ok (.aload_n 0, 1) := by decide +kernel
theorem d_XC_greatestSafe_33 : decode b_XC_greatestSafe 33 = .ok (.iload 4, 2) := by decide +kernel
theorem d_XC_greatestSafe_35 : decode b_XC_greatestSafe 35 = .ok (.iload 5, 2) := by decide +kernel
theorem d_XC_greatestSafe_37 : decode b_XC_greatestSafe 37 = .ok (.invokevirtual 23, 3) := by decide +kernel
theorem d_XC_greatestSafe_40 : decode b_XC_greatestSafe 40 = .ok (.ifCond .eq 6, 3) := by decide +kernel
theorem d_XC_greatestSafe_43 : decode b_XC_greatestSafe 43 = .ok (.goto 13, 3) := by decide +kernel
theorem d_XC_greatestSafe_46 : decode b_XC_greatestSafe 46 = .ok (.iload 7, 2) := by decide +kernel
theorem d_XC_greatestSafe_48 : decode b_XC_greatestSafe 48 = .ok (.istore 6, 2) := by decide +kernel
theorem d_XC_greatestSafe_50 : decode b_XC_greatestSafe 50 = .ok (.iinc 7 1, 3) := by decide +kernel
theorem d_XC_greatestSafe_53 : decode b_XC_greatestSafe 53 = .ok (.goto (-37), 3) := by decide +kernel
theorem d_XC_greatestSafe_56 : decode b_XC_greatestSafe 56 = .ok (.iload 6, 2) := by decide +kernel
theorem d_XC_greatestSafe_58 : decode b_XC_greatestSafe 58 = .ok (.ireturn, 1) := by decide +kernel
def gl_XC_greatestSafe_16 (p : Program) (l : Launch) (e : Env) (s : State) (m : MethodId) (args : Array Value) (below : List Frame) (meth : Method) (c : Code) (R : Room) (A : Nat → Prop) (Q : State → Prop) (dC : Nat → ClassId) (dI : Nat → Nat → Nat) (cI cJ cZ : ClassId) (q_0 q_ways : Nat) (l_1 : Int32) (l_2 : Int32) (l_3 : Int32) (l_4 : Int32) (l_5 : Int32) (l_6 : Int32) (l_7 : Int32) (v_ways : Nat → Int64) : Prop :=
  ∀ (H : Heap) (locs : List Loc), va_P (dC, dI) classes [(q_0, .inr (4, [.ref q_ways])), (q_ways, .inl (cJ, 115, .inr (.inl v_ways)))] H → va_D A [(q_0, .inr (4, [.ref q_ways])), (q_ways, .inl (cJ, 115, .inr (.inl v_ways)))] → va_S A s.heap H locs → ∀ ls : Array Slot, lv_has ls 8 [(0, .ref q_0), (1, .int l_1), (2, .int l_2), (3, .int l_3), (4, .int l_4), (5, .int l_5), (6, .int l_6), (7, .int l_7)] → W p l e R s m args below meth c H locs 0 0 Q (F0 m 16 ls [])
def wp_XC_greatestSafe_16 (post : Int32 → (Nat → Int64) → Prop) : Nat → Int32 → Int32 → Int32 → Int32 → Int32 → Int32 → Int32 → (Nat → Int64) → Prop
  | 0 => fun _ _ _ _ _ _ _ _ => False
  | n_16 + 1 => fun l_1 l_2 l_3 l_4 l_5 l_6 l_7 v_ways => (((l_1 + (8 : Int32)) < l_7 → post l_6 v_ways) ∧ (¬ ((l_1 + (8 : Int32)) < l_7) → wp_XC_inviteOne (fun f_4 => wp_XC_isAbove (fun r_5 _ => ((r_5 = 0 → (∀ x_7 : Int32, x_7 = l_7 + (1 : Int32) → (wp_XC_greatestSafe_16 post n_16) l_1 l_2 l_3 l_4 l_5 l_7 x_7 f_4)) ∧ (¬ (r_5 = 0) → post l_6 f_4))) l_4 l_5 f_4) l_1 l_2 l_3 v_ways))
set_option maxHeartbeats 4000000 in
set_option maxRecDepth 100000 in
theorem t_XC_greatestSafe_16 {p : Program} {l : Launch} {e : Env} {s : State} {m : MethodId} {args : Array Value} {below : List Frame} {meth : Method} {c : Code} {dC : Nat → ClassId} {dI : Nat → Nat → Nat} {cI cJ cZ : ClassId} {A : Nat → Prop} {q_0 : Nat} {q_ways : Nat} {post : Int32 → (Nat → Int64) → Prop} (C0 : cxM b_XC_greatestSafe 8 (some .int) R_XC l dC dI cI cJ cZ A p s m args meth c) : ∀ (n_16 : Nat) (l_1 : Int32) (l_2 : Int32) (l_3 : Int32) (l_4 : Int32) (l_5 : Int32) (l_6 : Int32) (l_7 : Int32) (v_ways : Nat → Int64), wp_XC_greatestSafe_16 post n_16 l_1 l_2 l_3 l_4 l_5 l_6 l_7 v_ways → gl_XC_greatestSafe_16 p l e s m args below meth c ({ frames := 3, cells := 0, slots := 0, locals := 78 } : Room) A (Qi below args s A dC dI cI cJ cZ ({ frames := 3, cells := 0, slots := 0, locals := 78 } : Room) post (fun u : (Nat → Int64) => [(q_0, .inr (4, [.ref q_ways])), (q_ways, .inl (cJ, 115, .inr (.inl u)))])) dC dI cI cJ cZ q_0 q_ways l_1 l_2 l_3 l_4 l_5 l_6 l_7 v_ways := by
  obtain ⟨hl9, hx, hb, hml, hr, hown, hts, hlocks, hK, hZ, hA, hNS⟩ := id C0
  intro n_16
  induction n_16 with
  | zero => intro _ _ _ _ _ _ _ _ hw; exact hw.elim
  | succ n_16 ih =>
    intro l_1 l_2 l_3 l_4 l_5 l_6 l_7 v_ways hw H locs hP hD hS ls hl
    refine lv_iload hx hb d_XC_greatestSafe_16 (lv_at hl 7 rfl) ?_
    refine lv_iload_n hx hb d_XC_greatestSafe_18 rfl (lv_at hl 1 rfl) ?_
    refine lv_bipush (v := (8 : Int32)) hx hb d_XC_greatestSafe_19 (by decide) ?_
    refine lv_iadd hx hb d_XC_greatestSafe_21 ?_
    refine lv_icmp_gt (tgt := 56) hx hb d_XC_greatestSafe_22 (by decide) (fun c_3 => ?_) (fun c_3 => ?_)
    · have hw := hw.1 c_3
      refine lv_iload hx hb d_XC_greatestSafe_56 (lv_at hl 6 rfl) ?_
      exact rt_i (u := v_ways) C0 hw hP hD hS (by decide) (by decide) d_XC_greatestSafe_58
    · have hw := hw.2 c_3
      refine lv_aload_n hx hb d_XC_greatestSafe_25 rfl (lv_at hl 0 rfl) ?_
      refine lv_iload_n hx hb d_XC_greatestSafe_26 rfl (lv_at hl 1 rfl) ?_
      refine lv_iload_n hx hb d_XC_greatestSafe_27 rfl (lv_at hl 2 rfl) ?_
      refine lv_iload_n hx hb d_XC_greatestSafe_28 rfl (lv_at hl 3 rfl) ?_
      refine jn_v C0 hP hD hS [0, 1] [] (ru_V C0 (As := [.int l_1, .int l_2, .int l_3]) (rest := []) (c_XC_inviteOne l hl9 dC dI cI cJ cZ q_0 q_ways l_1 l_2 l_3 v_ways _ hw _) k_98 k_99 k_100 k_101 k_41 (n9 := 3) (by decide +kernel) rfl (ci := 4) rfl rfl ⟨Nat.le_of_ble_eq_true rfl, Nat.le_of_ble_eq_true rfl⟩ hP hD hS [0, 1] rfl (by decide) hl.1 rfl (Nat.le_of_ble_eq_true rfl) d_XC_greatestSafe_29 ⟨Nat.le_of_ble_eq_true rfl, Nat.le_of_ble_eq_true rfl⟩) rfl rfl (by decide) (by decide) (fun u H locs hw hP hD hS => ?_)
      obtain ⟨f_4, rfl⟩ : ∃ z9, z9 = u := ⟨_, rfl⟩
      try dsimp only at hw
      have hP : va_P (dC, dI) classes [(q_0, .inr (4, [.ref q_ways])), (q_ways, .inl (cJ, 115, .inr (.inl f_4)))] H := hP
      have hD : va_D A [(q_0, .inr (4, [.ref q_ways])), (q_ways, .inl (cJ, 115, .inr (.inl f_4)))] := hD
      refine lv_aload_n hx hb d_XC_greatestSafe_32 rfl (lv_at hl 0 rfl) ?_
      refine lv_iload hx hb d_XC_greatestSafe_33 (lv_at hl 4 rfl) ?_
      refine lv_iload hx hb d_XC_greatestSafe_35 (lv_at hl 5 rfl) ?_
      refine jn_i C0 hP hD hS [0, 1] [] (ru_V C0 (As := [.int l_4, .int l_5]) (rest := []) (c_XC_isAbove l hl9 dC dI cI cJ cZ q_0 q_ways l_4 l_5 f_4 _ hw _) k_113 k_114 k_115 k_116 k_41 (n9 := 2) (by decide +kernel) rfl (ci := 4) rfl rfl ⟨Nat.le_of_ble_eq_true rfl, Nat.le_of_ble_eq_true rfl⟩ hP hD hS [0, 1] rfl (by decide) hl.1 rfl (Nat.le_of_ble_eq_true rfl) d_XC_greatestSafe_37 ⟨Nat.le_of_ble_eq_true rfl, Nat.le_of_ble_eq_true rfl⟩) rfl rfl (by decide) (by decide) (fun r_5 u H locs hw hP hD hS => ?_)
      try dsimp only at hw
      have hP : va_P (dC, dI) classes [(q_0, .inr (4, [.ref q_ways])), (q_ways, .inl (cJ, 115, .inr (.inl f_4)))] H := hP
      have hD : va_D A [(q_0, .inr (4, [.ref q_ways])), (q_ways, .inl (cJ, 115, .inr (.inl f_4)))] := hD
      refine lv_if_eq (tgt := 46) hx hb d_XC_greatestSafe_40 (by decide) (fun c_6 => ?_) (fun c_6 => ?_)
      · have hw := hw.1 c_6
        refine lv_iload hx hb d_XC_greatestSafe_46 (lv_at hl 7 rfl) ?_
        refine lv_istore (lv' := [(6, .int l_7), (0, .ref q_0), (1, .int l_1), (2, .int l_2), (3, .int l_3), (4, .int l_4), (5, .int l_5), (7, .int l_7)]) hx hb d_XC_greatestSafe_48 hl (by decide) rfl (fun ls hl => ?_)
        obtain ⟨x_7, ex_7⟩ : ∃ y : Int32, y = l_7 + (1 : Int32) := ⟨_, rfl⟩
        have hw := hw x_7 ex_7
        refine lv_iinc (v := x_7) (lv' := [(7, .int x_7), (6, .int l_7), (0, .ref q_0), (1, .int l_1), (2, .int l_2), (3, .int l_3), (4, .int l_4), (5, .int l_5)]) hx hb d_XC_greatestSafe_50 hl (k := 7) rfl (by rw [ex_7]; rfl) (by decide) rfl (fun ls hl => ?_)
        refine lv_goto (tgt := 16) hx hb d_XC_greatestSafe_53 (by decide) ?_
        exact ih l_1 l_2 l_3 l_4 l_5 l_7 x_7 f_4 hw _ _ hP hD hS _ (lv_sub hl [2, 3, 4, 5, 6, 7, 1, 0] rfl)
      · have hw := hw.2 c_6
        refine lv_goto (tgt := 56) hx hb d_XC_greatestSafe_43 (by decide) ?_
        refine lv_iload hx hb d_XC_greatestSafe_56 (lv_at hl 6 rfl) ?_
        exact rt_i (u := f_4) C0 hw hP hD hS (by decide) (by decide) d_XC_greatestSafe_58
def wp_XC_greatestSafe (post : Int32 → (Nat → Int64) → Prop) (a_1 : Int32) (a_2 : Int32) (a_3 : Int32) (a_4 : Int32) (a_5 : Int32) (v_ways : Nat → Int64) : Prop := wp_XC_invite (fun f_1 => (∀ x_2 : Int32, x_2 = a_1 + (1 : Int32) → ∃ n_16, wp_XC_greatestSafe_16 post n_16 a_1 a_2 a_3 a_4 a_5 a_1 x_2 f_1)) a_1 a_1 a_2 a_3 v_ways
set_option maxHeartbeats 4000000 in
set_option maxRecDepth 100000 in
theorem c_XC_greatestSafe (l : Launch) (hl9 : l.stackTraces = false) (dC : Nat → ClassId) (dI : Nat → Nat → Nat) (cI cJ cZ : ClassId) (q_0 q_ways : Nat) (a_1 : Int32) (a_2 : Int32) (a_3 : Int32) (a_4 : Int32) (a_5 : Int32) (v_ways : Nat → Int64) (post : Int32 → (Nat → Int64) → Prop) (hw : wp_XC_greatestSafe post a_1 a_2 a_3 a_4 a_5 v_ways) : Ki l y_XC_greatestSafe b_XC_greatestSafe 8 (some .int) ({ frames := 3, cells := 0, slots := 0, locals := 78 } : Room) dC dI cI cJ cZ [.ref q_0, .int a_1, .int a_2, .int a_3, .int a_4, .int a_5] [(q_0, .inr (4, [.ref q_ways])), (q_ways, .inl (cJ, 115, .inr (.inl v_ways)))] post (fun u : (Nat → Int64) => [(q_0, .inr (4, [.ref q_ways])), (q_ways, .inl (cJ, 115, .inr (.inl u)))]) := by
  refine mki hl9 (own := R_XC) rfl (by decide) ?_
  intro p e s m args below meth c A C0 hnm eav hP hD
  obtain ⟨-, hx, hb, hml, hr, hown, hts, hlocks, hK, hZ, hA, hNS⟩ := id C0
  subst eav
  have hS : va_S A s.heap s.heap [] := va_S.rf
  have hl := lv_entry ([.ref q_0, .int a_1, .int a_2, .int a_3, .int a_4, .int a_5]) (n := 8) (Nat.le_of_ble_eq_true rfl)
  rw [lg_entry_eq]
  generalize (lg_sl ([.ref q_0, .int a_1, .int a_2, .int a_3, .int a_4, .int a_5]) ++ List.replicate (8 - (lg_sl ([.ref q_0, .int a_1, .int a_2, .int a_3, .int a_4, .int a_5])).length) Slot.unset).toArray = ls at hl ⊢
  have hl : lv_has ls 8 [(0, .ref q_0), (1, .int a_1), (2, .int a_2), (3, .int a_3), (4, .int a_4), (5, .int a_5)] := hl
  unfold wp_XC_greatestSafe at hw
  refine lv_aload_n hx hb d_XC_greatestSafe_0 rfl (lv_at hl 0 rfl) ?_
  refine lv_iload_n hx hb d_XC_greatestSafe_1 rfl (lv_at hl 1 rfl) ?_
  refine lv_iload_n hx hb d_XC_greatestSafe_2 rfl (lv_at hl 1 rfl) ?_
  refine lv_iload_n hx hb d_XC_greatestSafe_3 rfl (lv_at hl 2 rfl) ?_
  refine lv_iload_n hx hb d_XC_greatestSafe_4 rfl (lv_at hl 3 rfl) ?_
  refine jn_v C0 hP hD hS [0, 1] [] (ru_V C0 (As := [.int a_1, .int a_1, .int a_2, .int a_3]) (rest := []) (c_XC_invite l hl9 dC dI cI cJ cZ q_0 q_ways a_1 a_1 a_2 a_3 v_ways _ hw _) k_102 k_103 k_104 k_105 k_41 (n9 := 4) (by decide +kernel) rfl (ci := 4) rfl rfl ⟨Nat.le_of_ble_eq_true rfl, Nat.le_of_ble_eq_true rfl⟩ hP hD hS [0, 1] rfl (by decide) hl.1 rfl (Nat.le_of_ble_eq_true rfl) d_XC_greatestSafe_5 ⟨Nat.le_of_ble_eq_true rfl, Nat.le_of_ble_eq_true rfl⟩) rfl rfl (by decide) (by decide) (fun u H locs hw hP hD hS => ?_)
  obtain ⟨f_1, rfl⟩ : ∃ z9, z9 = u := ⟨_, rfl⟩
  try dsimp only at hw
  have hP : va_P (dC, dI) classes [(q_0, .inr (4, [.ref q_ways])), (q_ways, .inl (cJ, 115, .inr (.inl f_1)))] H := hP
  have hD : va_D A [(q_0, .inr (4, [.ref q_ways])), (q_ways, .inl (cJ, 115, .inr (.inl f_1)))] := hD
  refine lv_iload_n hx hb d_XC_greatestSafe_8 rfl (lv_at hl 1 rfl) ?_
  refine lv_istore (lv' := [(6, .int a_1), (0, .ref q_0), (1, .int a_1), (2, .int a_2), (3, .int a_3), (4, .int a_4), (5, .int a_5)]) hx hb d_XC_greatestSafe_9 hl (by decide) rfl (fun ls hl => ?_)
  refine lv_iload_n hx hb d_XC_greatestSafe_11 rfl (lv_at hl 2 rfl) ?_
  refine lv_iconst (v := (1 : Int32)) hx hb d_XC_greatestSafe_12 (by decide) ?_
  refine lv_iadd hx hb d_XC_greatestSafe_13 ?_
  refine lv_topi (fun x_2 ex_2 => ?_)
  have hw := hw x_2 ex_2
  refine lv_istore (lv' := [(7, .int x_2), (6, .int a_1), (0, .ref q_0), (1, .int a_1), (2, .int a_2), (3, .int a_3), (4, .int a_4), (5, .int a_5)]) hx hb d_XC_greatestSafe_14 hl (by decide) rfl (fun ls hl => ?_)
  obtain ⟨n_16, hw⟩ := hw
  exact t_XC_greatestSafe_16 (post := post) C0 n_16 a_1 a_2 a_3 a_4 a_5 a_1 x_2 f_1 hw _ _ hP hD hS _ (lv_sub hl [2, 3, 4, 5, 6, 7, 1, 0] rfl)
theorem d_XC_digitOfTooMany_0 : decode b_XC_digitOfTooMany 0 = .ok (.aload_n 0, 1) := by decide +kernel
theorem d_XC_digitOfTooMany_1 : decode b_XC_digitOfTooMany 1 = .ok (.getfield 11, 3) := by decide +kernel
theorem d_XC_digitOfTooMany_4 : decode b_XC_digitOfTooMany 4 = .ok (.bipush 105, 2) := by decide +kernel
theorem d_XC_digitOfTooMany_6 : decode b_XC_digitOfTooMany 6 = .ok (.iload_n 1, 1) := by decide +kernel
theorem d_XC_digitOfTooMany_7 : decode b_XC_digitOfTooMany 7 = .ok (.bipush 9, 2) := by decide +kernel
theorem d_XC_digitOfTooMany_9 : decode b_XC_digitOfTooMany 9 = .ok (.idiv, 1) := by decide +kernel
theorem d_XC_digitOfTooMany_10 : decode b_XC_digitOfTooMany 10 = .ok (.iadd, 1) := by decide +kernel
theorem d_XC_digitOfTooMany_11 : decode b_XC_digitOfTooMany 11 = .ok (.laload, 1) := by decide +kernel
theorem d_XC_digitOfTooMany_12 : decode b_XC_digitOfTooMany 12 = .ok (.iload_n 1, 1) := by decide +kernel
theorem d_XC_digitOfTooMany_13 : decode b_XC_digitOfTooMany 13 = .ok (.bipush 9, 2) := by decide +kernel
theorem d_XC_digitOfTooMany_15 : decode b_XC_digitOfTooMany 15 = .ok (.irem, 1) := by decide +kernel
theorem d_XC_digitOfTooMany_16 : decode b_XC_digitOfTooMany 16 = .ok (.invokestatic 33, 3) := by decide +kernel
theorem d_XC_digitOfTooMany_19 : decode b_XC_digitOfTooMany 19 = .ok (.ireturn, 1) := by decide +kernel
def wp_XC_digitOfTooMany (post : Int32 → Unit → Prop) (a_1 : Int32) (v_ways : Nat → Int64) : Prop := (vp_in ((105 : Int32) + (a_1 / (9 : Int32))) 115 ∧ wp_X_digitOf (fun r_2 _ => post r_2 ()) (v_ways ((105 : Int32) + (a_1 / (9 : Int32))).toNatClampNeg) (a_1 - a_1 / (9 : Int32) * (9 : Int32)))
set_option maxHeartbeats 4000000 in
set_option maxRecDepth 100000 in
theorem c_XC_digitOfTooMany (l : Launch) (hl9 : l.stackTraces = false) (dC : Nat → ClassId) (dI : Nat → Nat → Nat) (cI cJ cZ : ClassId) (q_0 q_ways : Nat) (a_1 : Int32) (v_ways : Nat → Int64) (post : Int32 → Unit → Prop) (hw : wp_XC_digitOfTooMany post a_1 v_ways) : Ki l y_XC_digitOfTooMany b_XC_digitOfTooMany 2 (some .int) ({ frames := 1, cells := 0, slots := 0, locals := 25 } : Room) dC dI cI cJ cZ [.ref q_0, .int a_1] [(q_0, .inr (4, [.ref q_ways])), (q_ways, .inl (cJ, 115, .inr (.inl v_ways)))] post (fun u : Unit => [(q_0, .inr (4, [.ref q_ways])), (q_ways, .inl (cJ, 115, .inr (.inl v_ways)))]) := by
  refine mki hl9 (own := R_XC) rfl (by decide) ?_
  intro p e s m args below meth c A C0 hnm eav hP hD
  obtain ⟨-, hx, hb, hml, hr, hown, hts, hlocks, hK, hZ, hA, hNS⟩ := id C0
  subst eav
  have hS : va_S A s.heap s.heap [] := va_S.rf
  have hl := lv_entry ([.ref q_0, .int a_1]) (n := 2) (Nat.le_of_ble_eq_true rfl)
  rw [lg_entry_eq]
  generalize (lg_sl ([.ref q_0, .int a_1]) ++ List.replicate (2 - (lg_sl ([.ref q_0, .int a_1])).length) Slot.unset).toArray = ls at hl ⊢
  have hl : lv_has ls 2 [(0, .ref q_0), (1, .int a_1)] := hl
  unfold wp_XC_digitOfTooMany at hw
  refine lv_aload_n hx hb d_XC_digitOfTooMany_0 rfl (lv_at hl 0 rfl) ?_
  refine va_get (D := (dC, dI)) (ci := 4) (v := .ref q_ways) (C := R_XC) (T := F_XC) (N := 1) hx hb hts i_XC hown hK hP 0 rfl rfl 0 (by decide) (hts _ k_44) (fun _ h9 => h9) rfl d_XC_digitOfTooMany_1 ?_
  refine lv_bipush (v := (105 : Int32)) hx hb d_XC_digitOfTooMany_4 (by decide) ?_
  refine lv_iload_n hx hb d_XC_digitOfTooMany_6 rfl (lv_at hl 1 rfl) ?_
  refine lv_bipush (v := (9 : Int32)) hx hb d_XC_digitOfTooMany_7 (by decide) ?_
  refine lv_idiv hx hb d_XC_digitOfTooMany_9 (by decide) ?_
  refine lv_iadd hx hb d_XC_digitOfTooMany_10 ?_
  obtain ⟨h_1, hw⟩ := hw
  refine va_lald hx hb hK hP 1 1 rfl rfl h_1 d_XC_digitOfTooMany_11 ?_
  refine lv_iload_n hx hb d_XC_digitOfTooMany_12 rfl (lv_at hl 1 rfl) ?_
  refine lv_bipush (v := (9 : Int32)) hx hb d_XC_digitOfTooMany_13 (by decide) ?_
  refine lv_irem hx hb d_XC_digitOfTooMany_15 (by decide) ?_
  refine jn_i C0 hP hD hS [] [0, 1] (ru_SN C0 (As := [.long (v_ways ((105 : Int32) + (a_1 / (9 : Int32))).toNatClampNeg), .int (a_1 - a_1 / (9 : Int32) * (9 : Int32))]) (rest := []) (c_X_digitOf l hl9 dC dI cI cJ cZ (v_ways ((105 : Int32) + (a_1 / (9 : Int32))).toNatClampNeg) (a_1 - a_1 / (9 : Int32) * (9 : Int32)) _ hw _) k_123 (zn hZ z_10) k_124 k_86 (n9 := 2) (by decide +kernel) rfl ⟨Nat.le_of_ble_eq_true rfl, Nat.le_of_ble_eq_true rfl⟩ hP hD hS [] rfl (by decide) hl.1 rfl (Nat.le_of_ble_eq_true rfl) d_XC_digitOfTooMany_16 ⟨Nat.le_of_ble_eq_true rfl, Nat.le_of_ble_eq_true rfl⟩) rfl rfl (by decide) (by decide) (fun r_2 u H locs hw hP hD hS => ?_)
  try dsimp only at hw
  have hP : va_P (dC, dI) classes [(q_0, .inr (4, [.ref q_ways])), (q_ways, .inl (cJ, 115, .inr (.inl v_ways)))] H := hP
  have hD : va_D A [(q_0, .inr (4, [.ref q_ways])), (q_ways, .inl (cJ, 115, .inr (.inl v_ways)))] := hD
  exact rt_i (u := ()) C0 hw hP hD hS (by decide) (by decide) d_XC_digitOfTooMany_19
theorem d_XD_hasLetIn_0 : decode b_XD_hasLetIn 0 = .ok (.aload_n 0, 1) := by decide +kernel
theorem d_XD_hasLetIn_1 : decode b_XD_hasLetIn 1 = .ok (.getfield 9, 3) := by decide +kernel
theorem d_XD_hasLetIn_4 : decode b_XD_hasLetIn 4 = .ok (.iload_n 2, 1) := by decide +kernel
theorem d_XD_hasLetIn_5 : decode b_XD_hasLetIn 5 = .ok (.bipush 6, 2) := by decide +kernel
theorem d_XD_hasLetIn_7 : decode b_XD_hasLetIn 7 = .ok (.imul, 1) := by decide +kernel
theorem d_XD_hasLetIn_8 : decode b_XD_hasLetIn 8 = .ok (.iload_n 1, 1) := by decide +kernel
theorem d_XD_hasLetIn_9 : decode b_XD_hasLetIn 9 = .ok (.iadd, 1) := by decide +kernel
theorem d_XD_hasLetIn_10 : decode b_XD_hasLetIn 10 = .ok (.iaload, 1) := by decide +kernel
theorem d_XD_hasLetIn_11 : decode b_XD_hasLetIn 11 = .ok (.iconst (-1), 1) := by decide +kernel
theorem d_XD_hasLetIn_12 : decode b_XD_hasLetIn 12 = .ok (.if_icmp .eq 7, 3) := by decide +kernel
theorem d_XD_hasLetIn_15 : decode b_XD_hasLetIn 15 = .ok (.iconst 1, 1) := by decide +kernel
theorem d_XD_hasLetIn_16 : decode b_XD_hasLetIn 16 = .ok (.goto 4, 3) := by decide +kernel
theorem d_XD_hasLetIn_19 : decode b_XD_hasLetIn 19 = .ok (.iconst 0, 1) := by decide +kernel
theorem d_XD_hasLetIn_20 : decode b_XD_hasLetIn 20 = .ok (.ireturn, 1) := by decide +kernel
def wp_XD_hasLetIn (post : Int32 → Unit → Prop) (a_1 : Int32) (a_2 : Int32) (v_seconds : Nat → Int32) : Prop := (vp_in ((a_2 * (6 : Int32)) + a_1) 360 ∧ (((v_seconds ((a_2 * (6 : Int32)) + a_1).toNatClampNeg) = (-1 : Int32) → post (0 : Int32) ()) ∧ (¬ ((v_seconds ((a_2 * (6 : Int32)) + a_1).toNatClampNeg) = (-1 : Int32)) → post (1 : Int32) ())))
set_option maxHeartbeats 4000000 in
set_option maxRecDepth 100000 in
theorem c_XD_hasLetIn (l : Launch) (hl9 : l.stackTraces = false) (dC : Nat → ClassId) (dI : Nat → Nat → Nat) (cI cJ cZ : ClassId) (q_0 q_seconds q_order q_firstIn q_doubles q_goneOut : Nat) (a_1 : Int32) (a_2 : Int32) (v_seconds : Nat → Int32) (v_found : Int32) (post : Int32 → Unit → Prop) (hw : wp_XD_hasLetIn post a_1 a_2 v_seconds) : Ki l y_XD_hasLetIn b_XD_hasLetIn 3 (some .boolean) ({ frames := 0, cells := 0, slots := 0, locals := 0 } : Room) dC dI cI cJ cZ [.ref q_0, .int a_1, .int a_2] [(q_0, .inr (6, [.ref q_seconds, .ref q_order, .ref q_firstIn, .ref q_doubles, .int v_found, .ref q_goneOut])), (q_seconds, .inl (cI, 360, .inl v_seconds))] post (fun u : Unit => [(q_0, .inr (6, [.ref q_seconds, .ref q_order, .ref q_firstIn, .ref q_doubles, .int v_found, .ref q_goneOut])), (q_seconds, .inl (cI, 360, .inl v_seconds))]) := by
  refine mki hl9 (own := R_XD) rfl (by decide) ?_
  intro p e s m args below meth c A C0 hnm eav hP hD
  obtain ⟨-, hx, hb, hml, hr, hown, hts, hlocks, hK, hZ, hA, hNS⟩ := id C0
  subst eav
  have hS : va_S A s.heap s.heap [] := va_S.rf
  have hl := lv_entry ([.ref q_0, .int a_1, .int a_2]) (n := 3) (Nat.le_of_ble_eq_true rfl)
  rw [lg_entry_eq]
  generalize (lg_sl ([.ref q_0, .int a_1, .int a_2]) ++ List.replicate (3 - (lg_sl ([.ref q_0, .int a_1, .int a_2])).length) Slot.unset).toArray = ls at hl ⊢
  have hl : lv_has ls 3 [(0, .ref q_0), (1, .int a_1), (2, .int a_2)] := hl
  unfold wp_XD_hasLetIn at hw
  refine lv_aload_n hx hb d_XD_hasLetIn_0 rfl (lv_at hl 0 rfl) ?_
  refine va_get (D := (dC, dI)) (ci := 6) (v := .ref q_seconds) (C := R_XD) (T := F_XD) (N := 6) hx hb hts i_XD hown hK hP 0 rfl rfl 0 (by decide) (hts _ k_64) (fun _ h9 => h9) rfl d_XD_hasLetIn_1 ?_
  refine lv_iload_n hx hb d_XD_hasLetIn_4 rfl (lv_at hl 2 rfl) ?_
  refine lv_bipush (v := (6 : Int32)) hx hb d_XD_hasLetIn_5 (by decide) ?_
  refine lv_imul hx hb d_XD_hasLetIn_7 ?_
  refine lv_iload_n hx hb d_XD_hasLetIn_8 rfl (lv_at hl 1 rfl) ?_
  refine lv_iadd hx hb d_XD_hasLetIn_9 ?_
  obtain ⟨h_1, hw⟩ := hw
  refine va_iald hx hb hK hP 1 0 rfl rfl h_1 d_XD_hasLetIn_10 ?_
  refine lv_iconst (v := (-1 : Int32)) hx hb d_XD_hasLetIn_11 (by decide) ?_
  refine lv_icmp_eq (tgt := 19) hx hb d_XD_hasLetIn_12 (by decide) (fun c_2 => ?_) (fun c_2 => ?_)
  · have hw := hw.1 c_2
    refine lv_iconst (v := (0 : Int32)) hx hb d_XD_hasLetIn_19 (by decide) ?_
    exact rt_z (u := ()) C0 (by decide) hw hP hD hS (by decide) (by decide) d_XD_hasLetIn_20
  · have hw := hw.2 c_2
    refine lv_iconst (v := (1 : Int32)) hx hb d_XD_hasLetIn_15 (by decide) ?_
    refine lv_goto (tgt := 20) hx hb d_XD_hasLetIn_16 (by decide) ?_
    exact rt_z (u := ()) C0 (by decide) hw hP hD hS (by decide) (by decide) d_XD_hasLetIn_20
theorem d_XD_anyLetIn_0 : decode b_XD_anyLetIn 0 = .ok (.iconst 0, 1) := by decide +kernel
theorem d_XD_anyLetIn_1 : decode b_XD_anyLetIn 1 = .ok (.istore_n 2, 1) := by decide +kernel
theorem d_XD_anyLetIn_2 : decode b_XD_anyLetIn 2 = .ok (.iload_n 2, 1) := by decide +kernel
theorem d_XD_anyLetIn_3 : decode b_XD_anyLetIn 3 = .ok (.bipush 6, 2) := by decide +kernel
theorem d_XD_anyLetIn_5 : decode b_XD_anyLetIn 5 = .ok (.if_icmp .ge 20, 3) := by decide +kernel
theorem d_XD_anyLetIn_8 : decode b_XD_anyLetIn 8 = .ok (.aload_n 0, 1) := by decide +kernel
theorem d_XD_anyLetIn_9 : decode b_XD_anyLetIn 9 = .ok (.iload_n 2, 1) := by decide +kernel
theorem d_XD_anyLetIn_10 : decode b_XD_anyLetIn 10 = .ok (.iload_n 1, 1) := by decide +kernel
theorem d_XD_anyLetIn_11 : decode b_XD_anyLetIn 11 = .ok (.invokevirtual 33, 3) := by decide +kernel
theorem d_XD_anyLetIn_14 : decode b_XD_anyLetIn 14 = .ok (.ifCond .eq 5, 3) := by decide +kernel
theorem d_XD_anyLetIn_17 : decode b_XD_anyLetIn 17 = .ok (.iconst 1, 1) := by decide +kernel
theorem d_XD_anyLetIn_18 : decode b_XD_anyLetIn 18 = .ok (.ireturn, 1) := by decide +kernel
theorem d_XD_anyLetIn_19 : decode b_XD_anyLetIn 19 = .ok (.iinc 2 1, 3) := by decide +kernel
theorem d_XD_anyLetIn_22 : decode b_XD_anyLetIn 22 = .ok (.goto (-20), 3) := by decide +kernel
theorem d_XD_anyLetIn_25 : decode b_XD_anyLetIn 25 = .ok (.iconst 0, 1) := by decide +kernel
theorem d_XD_anyLetIn_26 : decode b_XD_anyLetIn 26 = .ok (.ireturn, 1) := by decide +kernel
def gl_XD_anyLetIn_2 (p : Program) (l : Launch) (e : Env) (s : State) (m : MethodId) (args : Array Value) (below : List Frame) (meth : Method) (c : Code) (R : Room) (A : Nat → Prop) (Q : State → Prop) (dC : Nat → ClassId) (dI : Nat → Nat → Nat) (cI cJ cZ : ClassId) (q_0 q_seconds q_order q_firstIn q_doubles q_goneOut : Nat) (v_seconds : Nat → Int32) (v_found : Int32) (l_1 : Int32) (l_2 : Int32) : Prop :=
  ∀ (H : Heap) (locs : List Loc), va_P (dC, dI) classes [(q_0, .inr (6, [.ref q_seconds, .ref q_order, .ref q_firstIn, .ref q_doubles, .int v_found, .ref q_goneOut])), (q_seconds, .inl (cI, 360, .inl v_seconds))] H → va_D A [(q_0, .inr (6, [.ref q_seconds, .ref q_order, .ref q_firstIn, .ref q_doubles, .int v_found, .ref q_goneOut])), (q_seconds, .inl (cI, 360, .inl v_seconds))] → va_S A s.heap H locs → ∀ ls : Array Slot, lv_has ls 3 [(0, .ref q_0), (1, .int l_1), (2, .int l_2)] → W p l e R s m args below meth c H locs 0 0 Q (F0 m 2 ls [])
def wp_XD_anyLetIn_2 (post : Int32 → Unit → Prop) (v_seconds : Nat → Int32) : Nat → Int32 → Int32 → Prop
  | 0 => fun _ _ => False
  | n_2 + 1 => fun l_1 l_2 => (((6 : Int32) ≤ l_2 → post (0 : Int32) ()) ∧ (¬ ((6 : Int32) ≤ l_2) → wp_XD_hasLetIn (fun r_2 _ => ((r_2 = 0 → (∀ x_4 : Int32, x_4 = l_2 + (1 : Int32) → (wp_XD_anyLetIn_2 post v_seconds n_2) l_1 x_4)) ∧ (¬ (r_2 = 0) → post (1 : Int32) ()))) l_2 l_1 v_seconds))
set_option maxHeartbeats 4000000 in
set_option maxRecDepth 100000 in
theorem t_XD_anyLetIn_2 {p : Program} {l : Launch} {e : Env} {s : State} {m : MethodId} {args : Array Value} {below : List Frame} {meth : Method} {c : Code} {dC : Nat → ClassId} {dI : Nat → Nat → Nat} {cI cJ cZ : ClassId} {A : Nat → Prop} {q_0 : Nat} {q_seconds : Nat} {q_order : Nat} {q_firstIn : Nat} {q_doubles : Nat} {q_goneOut : Nat} {v_seconds : Nat → Int32} {v_found : Int32} {post : Int32 → Unit → Prop} (C0 : cxM b_XD_anyLetIn 3 (some .boolean) R_XD l dC dI cI cJ cZ A p s m args meth c) : ∀ (n_2 : Nat) (l_1 : Int32) (l_2 : Int32), wp_XD_anyLetIn_2 post v_seconds n_2 l_1 l_2 → gl_XD_anyLetIn_2 p l e s m args below meth c ({ frames := 1, cells := 0, slots := 0, locals := 22 } : Room) A (Qi below args s A dC dI cI cJ cZ ({ frames := 1, cells := 0, slots := 0, locals := 22 } : Room) post (fun u : Unit => [(q_0, .inr (6, [.ref q_seconds, .ref q_order, .ref q_firstIn, .ref q_doubles, .int v_found, .ref q_goneOut])), (q_seconds, .inl (cI, 360, .inl v_seconds))])) dC dI cI cJ cZ q_0 q_seconds q_order q_firstIn q_doubles q_goneOut v_seconds v_found l_1 l_2 := by
  obtain ⟨hl9, hx, hb, hml, hr, hown, hts, hlocks, hK, hZ, hA, hNS⟩ := id C0
  intro n_2
  induction n_2 with
  | zero => intro _ _ hw; exact hw.elim
  | succ n_2 ih =>
    intro l_1 l_2 hw H locs hP hD hS ls hl
    refine lv_iload_n hx hb d_XD_anyLetIn_2 rfl (lv_at hl 2 rfl) ?_
    refine lv_bipush (v := (6 : Int32)) hx hb d_XD_anyLetIn_3 (by decide) ?_
    refine lv_icmp_ge (tgt := 25) hx hb d_XD_anyLetIn_5 (by decide) (fun c_1 => ?_) (fun c_1 => ?_)
    · have hw := hw.1 c_1
      refine lv_iconst (v := (0 : Int32)) hx hb d_XD_anyLetIn_25 (by decide) ?_
      exact rt_z (u := ()) C0 (by decide) hw hP hD hS (by decide) (by decide) d_XD_anyLetIn_26
    · have hw := hw.2 c_1
      refine lv_aload_n hx hb d_XD_anyLetIn_8 rfl (lv_at hl 0 rfl) ?_
      refine lv_iload_n hx hb d_XD_anyLetIn_9 rfl (lv_at hl 2 rfl) ?_
      refine lv_iload_n hx hb d_XD_anyLetIn_10 rfl (lv_at hl 1 rfl) ?_
      refine jn_i C0 hP hD hS [0, 1] [] (ru_V C0 (As := [.int l_2, .int l_1]) (rest := []) (c_XD_hasLetIn l hl9 dC dI cI cJ cZ q_0 q_seconds q_order q_firstIn q_doubles q_goneOut l_2 l_1 v_seconds v_found _ hw _) k_152 k_153 k_154 k_155 k_62 (n9 := 2) (by decide +kernel) rfl (ci := 6) rfl rfl ⟨Nat.le_of_ble_eq_true rfl, Nat.le_of_ble_eq_true rfl⟩ hP hD hS [0, 1] rfl (by decide) hl.1 rfl (Nat.le_of_ble_eq_true rfl) d_XD_anyLetIn_11 ⟨Nat.le_of_ble_eq_true rfl, Nat.le_of_ble_eq_true rfl⟩) rfl rfl (by decide) (by decide) (fun r_2 u H locs hw hP hD hS => ?_)
      try dsimp only at hw
      have hP : va_P (dC, dI) classes [(q_0, .inr (6, [.ref q_seconds, .ref q_order, .ref q_firstIn, .ref q_doubles, .int v_found, .ref q_goneOut])), (q_seconds, .inl (cI, 360, .inl v_seconds))] H := hP
      have hD : va_D A [(q_0, .inr (6, [.ref q_seconds, .ref q_order, .ref q_firstIn, .ref q_doubles, .int v_found, .ref q_goneOut])), (q_seconds, .inl (cI, 360, .inl v_seconds))] := hD
      refine lv_if_eq (tgt := 19) hx hb d_XD_anyLetIn_14 (by decide) (fun c_3 => ?_) (fun c_3 => ?_)
      · have hw := hw.1 c_3
        obtain ⟨x_4, ex_4⟩ : ∃ y : Int32, y = l_2 + (1 : Int32) := ⟨_, rfl⟩
        have hw := hw x_4 ex_4
        refine lv_iinc (v := x_4) (lv' := [(2, .int x_4), (0, .ref q_0), (1, .int l_1)]) hx hb d_XD_anyLetIn_19 hl (k := 2) rfl (by rw [ex_4]; rfl) (by decide) rfl (fun ls hl => ?_)
        refine lv_goto (tgt := 2) hx hb d_XD_anyLetIn_22 (by decide) ?_
        exact ih l_1 x_4 hw _ _ hP hD hS _ (lv_sub hl [1, 2, 0] rfl)
      · have hw := hw.2 c_3
        refine lv_iconst (v := (1 : Int32)) hx hb d_XD_anyLetIn_17 (by decide) ?_
        exact rt_z (u := ()) C0 (by decide) hw hP hD hS (by decide) (by decide) d_XD_anyLetIn_18
def wp_XD_anyLetIn (post : Int32 → Unit → Prop) (a_1 : Int32) (v_seconds : Nat → Int32) : Prop := ∃ n_2, wp_XD_anyLetIn_2 post v_seconds n_2 a_1 (0 : Int32)
set_option maxHeartbeats 4000000 in
set_option maxRecDepth 100000 in
theorem c_XD_anyLetIn (l : Launch) (hl9 : l.stackTraces = false) (dC : Nat → ClassId) (dI : Nat → Nat → Nat) (cI cJ cZ : ClassId) (q_0 q_seconds q_order q_firstIn q_doubles q_goneOut : Nat) (a_1 : Int32) (v_seconds : Nat → Int32) (v_found : Int32) (post : Int32 → Unit → Prop) (hw : wp_XD_anyLetIn post a_1 v_seconds) : Ki l y_XD_anyLetIn b_XD_anyLetIn 3 (some .boolean) ({ frames := 1, cells := 0, slots := 0, locals := 22 } : Room) dC dI cI cJ cZ [.ref q_0, .int a_1] [(q_0, .inr (6, [.ref q_seconds, .ref q_order, .ref q_firstIn, .ref q_doubles, .int v_found, .ref q_goneOut])), (q_seconds, .inl (cI, 360, .inl v_seconds))] post (fun u : Unit => [(q_0, .inr (6, [.ref q_seconds, .ref q_order, .ref q_firstIn, .ref q_doubles, .int v_found, .ref q_goneOut])), (q_seconds, .inl (cI, 360, .inl v_seconds))]) := by
  refine mki hl9 (own := R_XD) rfl (by decide) ?_
  intro p e s m args below meth c A C0 hnm eav hP hD
  obtain ⟨-, hx, hb, hml, hr, hown, hts, hlocks, hK, hZ, hA, hNS⟩ := id C0
  subst eav
  have hS : va_S A s.heap s.heap [] := va_S.rf
  have hl := lv_entry ([.ref q_0, .int a_1]) (n := 3) (Nat.le_of_ble_eq_true rfl)
  rw [lg_entry_eq]
  generalize (lg_sl ([.ref q_0, .int a_1]) ++ List.replicate (3 - (lg_sl ([.ref q_0, .int a_1])).length) Slot.unset).toArray = ls at hl ⊢
  have hl : lv_has ls 3 [(0, .ref q_0), (1, .int a_1)] := hl
  unfold wp_XD_anyLetIn at hw
  refine lv_iconst (v := (0 : Int32)) hx hb d_XD_anyLetIn_0 (by decide) ?_
  refine lv_istore_n (lv' := [(2, .int (0 : Int32)), (0, .ref q_0), (1, .int a_1)]) hx hb d_XD_anyLetIn_1 rfl hl (by decide) rfl (fun ls hl => ?_)
  obtain ⟨n_2, hw⟩ := hw
  exact t_XD_anyLetIn_2 (post := post) C0 n_2 a_1 (0 : Int32) hw _ _ hP hD hS _ (lv_sub hl [1, 2, 0] rfl)
theorem d_XF_collect_0 : decode b_XF_collect 0 = .ok (.aload_n 0, 1) := by decide +kernel
theorem d_XF_collect_1 : decode b_XF_collect 1 = .ok (.getfield 9, 3) := by decide +kernel
theorem d_XF_collect_4 : decode b_XF_collect 4 = .ok (.aload_n 0, 1) := by decide +kernel
theorem d_XF_collect_5 : decode b_XF_collect 5 = .ok (.getfield 27, 3) := by decide +kernel
theorem d_XF_collect_8 : decode b_XF_collect 8 = .ok (.iload_n 1, 1) := by decide +kernel
theorem d_XF_collect_9 : decode b_XF_collect 9 = .ok (.iastore, 1) := by decide +kernel
theorem d_XF_collect_10 : decode b_XF_collect 10 = .ok (.aload_n 0, 1) := by decide +kernel
theorem d_XF_collect_11 : decode b_XF_collect 11 = .ok (.dup, 1) := by decide +kernel
theorem d_XF_collect_12 : decode b_XF_collect 12 = .ok (.getfield 27, 3) := by decide +kernel
theorem d_XF_collect_15 : decode b_XF_collect 15 = .ok (.iconst 1, 1) := by decide +kernel
theorem d_XF_collect_16 : decode b_XF_collect 16 = .ok (.iadd, 1) := by decide +kernel
theorem d_XF_collect_17 : decode b_XF_collect 17 = .ok (.putfield 27, 3) := by decide +kernel
theorem d_XF_collect_20 : decode b_XF_collect 20 = .ok (.aload_n 0, 1) := by decide +kernel
theorem d_XF_collect_21 : decode b_XF_collect 21 = .ok (.getfield 27, 3) := by decide +kernel
theorem d_XF_collect_24 : decode b_XF_collect 24 = .ok (.ireturn, 1) := by decide +kernel
def wp_XF_collect (post : Int32 → ((Nat → Int32) × (Int32)) → Prop) (a_1 : Int32) (v_text : Nat → Int32) (v_length : Int32) : Prop := (vp_in v_length 60 ∧ (∀ f_2 : Nat → Int32, f_2 = upd v_text v_length.toNatClampNeg a_1 → (∀ x_3 : Int32, x_3 = v_length + (1 : Int32) → post x_3 (f_2, x_3))))
set_option maxHeartbeats 4000000 in
set_option maxRecDepth 100000 in
theorem c_XF_collect (l : Launch) (hl9 : l.stackTraces = false) (dC : Nat → ClassId) (dI : Nat → Nat → Nat) (cI cJ cZ : ClassId) (q_0 q_text q_prices q_percents q_newPrices q_newPercents : Nat) (a_1 : Int32) (v_text : Nat → Int32) (v_length : Int32) (v_clauses : Int32) (v_newClauses : Int32) (v_state : Int32) (v_subject : Int32) (v_number : Int32) (v_digits : Int32) (post : Int32 → ((Nat → Int32) × (Int32)) → Prop) (hw : wp_XF_collect post a_1 v_text v_length) : Ki l y_XF_collect b_XF_collect 2 (some .int) ({ frames := 0, cells := 0, slots := 0, locals := 0 } : Room) dC dI cI cJ cZ [.ref q_0, .int a_1] [(q_0, .inr (5, [.ref q_text, .int v_length, .ref q_prices, .ref q_percents, .int v_clauses, .ref q_newPrices, .ref q_newPercents, .int v_newClauses, .int v_state, .int v_subject, .int v_number, .int v_digits])), (q_text, .inl (cI, 60, .inl v_text))] post (fun u : (Nat → Int32) × (Int32) => [(q_0, .inr (5, [.ref q_text, .int u.2, .ref q_prices, .ref q_percents, .int v_clauses, .ref q_newPrices, .ref q_newPercents, .int v_newClauses, .int v_state, .int v_subject, .int v_number, .int v_digits])), (q_text, .inl (cI, 60, .inl u.1))]) := by
  refine mki hl9 (own := R_XF) rfl (by decide) ?_
  intro p e s m args below meth c A C0 hnm eav hP hD
  obtain ⟨-, hx, hb, hml, hr, hown, hts, hlocks, hK, hZ, hA, hNS⟩ := id C0
  subst eav
  have hS : va_S A s.heap s.heap [] := va_S.rf
  have hl := lv_entry ([.ref q_0, .int a_1]) (n := 2) (Nat.le_of_ble_eq_true rfl)
  rw [lg_entry_eq]
  generalize (lg_sl ([.ref q_0, .int a_1]) ++ List.replicate (2 - (lg_sl ([.ref q_0, .int a_1])).length) Slot.unset).toArray = ls at hl ⊢
  have hl : lv_has ls 2 [(0, .ref q_0), (1, .int a_1)] := hl
  unfold wp_XF_collect at hw
  refine lv_aload_n hx hb d_XF_collect_0 rfl (lv_at hl 0 rfl) ?_
  refine va_get (D := (dC, dI)) (ci := 5) (v := .ref q_text) (C := R_XF) (T := F_XF) (N := 12) hx hb hts i_XF hown hK hP 0 rfl rfl 0 (by decide) (hts _ k_52) (fun _ h9 => h9) rfl d_XF_collect_1 ?_
  refine lv_aload_n hx hb d_XF_collect_4 rfl (lv_at hl 0 rfl) ?_
  refine va_get (D := (dC, dI)) (ci := 5) (v := .int v_length) (C := R_XF) (T := F_XF) (N := 12) hx hb hts i_XF hown hK hP 0 rfl rfl 1 (by decide) (hts _ k_178) (fun _ h9 => h9) rfl d_XF_collect_5 ?_
  refine lv_iload_n hx hb d_XF_collect_8 rfl (lv_at hl 1 rfl) ?_
  obtain ⟨h_1, hw⟩ := hw
  refine va_iast hx hb hK hP hD hS 1 0 rfl rfl h_1 d_XF_collect_9 (fun H locs hP hD hS => ?_)
  obtain ⟨f_2, ef_2⟩ : ∃ g : Nat → Int32, g = upd v_text v_length.toNatClampNeg a_1 := ⟨_, rfl⟩
  have hw := hw f_2 ef_2
  have hP : va_P (dC, dI) classes [(q_0, .inr (5, [.ref q_text, .int v_length, .ref q_prices, .ref q_percents, .int v_clauses, .ref q_newPrices, .ref q_newPercents, .int v_newClauses, .int v_state, .int v_subject, .int v_number, .int v_digits])), (q_text, .inl (cI, 60, .inl f_2))] H := by rw [ef_2]; exact hP
  have hD : va_D A [(q_0, .inr (5, [.ref q_text, .int v_length, .ref q_prices, .ref q_percents, .int v_clauses, .ref q_newPrices, .ref q_newPercents, .int v_newClauses, .int v_state, .int v_subject, .int v_number, .int v_digits])), (q_text, .inl (cI, 60, .inl f_2))] := by rw [ef_2]; exact hD
  refine lv_aload_n hx hb d_XF_collect_10 rfl (lv_at hl 0 rfl) ?_
  refine lv_dup hx hb d_XF_collect_11 rfl ?_
  refine va_get (D := (dC, dI)) (ci := 5) (v := .int v_length) (C := R_XF) (T := F_XF) (N := 12) hx hb hts i_XF hown hK hP 0 rfl rfl 1 (by decide) (hts _ k_178) (fun _ h9 => h9) rfl d_XF_collect_12 ?_
  refine lv_iconst (v := (1 : Int32)) hx hb d_XF_collect_15 (by decide) ?_
  refine lv_iadd hx hb d_XF_collect_16 ?_
  refine lv_topi (fun x_3 ex_3 => ?_)
  have hw := hw x_3 ex_3
  refine va_put (D := (dC, dI)) (ci := 5) (v := .int x_3) (ty := .int) (C := R_XF) (T := F_XF) (N := 12) hx hb hts i_XF t_XF t_XF_ok n_XF hown hK hP hD hS 0 rfl rfl 1 (by decide) (hts _ k_178) (fun _ h9 => h9) rfl (by decide +kernel) rfl rfl (Nat.le_of_ble_eq_true rfl) d_XF_collect_17 (fun H locs hP hD hS => ?_)
  have hP : va_P (dC, dI) classes [(q_0, .inr (5, [.ref q_text, .int x_3, .ref q_prices, .ref q_percents, .int v_clauses, .ref q_newPrices, .ref q_newPercents, .int v_newClauses, .int v_state, .int v_subject, .int v_number, .int v_digits])), (q_text, .inl (cI, 60, .inl f_2))] H := hP
  have hD : va_D A [(q_0, .inr (5, [.ref q_text, .int x_3, .ref q_prices, .ref q_percents, .int v_clauses, .ref q_newPrices, .ref q_newPercents, .int v_newClauses, .int v_state, .int v_subject, .int v_number, .int v_digits])), (q_text, .inl (cI, 60, .inl f_2))] := hD
  refine lv_aload_n hx hb d_XF_collect_20 rfl (lv_at hl 0 rfl) ?_
  refine va_get (D := (dC, dI)) (ci := 5) (v := .int x_3) (C := R_XF) (T := F_XF) (N := 12) hx hb hts i_XF hown hK hP 0 rfl rfl 1 (by decide) (hts _ k_178) (fun _ h9 => h9) rfl d_XF_collect_21 ?_
  exact rt_i (u := (f_2, x_3)) C0 hw hP hD hS (by decide) (by decide) d_XF_collect_24
theorem d_XF_endsClause_0 : decode b_XF_endsClause 0 = .ok (.aload_n 0, 1) := by decide +kernel
theorem d_XF_endsClause_1 : decode b_XF_endsClause 1 = .ok (.getfield 53, 3) := by decide +kernel
theorem d_XF_endsClause_4 : decode b_XF_endsClause 4 = .ok (.iconst 2, 1) := by decide +kernel
theorem d_XF_endsClause_5 : decode b_XF_endsClause 5 = .ok (.if_icmp .eq 11, 3) := by decide +kernel
theorem d_XF_endsClause_8 : decode b_XF_endsClause 8 = .ok (.aload_n 0, 1) := by decide +kernel
theorem d_XF_endsClause_9 : decode b_XF_endsClause 9 = .ok (.getfield 53, 3) := by decide +kernel
theorem d_XF_endsClause_12 : decode b_XF_endsClause 12 = .ok (.iconst 4, 1) := by decide +kernel
theorem d_XF_endsClause_13 : decode b_XF_endsClause 13 = .ok (.if_icmp .ne 10, 3) := by decide +kernel
theorem d_XF_endsClause_16 : decode b_XF_endsClause 16 = .ok (.aload_n 0, 1) := by decide +kernel
theorem d_XF_endsClause_17 : decode b_XF_endsClause 17 = .ok (.getfield 90, 3) := by decide +kernel
theorem d_XF_endsClause_20 : decode b_XF_endsClause 20 = .ok (.ifCond .ne 5, 3) := by decide +kernel
theorem d_XF_endsClause_23 : decode b_XF_endsClause 23 = .ok (.iconst 0, 1) := by decide +kernel
theorem d_XF_endsClause_24 : decode b_XF_endsClause 24 = .ok (.ireturn, 1) := by decide +kernel
theorem d_XF_endsClause_25 : decode b_XF_endsClause 25 = .ok (.aload_n 0, 1) := by decide +kernel
theorem d_XF_endsClause_26 : decode b_XF_endsClause 26 = .ok (.getfield 53, 3) := by decide +kernel
theorem d_XF_endsClause_29 : decode b_XF_endsClause 29 = .ok (.iconst 2, 1) := by decide +kernel
theorem d_XF_endsClause_30 : decode b_XF_endsClause 30 = .ok (.if_icmp .ne 19, 3) := by decide +kernel
theorem d_XF_endsClause_33 : decode b_XF_endsClause 33 = .ok (.aload_n 0, 1) := by decide +kernel
theorem d_XF_endsClause_34 : decode b_XF_endsClause 34 = .ok (.getfield 21, 3) := by decide +kernel
theorem d_XF_endsClause_37 : decode b_XF_endsClause 37 = .ok (.aload_n 0, 1) := by decide +kernel
theorem d_XF_endsClause_38 : decode b_XF_endsClause 38 = .ok (.getfield 84, 3) := by decide +kernel
theorem d_XF_endsClause_41 : decode b_XF_endsClause 41 = .ok (.aload_n 0, 1) := by decide +kernel
theorem d_XF_endsClause_42 : decode b_XF_endsClause 42 = .ok (.getfield 87, 3) := by decide +kernel
theorem d_XF_endsClause_45 : decode b_XF_endsClause 45 = .ok (.iastore, 1) := by decide +kernel
theorem d_XF_endsClause_46 : decode b_XF_endsClause 46 = .ok (.goto 39, 3) := by decide +kernel
theorem d_XF_endsClause_49 : decode b_XF_endsClause 49 = .ok (.aload_n 0, 1) := by decide +kernel
theorem d_XF_endsClause_50 : decode b_XF_endsClause 50 = .ok (.getfield 84, 3) := by decide +kernel
theorem d_XF_endsClause_53 : decode b_XF_endsClause 53 = .ok (.istore_n 1, 1) := by decide +kernel
theorem d_XF_endsClause_54 : decode b_XF_endsClause 54 = .ok (.iload_n 1, 1) := by decide +kernel
theorem d_XF_endsClause_55 : decode b_XF_endsClause 55 = .ok (.bipush 9, 2) := by decide +kernel
theorem d_XF_endsClause_57 : decode b_XF_endsClause 57 = .ok (.if_icmp .gt 28, 3) := by decide +kernel
theorem d_XF_endsClause_60 : decode b_XF_endsClause 60 = .ok (.aload_n 0, 1) := by decide +kernel
theorem d_XF_endsClause_61 : decode b_XF_endsClause 61 = .ok (.getfield 24, 3) := by decide +kernel
theorem d_XF_endsClause_64 : decode b_XF_endsClause 64 = .ok (.iload_n 1, 1) := by decide +kernel
theorem d_XF_endsClause_65 : decode b_XF_endsClause 65 = .ok (.aload_n 0, 1) := by decide +kernel
theorem d_XF_endsClause_66 : decode b_XF_endsClause 66 = .ok (.getfield 24, 3) := by decide +kernel
theorem d_XF_endsClause_69 : decode b_XF_endsClause 69 = .ok (.iload_n 1, 1) := by decide +kernel
theorem d_XF_endsClause_70 : decode b_XF_endsClause 70 = .ok (.iaload, 1) := by decide +kernel
theorem d_XF_endsClause_71 : decode b_XF_endsClause 71 = .ok (.aload_n 0, 1) := by decide +kernel
theorem d_XF_endsClause_72 : decode b_XF_endsClause 72 = .ok (.getfield 87, 3) := by decide +kernel
theorem d_XF_endsClause_75 : decode b_XF_endsClause 75 = .ok (.invokestatic 93, 3) := by decide +kernel
theorem d_XF_endsClause_78 : decode b_XF_endsClause 78 = .ok (.iastore, 1) := by decide +kernel
theorem d_XF_endsClause_79 : decode b_XF_endsClause 79 = .ok (.iinc 1 1, 3) := by decide +kernel
theorem d_XF_endsClause_82 : decode b_XF_endsClause 82 = .ok (.goto (-28), 3) := by decide +kernel
theorem d_XF_endsClause_85 : decode b_XF_endsClause 85 = .ok (.aload_n 0, 1) := by decide +kernel
theorem d_XF_endsClause_86 : decode b_XF_endsClause 86 = .ok (.dup, 1) := by decide +kernel
theorem d_XF_endsClause_87 : decode b_XF_endsClause 87 = .ok (.getfield 41, 3) := by decide +kernel
theorem d_XF_endsClause_90 : decode b_XF_endsClause 90 = .ok (.iconst 1, 1) := by decide +kernel
theorem d_XF_endsClause_91 : decode b_XF_endsClause 91 = .ok (.iadd, 1) := by decide +kernel
theorem d_XF_endsClause_92 : decode b_XF_endsClause 92 = .ok (.putfield 41, 3) := by decide +kernel
theorem d_XF_endsClause_95 : decode b_XF_endsClause 95 = .ok (.iconst 1, 1) := by decide +kernel
theorem d_XF_endsClause_96 : decode b_XF_endsClause 96 = .ok (.ireturn, 1) := by decide +kernel
def gl_XF_endsClause_54 (p : Program) (l : Launch) (e : Env) (s : State) (m : MethodId) (args : Array Value) (below : List Frame) (meth : Method) (c : Code) (R : Room) (A : Nat → Prop) (Q : State → Prop) (dC : Nat → ClassId) (dI : Nat → Nat → Nat) (cI cJ cZ : ClassId) (q_0 q_newPrices q_newPercents q_text q_prices q_percents : Nat) (v_length : Int32) (v_clauses : Int32) (v_state : Int32) (v_subject : Int32) (v_number : Int32) (v_digits : Int32) (l_1 : Int32) (v_newPrices : Nat → Int32) (v_newPercents : Nat → Int32) (v_newClauses : Int32) : Prop :=
  ∀ (H : Heap) (locs : List Loc), va_P (dC, dI) classes [(q_0, .inr (5, [.ref q_text, .int v_length, .ref q_prices, .ref q_percents, .int v_clauses, .ref q_newPrices, .ref q_newPercents, .int v_newClauses, .int v_state, .int v_subject, .int v_number, .int v_digits])), (q_newPrices, .inl (cI, 5, .inl v_newPrices)), (q_newPercents, .inl (cI, 10, .inl v_newPercents))] H → va_D A [(q_0, .inr (5, [.ref q_text, .int v_length, .ref q_prices, .ref q_percents, .int v_clauses, .ref q_newPrices, .ref q_newPercents, .int v_newClauses, .int v_state, .int v_subject, .int v_number, .int v_digits])), (q_newPrices, .inl (cI, 5, .inl v_newPrices)), (q_newPercents, .inl (cI, 10, .inl v_newPercents))] → va_S A s.heap H locs → ∀ ls : Array Slot, lv_has ls 2 [(0, .ref q_0), (1, .int l_1)] → W p l e R s m args below meth c H locs 0 0 Q (F0 m 54 ls [])
def gl_XF_endsClause_16 (p : Program) (l : Launch) (e : Env) (s : State) (m : MethodId) (args : Array Value) (below : List Frame) (meth : Method) (c : Code) (R : Room) (A : Nat → Prop) (Q : State → Prop) (dC : Nat → ClassId) (dI : Nat → Nat → Nat) (cI cJ cZ : ClassId) (q_0 q_newPrices q_newPercents q_text q_prices q_percents : Nat) (v_length : Int32) (v_clauses : Int32) (v_state : Int32) (v_subject : Int32) (v_number : Int32) (v_digits : Int32) (v_newPrices : Nat → Int32) (v_newPercents : Nat → Int32) (v_newClauses : Int32) : Prop :=
  ∀ (H : Heap) (locs : List Loc), va_P (dC, dI) classes [(q_0, .inr (5, [.ref q_text, .int v_length, .ref q_prices, .ref q_percents, .int v_clauses, .ref q_newPrices, .ref q_newPercents, .int v_newClauses, .int v_state, .int v_subject, .int v_number, .int v_digits])), (q_newPrices, .inl (cI, 5, .inl v_newPrices)), (q_newPercents, .inl (cI, 10, .inl v_newPercents))] H → va_D A [(q_0, .inr (5, [.ref q_text, .int v_length, .ref q_prices, .ref q_percents, .int v_clauses, .ref q_newPrices, .ref q_newPercents, .int v_newClauses, .int v_state, .int v_subject, .int v_number, .int v_digits])), (q_newPrices, .inl (cI, 5, .inl v_newPrices)), (q_newPercents, .inl (cI, 10, .inl v_newPercents))] → va_S A s.heap H locs → ∀ ls : Array Slot, lv_has ls 2 [(0, .ref q_0)] → W p l e R s m args below meth c H locs 0 0 Q (F0 m 16 ls [])
def wp_XF_endsClause_54 (post : Int32 → ((Nat → Int32) × (Nat → Int32) × (Int32)) → Prop) (v_state : Int32) (v_subject : Int32) (v_number : Int32) (v_digits : Int32) : Nat → Int32 → (Nat → Int32) → (Nat → Int32) → Int32 → Prop
  | 0 => fun _ _ _ _ => False
  | n_54 + 1 => fun l_1 v_newPrices v_newPercents v_newClauses => (((9 : Int32) < l_1 → (∀ x_9 : Int32, x_9 = v_newClauses + (1 : Int32) → post (1 : Int32) (v_newPrices, v_newPercents, x_9))) ∧ (¬ ((9 : Int32) < l_1) → (vp_in l_1 10 ∧ (vp_in l_1 10 ∧ (∀ f_12 : Nat → Int32, f_12 = upd v_newPercents l_1.toNatClampNeg (if (v_newPercents l_1.toNatClampNeg) < v_number then v_number else (v_newPercents l_1.toNatClampNeg)) → (∀ x_13 : Int32, x_13 = l_1 + (1 : Int32) → (wp_XF_endsClause_54 post v_state v_subject v_number v_digits n_54) x_13 v_newPrices f_12 v_newClauses))))))
set_option maxHeartbeats 4000000 in
set_option maxRecDepth 100000 in
theorem t_XF_endsClause_54 {p : Program} {l : Launch} {e : Env} {s : State} {m : MethodId} {args : Array Value} {below : List Frame} {meth : Method} {c : Code} {dC : Nat → ClassId} {dI : Nat → Nat → Nat} {cI cJ cZ : ClassId} {A : Nat → Prop} {q_0 : Nat} {q_newPrices : Nat} {q_newPercents : Nat} {q_text : Nat} {q_prices : Nat} {q_percents : Nat} {v_length : Int32} {v_clauses : Int32} {v_state : Int32} {v_subject : Int32} {v_number : Int32} {v_digits : Int32} {post : Int32 → ((Nat → Int32) × (Nat → Int32) × (Int32)) → Prop} (C0 : cxM b_XF_endsClause 2 (some .boolean) R_XF l dC dI cI cJ cZ A p s m args meth c) : ∀ (n_54 : Nat) (l_1 : Int32) (v_newPrices : Nat → Int32) (v_newPercents : Nat → Int32) (v_newClauses : Int32), wp_XF_endsClause_54 post v_state v_subject v_number v_digits n_54 l_1 v_newPrices v_newPercents v_newClauses → gl_XF_endsClause_54 p l e s m args below meth c ({ frames := 1, cells := 0, slots := 0, locals := 21 } : Room) A (Qi below args s A dC dI cI cJ cZ ({ frames := 1, cells := 0, slots := 0, locals := 21 } : Room) post (fun u : (Nat → Int32) × (Nat → Int32) × (Int32) => [(q_0, .inr (5, [.ref q_text, .int v_length, .ref q_prices, .ref q_percents, .int v_clauses, .ref q_newPrices, .ref q_newPercents, .int u.2.2, .int v_state, .int v_subject, .int v_number, .int v_digits])), (q_newPrices, .inl (cI, 5, .inl u.1)), (q_newPercents, .inl (cI, 10, .inl u.2.1))])) dC dI cI cJ cZ q_0 q_newPrices q_newPercents q_text q_prices q_percents v_length v_clauses v_state v_subject v_number v_digits l_1 v_newPrices v_newPercents v_newClauses := by
  obtain ⟨hl9, hx, hb, hml, hr, hown, hts, hlocks, hK, hZ, hA, hNS⟩ := id C0
  intro n_54
  induction n_54 with
  | zero => intro _ _ _ _ hw; exact hw.elim
  | succ n_54 ih =>
    intro l_1 v_newPrices v_newPercents v_newClauses hw H locs hP hD hS ls hl
    refine lv_iload_n hx hb d_XF_endsClause_54 rfl (lv_at hl 1 rfl) ?_
    refine lv_bipush (v := (9 : Int32)) hx hb d_XF_endsClause_55 (by decide) ?_
    refine lv_icmp_gt (tgt := 85) hx hb d_XF_endsClause_57 (by decide) (fun c_8 => ?_) (fun c_8 => ?_)
    · have hw := hw.1 c_8
      refine lv_aload_n hx hb d_XF_endsClause_85 rfl (lv_at hl 0 rfl) ?_
      refine lv_dup hx hb d_XF_endsClause_86 rfl ?_
      refine va_get (D := (dC, dI)) (ci := 5) (v := .int v_newClauses) (C := R_XF) (T := F_XF) (N := 12) hx hb hts i_XF hown hK hP 0 rfl rfl 7 (by decide) (hts _ k_184) (fun _ h9 => h9) rfl d_XF_endsClause_87 ?_
      refine lv_iconst (v := (1 : Int32)) hx hb d_XF_endsClause_90 (by decide) ?_
      refine lv_iadd hx hb d_XF_endsClause_91 ?_
      refine lv_topi (fun x_9 ex_9 => ?_)
      have hw := hw x_9 ex_9
      refine va_put (D := (dC, dI)) (ci := 5) (v := .int x_9) (ty := .int) (C := R_XF) (T := F_XF) (N := 12) hx hb hts i_XF t_XF t_XF_ok n_XF hown hK hP hD hS 0 rfl rfl 7 (by decide) (hts _ k_184) (fun _ h9 => h9) rfl (by decide +kernel) rfl rfl (Nat.le_of_ble_eq_true rfl) d_XF_endsClause_92 (fun H locs hP hD hS => ?_)
      have hP : va_P (dC, dI) classes [(q_0, .inr (5, [.ref q_text, .int v_length, .ref q_prices, .ref q_percents, .int v_clauses, .ref q_newPrices, .ref q_newPercents, .int x_9, .int v_state, .int v_subject, .int v_number, .int v_digits])), (q_newPrices, .inl (cI, 5, .inl v_newPrices)), (q_newPercents, .inl (cI, 10, .inl v_newPercents))] H := hP
      have hD : va_D A [(q_0, .inr (5, [.ref q_text, .int v_length, .ref q_prices, .ref q_percents, .int v_clauses, .ref q_newPrices, .ref q_newPercents, .int x_9, .int v_state, .int v_subject, .int v_number, .int v_digits])), (q_newPrices, .inl (cI, 5, .inl v_newPrices)), (q_newPercents, .inl (cI, 10, .inl v_newPercents))] := hD
      refine lv_iconst (v := (1 : Int32)) hx hb d_XF_endsClause_95 (by decide) ?_
      exact rt_z (u := (v_newPrices, v_newPercents, x_9)) C0 (by decide) hw hP hD hS (by decide) (by decide) d_XF_endsClause_96
    · have hw := hw.2 c_8
      refine lv_aload_n hx hb d_XF_endsClause_60 rfl (lv_at hl 0 rfl) ?_
      refine va_get (D := (dC, dI)) (ci := 5) (v := .ref q_newPercents) (C := R_XF) (T := F_XF) (N := 12) hx hb hts i_XF hown hK hP 0 rfl rfl 6 (by decide) (hts _ k_56) (fun _ h9 => h9) rfl d_XF_endsClause_61 ?_
      refine lv_iload_n hx hb d_XF_endsClause_64 rfl (lv_at hl 1 rfl) ?_
      refine lv_aload_n hx hb d_XF_endsClause_65 rfl (lv_at hl 0 rfl) ?_
      refine va_get (D := (dC, dI)) (ci := 5) (v := .ref q_newPercents) (C := R_XF) (T := F_XF) (N := 12) hx hb hts i_XF hown hK hP 0 rfl rfl 6 (by decide) (hts _ k_56) (fun _ h9 => h9) rfl d_XF_endsClause_66 ?_
      refine lv_iload_n hx hb d_XF_endsClause_69 rfl (lv_at hl 1 rfl) ?_
      obtain ⟨h_10, hw⟩ := hw
      refine va_iald hx hb hK hP 2 0 rfl rfl h_10 d_XF_endsClause_70 ?_
      refine lv_aload_n hx hb d_XF_endsClause_71 rfl (lv_at hl 0 rfl) ?_
      refine va_get (D := (dC, dI)) (ci := 5) (v := .int v_number) (C := R_XF) (T := F_XF) (N := 12) hx hb hts i_XF hown hK hP 0 rfl rfl 10 (by decide) (hts _ k_188) (fun _ h9 => h9) rfl d_XF_endsClause_72 ?_
      refine va_mmax hx hb (by rw [hml]; exact hl.1.symm) hown (hts _ k_189) (hts _ k_190) (hts _ k_191) (hts _ k_192) (Nat.le_of_ble_eq_true rfl) (Nat.le_of_ble_eq_true rfl) (Nat.le_of_ble_eq_true rfl) (Nat.le_of_ble_eq_true rfl) d_XF_endsClause_75 ?_
      obtain ⟨h_11, hw⟩ := hw
      refine va_iast hx hb hK hP hD hS 2 0 rfl rfl h_11 d_XF_endsClause_78 (fun H locs hP hD hS => ?_)
      obtain ⟨f_12, ef_12⟩ : ∃ g : Nat → Int32, g = upd v_newPercents l_1.toNatClampNeg (if (v_newPercents l_1.toNatClampNeg) < v_number then v_number else (v_newPercents l_1.toNatClampNeg)) := ⟨_, rfl⟩
      have hw := hw f_12 ef_12
      have hP : va_P (dC, dI) classes [(q_0, .inr (5, [.ref q_text, .int v_length, .ref q_prices, .ref q_percents, .int v_clauses, .ref q_newPrices, .ref q_newPercents, .int v_newClauses, .int v_state, .int v_subject, .int v_number, .int v_digits])), (q_newPrices, .inl (cI, 5, .inl v_newPrices)), (q_newPercents, .inl (cI, 10, .inl f_12))] H := by rw [ef_12]; exact hP
      have hD : va_D A [(q_0, .inr (5, [.ref q_text, .int v_length, .ref q_prices, .ref q_percents, .int v_clauses, .ref q_newPrices, .ref q_newPercents, .int v_newClauses, .int v_state, .int v_subject, .int v_number, .int v_digits])), (q_newPrices, .inl (cI, 5, .inl v_newPrices)), (q_newPercents, .inl (cI, 10, .inl f_12))] := by rw [ef_12]; exact hD
      obtain ⟨x_13, ex_13⟩ : ∃ y : Int32, y = l_1 + (1 : Int32) := ⟨_, rfl⟩
      have hw := hw x_13 ex_13
      refine lv_iinc (v := x_13) (lv' := [(1, .int x_13), (0, .ref q_0)]) hx hb d_XF_endsClause_79 hl (k := 1) rfl (by rw [ex_13]; rfl) (by decide) rfl (fun ls hl => ?_)
      refine lv_goto (tgt := 54) hx hb d_XF_endsClause_82 (by decide) ?_
      exact ih x_13 v_newPrices f_12 v_newClauses hw _ _ hP hD hS _ (lv_sub hl [1, 0] rfl)
def wp_XF_endsClause_16 (post : Int32 → ((Nat → Int32) × (Nat → Int32) × (Int32)) → Prop) (v_state : Int32) (v_subject : Int32) (v_number : Int32) (v_digits : Int32) (v_newPrices : Nat → Int32) (v_newPercents : Nat → Int32) (v_newClauses : Int32) : Prop := ((v_digits = 0 → post (0 : Int32) (v_newPrices, v_newPercents, v_newClauses)) ∧ (¬ (v_digits = 0) → ((v_state = (2 : Int32) → (vp_in v_subject 5 ∧ (∀ f_6 : Nat → Int32, f_6 = upd v_newPrices v_subject.toNatClampNeg v_number → (∀ x_7 : Int32, x_7 = v_newClauses + (1 : Int32) → post (1 : Int32) (f_6, v_newPercents, x_7))))) ∧ (¬ (v_state = (2 : Int32)) → ∃ n_54, wp_XF_endsClause_54 post v_state v_subject v_number v_digits n_54 v_subject v_newPrices v_newPercents v_newClauses))))
set_option maxHeartbeats 4000000 in
set_option maxRecDepth 100000 in
theorem t_XF_endsClause_16 {p : Program} {l : Launch} {e : Env} {s : State} {m : MethodId} {args : Array Value} {below : List Frame} {meth : Method} {c : Code} {dC : Nat → ClassId} {dI : Nat → Nat → Nat} {cI cJ cZ : ClassId} {A : Nat → Prop} {q_0 : Nat} {q_newPrices : Nat} {q_newPercents : Nat} {q_text : Nat} {q_prices : Nat} {q_percents : Nat} {v_length : Int32} {v_clauses : Int32} {v_state : Int32} {v_subject : Int32} {v_number : Int32} {v_digits : Int32} {post : Int32 → ((Nat → Int32) × (Nat → Int32) × (Int32)) → Prop} (C0 : cxM b_XF_endsClause 2 (some .boolean) R_XF l dC dI cI cJ cZ A p s m args meth c) : ∀ (v_newPrices : Nat → Int32) (v_newPercents : Nat → Int32) (v_newClauses : Int32), wp_XF_endsClause_16 post v_state v_subject v_number v_digits v_newPrices v_newPercents v_newClauses → gl_XF_endsClause_16 p l e s m args below meth c ({ frames := 1, cells := 0, slots := 0, locals := 21 } : Room) A (Qi below args s A dC dI cI cJ cZ ({ frames := 1, cells := 0, slots := 0, locals := 21 } : Room) post (fun u : (Nat → Int32) × (Nat → Int32) × (Int32) => [(q_0, .inr (5, [.ref q_text, .int v_length, .ref q_prices, .ref q_percents, .int v_clauses, .ref q_newPrices, .ref q_newPercents, .int u.2.2, .int v_state, .int v_subject, .int v_number, .int v_digits])), (q_newPrices, .inl (cI, 5, .inl u.1)), (q_newPercents, .inl (cI, 10, .inl u.2.1))])) dC dI cI cJ cZ q_0 q_newPrices q_newPercents q_text q_prices q_percents v_length v_clauses v_state v_subject v_number v_digits v_newPrices v_newPercents v_newClauses := by
  obtain ⟨hl9, hx, hb, hml, hr, hown, hts, hlocks, hK, hZ, hA, hNS⟩ := id C0
  intro v_newPrices v_newPercents v_newClauses hw H locs hP hD hS ls hl
  refine lv_aload_n hx hb d_XF_endsClause_16 rfl (lv_at hl 0 rfl) ?_
  refine va_get (D := (dC, dI)) (ci := 5) (v := .int v_digits) (C := R_XF) (T := F_XF) (N := 12) hx hb hts i_XF hown hK hP 0 rfl rfl 11 (by decide) (hts _ k_186) (fun _ h9 => h9) rfl d_XF_endsClause_17 ?_
  refine lv_if_ne (tgt := 25) hx hb d_XF_endsClause_20 (by decide) (fun c_3 => ?_) (fun c_3 => ?_)
  · have hw := hw.2 c_3
    refine lv_aload_n hx hb d_XF_endsClause_25 rfl (lv_at hl 0 rfl) ?_
    refine va_get (D := (dC, dI)) (ci := 5) (v := .int v_state) (C := R_XF) (T := F_XF) (N := 12) hx hb hts i_XF hown hK hP 0 rfl rfl 8 (by decide) (hts _ k_185) (fun _ h9 => h9) rfl d_XF_endsClause_26 ?_
    refine lv_iconst (v := (2 : Int32)) hx hb d_XF_endsClause_29 (by decide) ?_
    refine lv_icmp_ne (tgt := 49) hx hb d_XF_endsClause_30 (by decide) (fun c_4 => ?_) (fun c_4 => ?_)
    · have hw := hw.2 c_4
      refine lv_aload_n hx hb d_XF_endsClause_49 rfl (lv_at hl 0 rfl) ?_
      refine va_get (D := (dC, dI)) (ci := 5) (v := .int v_subject) (C := R_XF) (T := F_XF) (N := 12) hx hb hts i_XF hown hK hP 0 rfl rfl 9 (by decide) (hts _ k_187) (fun _ h9 => h9) rfl d_XF_endsClause_50 ?_
      refine lv_istore_n (lv' := [(1, .int v_subject), (0, .ref q_0)]) hx hb d_XF_endsClause_53 rfl hl (by decide) rfl (fun ls hl => ?_)
      obtain ⟨n_54, hw⟩ := hw
      exact t_XF_endsClause_54 (post := post) C0 n_54 v_subject v_newPrices v_newPercents v_newClauses hw _ _ hP hD hS _ (lv_sub hl [1, 0] rfl)
    · have hw := hw.1 c_4
      refine lv_aload_n hx hb d_XF_endsClause_33 rfl (lv_at hl 0 rfl) ?_
      refine va_get (D := (dC, dI)) (ci := 5) (v := .ref q_newPrices) (C := R_XF) (T := F_XF) (N := 12) hx hb hts i_XF hown hK hP 0 rfl rfl 5 (by decide) (hts _ k_55) (fun _ h9 => h9) rfl d_XF_endsClause_34 ?_
      refine lv_aload_n hx hb d_XF_endsClause_37 rfl (lv_at hl 0 rfl) ?_
      refine va_get (D := (dC, dI)) (ci := 5) (v := .int v_subject) (C := R_XF) (T := F_XF) (N := 12) hx hb hts i_XF hown hK hP 0 rfl rfl 9 (by decide) (hts _ k_187) (fun _ h9 => h9) rfl d_XF_endsClause_38 ?_
      refine lv_aload_n hx hb d_XF_endsClause_41 rfl (lv_at hl 0 rfl) ?_
      refine va_get (D := (dC, dI)) (ci := 5) (v := .int v_number) (C := R_XF) (T := F_XF) (N := 12) hx hb hts i_XF hown hK hP 0 rfl rfl 10 (by decide) (hts _ k_188) (fun _ h9 => h9) rfl d_XF_endsClause_42 ?_
      obtain ⟨h_5, hw⟩ := hw
      refine va_iast hx hb hK hP hD hS 1 0 rfl rfl h_5 d_XF_endsClause_45 (fun H locs hP hD hS => ?_)
      obtain ⟨f_6, ef_6⟩ : ∃ g : Nat → Int32, g = upd v_newPrices v_subject.toNatClampNeg v_number := ⟨_, rfl⟩
      have hw := hw f_6 ef_6
      have hP : va_P (dC, dI) classes [(q_0, .inr (5, [.ref q_text, .int v_length, .ref q_prices, .ref q_percents, .int v_clauses, .ref q_newPrices, .ref q_newPercents, .int v_newClauses, .int v_state, .int v_subject, .int v_number, .int v_digits])), (q_newPrices, .inl (cI, 5, .inl f_6)), (q_newPercents, .inl (cI, 10, .inl v_newPercents))] H := by rw [ef_6]; exact hP
      have hD : va_D A [(q_0, .inr (5, [.ref q_text, .int v_length, .ref q_prices, .ref q_percents, .int v_clauses, .ref q_newPrices, .ref q_newPercents, .int v_newClauses, .int v_state, .int v_subject, .int v_number, .int v_digits])), (q_newPrices, .inl (cI, 5, .inl f_6)), (q_newPercents, .inl (cI, 10, .inl v_newPercents))] := by rw [ef_6]; exact hD
      refine lv_goto (tgt := 85) hx hb d_XF_endsClause_46 (by decide) ?_
      refine lv_aload_n hx hb d_XF_endsClause_85 rfl (lv_at hl 0 rfl) ?_
      refine lv_dup hx hb d_XF_endsClause_86 rfl ?_
      refine va_get (D := (dC, dI)) (ci := 5) (v := .int v_newClauses) (C := R_XF) (T := F_XF) (N := 12) hx hb hts i_XF hown hK hP 0 rfl rfl 7 (by decide) (hts _ k_184) (fun _ h9 => h9) rfl d_XF_endsClause_87 ?_
      refine lv_iconst (v := (1 : Int32)) hx hb d_XF_endsClause_90 (by decide) ?_
      refine lv_iadd hx hb d_XF_endsClause_91 ?_
      refine lv_topi (fun x_7 ex_7 => ?_)
      have hw := hw x_7 ex_7
      refine va_put (D := (dC, dI)) (ci := 5) (v := .int x_7) (ty := .int) (C := R_XF) (T := F_XF) (N := 12) hx hb hts i_XF t_XF t_XF_ok n_XF hown hK hP hD hS 0 rfl rfl 7 (by decide) (hts _ k_184) (fun _ h9 => h9) rfl (by decide +kernel) rfl rfl (Nat.le_of_ble_eq_true rfl) d_XF_endsClause_92 (fun H locs hP hD hS => ?_)
      have hP : va_P (dC, dI) classes [(q_0, .inr (5, [.ref q_text, .int v_length, .ref q_prices, .ref q_percents, .int v_clauses, .ref q_newPrices, .ref q_newPercents, .int x_7, .int v_state, .int v_subject, .int v_number, .int v_digits])), (q_newPrices, .inl (cI, 5, .inl f_6)), (q_newPercents, .inl (cI, 10, .inl v_newPercents))] H := hP
      have hD : va_D A [(q_0, .inr (5, [.ref q_text, .int v_length, .ref q_prices, .ref q_percents, .int v_clauses, .ref q_newPrices, .ref q_newPercents, .int x_7, .int v_state, .int v_subject, .int v_number, .int v_digits])), (q_newPrices, .inl (cI, 5, .inl f_6)), (q_newPercents, .inl (cI, 10, .inl v_newPercents))] := hD
      refine lv_iconst (v := (1 : Int32)) hx hb d_XF_endsClause_95 (by decide) ?_
      exact rt_z (u := (f_6, v_newPercents, x_7)) C0 (by decide) hw hP hD hS (by decide) (by decide) d_XF_endsClause_96
  · have hw := hw.1 c_3
    refine lv_iconst (v := (0 : Int32)) hx hb d_XF_endsClause_23 (by decide) ?_
    exact rt_z (u := (v_newPrices, v_newPercents, v_newClauses)) C0 (by decide) hw hP hD hS (by decide) (by decide) d_XF_endsClause_24
def wp_XF_endsClause (post : Int32 → ((Nat → Int32) × (Nat → Int32) × (Int32)) → Prop) (v_newPrices : Nat → Int32) (v_newPercents : Nat → Int32) (v_newClauses : Int32) (v_state : Int32) (v_subject : Int32) (v_number : Int32) (v_digits : Int32) : Prop := ((v_state = (2 : Int32) → wp_XF_endsClause_16 post v_state v_subject v_number v_digits v_newPrices v_newPercents v_newClauses) ∧ (¬ (v_state = (2 : Int32)) → ((v_state = (4 : Int32) → wp_XF_endsClause_16 post v_state v_subject v_number v_digits v_newPrices v_newPercents v_newClauses) ∧ (¬ (v_state = (4 : Int32)) → post (0 : Int32) (v_newPrices, v_newPercents, v_newClauses)))))
set_option maxHeartbeats 4000000 in
set_option maxRecDepth 100000 in
theorem c_XF_endsClause (l : Launch) (hl9 : l.stackTraces = false) (dC : Nat → ClassId) (dI : Nat → Nat → Nat) (cI cJ cZ : ClassId) (q_0 q_newPrices q_newPercents q_text q_prices q_percents : Nat) (v_length : Int32) (v_clauses : Int32) (v_newPrices : Nat → Int32) (v_newPercents : Nat → Int32) (v_newClauses : Int32) (v_state : Int32) (v_subject : Int32) (v_number : Int32) (v_digits : Int32) (post : Int32 → ((Nat → Int32) × (Nat → Int32) × (Int32)) → Prop) (hw : wp_XF_endsClause post v_newPrices v_newPercents v_newClauses v_state v_subject v_number v_digits) : Ki l y_XF_endsClause b_XF_endsClause 2 (some .boolean) ({ frames := 1, cells := 0, slots := 0, locals := 21 } : Room) dC dI cI cJ cZ [.ref q_0] [(q_0, .inr (5, [.ref q_text, .int v_length, .ref q_prices, .ref q_percents, .int v_clauses, .ref q_newPrices, .ref q_newPercents, .int v_newClauses, .int v_state, .int v_subject, .int v_number, .int v_digits])), (q_newPrices, .inl (cI, 5, .inl v_newPrices)), (q_newPercents, .inl (cI, 10, .inl v_newPercents))] post (fun u : (Nat → Int32) × (Nat → Int32) × (Int32) => [(q_0, .inr (5, [.ref q_text, .int v_length, .ref q_prices, .ref q_percents, .int v_clauses, .ref q_newPrices, .ref q_newPercents, .int u.2.2, .int v_state, .int v_subject, .int v_number, .int v_digits])), (q_newPrices, .inl (cI, 5, .inl u.1)), (q_newPercents, .inl (cI, 10, .inl u.2.1))]) := by
  refine mki hl9 (own := R_XF) rfl (by decide) ?_
  intro p e s m args below meth c A C0 hnm eav hP hD
  obtain ⟨-, hx, hb, hml, hr, hown, hts, hlocks, hK, hZ, hA, hNS⟩ := id C0
  subst eav
  have hS : va_S A s.heap s.heap [] := va_S.rf
  have hl := lv_entry ([.ref q_0]) (n := 2) (Nat.le_of_ble_eq_true rfl)
  rw [lg_entry_eq]
  generalize (lg_sl ([.ref q_0]) ++ List.replicate (2 - (lg_sl ([.ref q_0])).length) Slot.unset).toArray = ls at hl ⊢
  have hl : lv_has ls 2 [(0, .ref q_0)] := hl
  unfold wp_XF_endsClause at hw
  refine lv_aload_n hx hb d_XF_endsClause_0 rfl (lv_at hl 0 rfl) ?_
  refine va_get (D := (dC, dI)) (ci := 5) (v := .int v_state) (C := R_XF) (T := F_XF) (N := 12) hx hb hts i_XF hown hK hP 0 rfl rfl 8 (by decide) (hts _ k_185) (fun _ h9 => h9) rfl d_XF_endsClause_1 ?_
  refine lv_iconst (v := (2 : Int32)) hx hb d_XF_endsClause_4 (by decide) ?_
  refine lv_icmp_eq (tgt := 16) hx hb d_XF_endsClause_5 (by decide) (fun c_1 => ?_) (fun c_1 => ?_)
  · have hw := hw.1 c_1
    exact t_XF_endsClause_16 (post := post) C0 v_newPrices v_newPercents v_newClauses hw _ _ hP hD hS _ hl
  · have hw := hw.2 c_1
    refine lv_aload_n hx hb d_XF_endsClause_8 rfl (lv_at hl 0 rfl) ?_
    refine va_get (D := (dC, dI)) (ci := 5) (v := .int v_state) (C := R_XF) (T := F_XF) (N := 12) hx hb hts i_XF hown hK hP 0 rfl rfl 8 (by decide) (hts _ k_185) (fun _ h9 => h9) rfl d_XF_endsClause_9 ?_
    refine lv_iconst (v := (4 : Int32)) hx hb d_XF_endsClause_12 (by decide) ?_
    refine lv_icmp_ne (tgt := 23) hx hb d_XF_endsClause_13 (by decide) (fun c_2 => ?_) (fun c_2 => ?_)
    · have hw := hw.2 c_2
      refine lv_iconst (v := (0 : Int32)) hx hb d_XF_endsClause_23 (by decide) ?_
      exact rt_z (u := (v_newPrices, v_newPercents, v_newClauses)) C0 (by decide) hw hP hD hS (by decide) (by decide) d_XF_endsClause_24
    · have hw := hw.1 c_2
      exact t_XF_endsClause_16 (post := post) C0 v_newPrices v_newPercents v_newClauses hw _ _ hP hD hS _ hl
theorem d_XF_takesDigit_0 : decode b_XF_takesDigit 0 = .ok (.iload_n 1, 1) := by decide +kernel
theorem d_XF_takesDigit_1 : decode b_XF_takesDigit 1 = .ok (.bipush 48, 2) := by decide +kernel
theorem d_XF_takesDigit_3 : decode b_XF_takesDigit 3 = .ok (.if_icmp .lt 17, 3) := by decide +kernel
theorem d_XF_takesDigit_6 : decode b_XF_takesDigit 6 = .ok (.iload_n 1, 1) := by decide +kernel
theorem d_XF_takesDigit_7 : decode b_XF_takesDigit 7 = .ok (.bipush 57, 2) := by decide +kernel
theorem d_XF_takesDigit_9 : decode b_XF_takesDigit 9 = .ok (.if_icmp .gt 11, 3) := by decide +kernel
theorem d_XF_takesDigit_12 : decode b_XF_takesDigit 12 = .ok (.aload_n 0, 1) := by decide +kernel
theorem d_XF_takesDigit_13 : decode b_XF_takesDigit 13 = .ok (.getfield 90, 3) := by decide +kernel
theorem d_XF_takesDigit_16 : decode b_XF_takesDigit 16 = .ok (.iconst 5, 1) := by decide +kernel
theorem d_XF_takesDigit_17 : decode b_XF_takesDigit 17 = .ok (.if_icmp .lt 5, 3) := by decide +kernel
theorem d_XF_takesDigit_20 : decode b_XF_takesDigit 20 = .ok (.iconst 0, 1) := by decide +kernel
theorem d_XF_takesDigit_21 : decode b_XF_takesDigit 21 = .ok (.ireturn, 1) := by decide +kernel
theorem d_XF_takesDigit_22 : decode b_XF_takesDigit 22 = .ok (.aload_n 0, 1) := by decide +kernel
theorem d_XF_takesDigit_23 : decode b_XF_takesDigit 23 = .ok (.aload_n 0, 1) := by decide +kernel
theorem d_XF_takesDigit_24 : decode b_XF_takesDigit 24 = .ok (.getfield 87, 3) := by decide +kernel
theorem d_XF_takesDigit_27 : decode b_XF_takesDigit 27 = .ok (.bipush 10, 2) := by decide +kernel
theorem d_XF_takesDigit_29 : decode b_XF_takesDigit 29 = .ok (.imul, 1) := by decide +kernel
theorem d_XF_takesDigit_30 : decode b_XF_takesDigit 30 = .ok (.iload_n 1, 1) := by decide +kernel
theorem d_XF_takesDigit_31 : decode b_XF_takesDigit 31 = .ok (.iadd, 1) := by decide +kernel
theorem d_XF_takesDigit_32 : decode b_XF_takesDigit 32 = .ok (.bipush 48, 2) := by decide +kernel
theorem d_XF_takesDigit_34 : decode b_XF_takesDigit 34 = .ok (.isub, 1) := by decide +kernel
theorem d_XF_takesDigit_35 : decode b_XF_takesDigit 35 = .ok (.putfield 87, 3) := by decide +kernel
theorem d_XF_takesDigit_38 : decode b_XF_takesDigit 38 = .ok (.aload_n 0, 1) := by decide +kernel
theorem d_XF_takesDigit_39 : decode b_XF_takesDigit 39 = .ok (.dup, 1) := by decide +kernel
theorem d_XF_takesDigit_40 : decode b_XF_takesDigit 40 = .ok (.getfield 90, 3) := by decide +kernel
theorem d_XF_takesDigit_43 : decode b_XF_takesDigit 43 = .ok (.iconst 1, 1) := by decide +kernel
theorem d_XF_takesDigit_44 : decode b_XF_takesDigit 44 = .ok (.iadd, 1) := by decide +kernel
theorem d_XF_takesDigit_45 : decode b_XF_takesDigit 45 = .ok (.putfield 90, 3) := by decide +kernel
theorem d_XF_takesDigit_48 : decode b_XF_takesDigit 48 = .ok (.aload_n 0, 1) := by decide +kernel
theorem d_XF_takesDigit_49 : decode b_XF_takesDigit 49 = .ok (.getfield 87, 3) := by decide +kernel
theorem d_XF_takesDigit_52 : decode b_XF_takesDigit 52 = .ok (.iload_n 2, 1) := by decide +kernel
theorem d_XF_takesDigit_53 : decode b_XF_takesDigit 53 = .ok (.if_icmp .gt 7, 3) := by decide +kernel
theorem d_XF_takesDigit_56 : decode b_XF_takesDigit 56 = .ok (.iconst 1, 1) := by decide +kernel
theorem d_XF_takesDigit_57 : decode b_XF_takesDigit 57 = .ok (.goto 4, 3) := by decide +kernel
theorem d_XF_takesDigit_60 : decode b_XF_takesDigit 60 = .ok (.iconst 0, 1) := by decide +kernel
theorem d_XF_takesDigit_61 : decode b_XF_takesDigit 61 = .ok (.ireturn, 1) := by decide +kernel
def wp_XF_takesDigit (post : Int32 → ((Int32) × (Int32)) → Prop) (a_1 : Int32) (a_2 : Int32) (v_number : Int32) (v_digits : Int32) : Prop := ((a_1 < (48 : Int32) → post (0 : Int32) (v_number, v_digits)) ∧ (¬ (a_1 < (48 : Int32)) → (((57 : Int32) < a_1 → post (0 : Int32) (v_number, v_digits)) ∧ (¬ ((57 : Int32) < a_1) → ((v_digits < (5 : Int32) → (∀ x_4 : Int32, x_4 = ((v_number * (10 : Int32)) + a_1) - (48 : Int32) → (∀ x_5 : Int32, x_5 = v_digits + (1 : Int32) → ((a_2 < x_4 → post (0 : Int32) (x_4, x_5)) ∧ (¬ (a_2 < x_4) → post (1 : Int32) (x_4, x_5)))))) ∧ (¬ (v_digits < (5 : Int32)) → post (0 : Int32) (v_number, v_digits)))))))
set_option maxHeartbeats 4000000 in
set_option maxRecDepth 100000 in
theorem c_XF_takesDigit (l : Launch) (hl9 : l.stackTraces = false) (dC : Nat → ClassId) (dI : Nat → Nat → Nat) (cI cJ cZ : ClassId) (q_0 q_text q_prices q_percents q_newPrices q_newPercents : Nat) (a_1 : Int32) (a_2 : Int32) (v_length : Int32) (v_clauses : Int32) (v_newClauses : Int32) (v_state : Int32) (v_subject : Int32) (v_number : Int32) (v_digits : Int32) (post : Int32 → ((Int32) × (Int32)) → Prop) (hw : wp_XF_takesDigit post a_1 a_2 v_number v_digits) : Ki l y_XF_takesDigit b_XF_takesDigit 3 (some .boolean) ({ frames := 0, cells := 0, slots := 0, locals := 0 } : Room) dC dI cI cJ cZ [.ref q_0, .int a_1, .int a_2] [(q_0, .inr (5, [.ref q_text, .int v_length, .ref q_prices, .ref q_percents, .int v_clauses, .ref q_newPrices, .ref q_newPercents, .int v_newClauses, .int v_state, .int v_subject, .int v_number, .int v_digits]))] post (fun u : (Int32) × (Int32) => [(q_0, .inr (5, [.ref q_text, .int v_length, .ref q_prices, .ref q_percents, .int v_clauses, .ref q_newPrices, .ref q_newPercents, .int v_newClauses, .int v_state, .int v_subject, .int u.1, .int u.2]))]) := by
  refine mki hl9 (own := R_XF) rfl (by decide) ?_
  intro p e s m args below meth c A C0 hnm eav hP hD
  obtain ⟨-, hx, hb, hml, hr, hown, hts, hlocks, hK, hZ, hA, hNS⟩ := id C0
  subst eav
  have hS : va_S A s.heap s.heap [] := va_S.rf
  have hl := lv_entry ([.ref q_0, .int a_1, .int a_2]) (n := 3) (Nat.le_of_ble_eq_true rfl)
  rw [lg_entry_eq]
  generalize (lg_sl ([.ref q_0, .int a_1, .int a_2]) ++ List.replicate (3 - (lg_sl ([.ref q_0, .int a_1, .int a_2])).length) Slot.unset).toArray = ls at hl ⊢
  have hl : lv_has ls 3 [(0, .ref q_0), (1, .int a_1), (2, .int a_2)] := hl
  unfold wp_XF_takesDigit at hw
  refine lv_iload_n hx hb d_XF_takesDigit_0 rfl (lv_at hl 1 rfl) ?_
  refine lv_bipush (v := (48 : Int32)) hx hb d_XF_takesDigit_1 (by decide) ?_
  refine lv_icmp_lt (tgt := 20) hx hb d_XF_takesDigit_3 (by decide) (fun c_1 => ?_) (fun c_1 => ?_)
  · have hw := hw.1 c_1
    refine lv_iconst (v := (0 : Int32)) hx hb d_XF_takesDigit_20 (by decide) ?_
    exact rt_z (u := (v_number, v_digits)) C0 (by decide) hw hP hD hS (by decide) (by decide) d_XF_takesDigit_21
  · have hw := hw.2 c_1
    refine lv_iload_n hx hb d_XF_takesDigit_6 rfl (lv_at hl 1 rfl) ?_
    refine lv_bipush (v := (57 : Int32)) hx hb d_XF_takesDigit_7 (by decide) ?_
    refine lv_icmp_gt (tgt := 20) hx hb d_XF_takesDigit_9 (by decide) (fun c_2 => ?_) (fun c_2 => ?_)
    · have hw := hw.1 c_2
      refine lv_iconst (v := (0 : Int32)) hx hb d_XF_takesDigit_20 (by decide) ?_
      exact rt_z (u := (v_number, v_digits)) C0 (by decide) hw hP hD hS (by decide) (by decide) d_XF_takesDigit_21
    · have hw := hw.2 c_2
      refine lv_aload_n hx hb d_XF_takesDigit_12 rfl (lv_at hl 0 rfl) ?_
      refine va_get (D := (dC, dI)) (ci := 5) (v := .int v_digits) (C := R_XF) (T := F_XF) (N := 12) hx hb hts i_XF hown hK hP 0 rfl rfl 11 (by decide) (hts _ k_186) (fun _ h9 => h9) rfl d_XF_takesDigit_13 ?_
      refine lv_iconst (v := (5 : Int32)) hx hb d_XF_takesDigit_16 (by decide) ?_
      refine lv_icmp_lt (tgt := 22) hx hb d_XF_takesDigit_17 (by decide) (fun c_3 => ?_) (fun c_3 => ?_)
      · have hw := hw.1 c_3
        refine lv_aload_n hx hb d_XF_takesDigit_22 rfl (lv_at hl 0 rfl) ?_
        refine lv_aload_n hx hb d_XF_takesDigit_23 rfl (lv_at hl 0 rfl) ?_
        refine va_get (D := (dC, dI)) (ci := 5) (v := .int v_number) (C := R_XF) (T := F_XF) (N := 12) hx hb hts i_XF hown hK hP 0 rfl rfl 10 (by decide) (hts _ k_188) (fun _ h9 => h9) rfl d_XF_takesDigit_24 ?_
        refine lv_bipush (v := (10 : Int32)) hx hb d_XF_takesDigit_27 (by decide) ?_
        refine lv_imul hx hb d_XF_takesDigit_29 ?_
        refine lv_iload_n hx hb d_XF_takesDigit_30 rfl (lv_at hl 1 rfl) ?_
        refine lv_iadd hx hb d_XF_takesDigit_31 ?_
        refine lv_bipush (v := (48 : Int32)) hx hb d_XF_takesDigit_32 (by decide) ?_
        refine lv_isub hx hb d_XF_takesDigit_34 ?_
        refine lv_topi (fun x_4 ex_4 => ?_)
        have hw := hw x_4 ex_4
        refine va_put (D := (dC, dI)) (ci := 5) (v := .int x_4) (ty := .int) (C := R_XF) (T := F_XF) (N := 12) hx hb hts i_XF t_XF t_XF_ok n_XF hown hK hP hD hS 0 rfl rfl 10 (by decide) (hts _ k_188) (fun _ h9 => h9) rfl (by decide +kernel) rfl rfl (Nat.le_of_ble_eq_true rfl) d_XF_takesDigit_35 (fun H locs hP hD hS => ?_)
        have hP : va_P (dC, dI) classes [(q_0, .inr (5, [.ref q_text, .int v_length, .ref q_prices, .ref q_percents, .int v_clauses, .ref q_newPrices, .ref q_newPercents, .int v_newClauses, .int v_state, .int v_subject, .int x_4, .int v_digits]))] H := hP
        have hD : va_D A [(q_0, .inr (5, [.ref q_text, .int v_length, .ref q_prices, .ref q_percents, .int v_clauses, .ref q_newPrices, .ref q_newPercents, .int v_newClauses, .int v_state, .int v_subject, .int x_4, .int v_digits]))] := hD
        refine lv_aload_n hx hb d_XF_takesDigit_38 rfl (lv_at hl 0 rfl) ?_
        refine lv_dup hx hb d_XF_takesDigit_39 rfl ?_
        refine va_get (D := (dC, dI)) (ci := 5) (v := .int v_digits) (C := R_XF) (T := F_XF) (N := 12) hx hb hts i_XF hown hK hP 0 rfl rfl 11 (by decide) (hts _ k_186) (fun _ h9 => h9) rfl d_XF_takesDigit_40 ?_
        refine lv_iconst (v := (1 : Int32)) hx hb d_XF_takesDigit_43 (by decide) ?_
        refine lv_iadd hx hb d_XF_takesDigit_44 ?_
        refine lv_topi (fun x_5 ex_5 => ?_)
        have hw := hw x_5 ex_5
        refine va_put (D := (dC, dI)) (ci := 5) (v := .int x_5) (ty := .int) (C := R_XF) (T := F_XF) (N := 12) hx hb hts i_XF t_XF t_XF_ok n_XF hown hK hP hD hS 0 rfl rfl 11 (by decide) (hts _ k_186) (fun _ h9 => h9) rfl (by decide +kernel) rfl rfl (Nat.le_of_ble_eq_true rfl) d_XF_takesDigit_45 (fun H locs hP hD hS => ?_)
        have hP : va_P (dC, dI) classes [(q_0, .inr (5, [.ref q_text, .int v_length, .ref q_prices, .ref q_percents, .int v_clauses, .ref q_newPrices, .ref q_newPercents, .int v_newClauses, .int v_state, .int v_subject, .int x_4, .int x_5]))] H := hP
        have hD : va_D A [(q_0, .inr (5, [.ref q_text, .int v_length, .ref q_prices, .ref q_percents, .int v_clauses, .ref q_newPrices, .ref q_newPercents, .int v_newClauses, .int v_state, .int v_subject, .int x_4, .int x_5]))] := hD
        refine lv_aload_n hx hb d_XF_takesDigit_48 rfl (lv_at hl 0 rfl) ?_
        refine va_get (D := (dC, dI)) (ci := 5) (v := .int x_4) (C := R_XF) (T := F_XF) (N := 12) hx hb hts i_XF hown hK hP 0 rfl rfl 10 (by decide) (hts _ k_188) (fun _ h9 => h9) rfl d_XF_takesDigit_49 ?_
        refine lv_iload_n hx hb d_XF_takesDigit_52 rfl (lv_at hl 2 rfl) ?_
        refine lv_icmp_gt (tgt := 60) hx hb d_XF_takesDigit_53 (by decide) (fun c_6 => ?_) (fun c_6 => ?_)
        · have hw := hw.1 c_6
          refine lv_iconst (v := (0 : Int32)) hx hb d_XF_takesDigit_60 (by decide) ?_
          exact rt_z (u := (x_4, x_5)) C0 (by decide) hw hP hD hS (by decide) (by decide) d_XF_takesDigit_61
        · have hw := hw.2 c_6
          refine lv_iconst (v := (1 : Int32)) hx hb d_XF_takesDigit_56 (by decide) ?_
          refine lv_goto (tgt := 61) hx hb d_XF_takesDigit_57 (by decide) ?_
          exact rt_z (u := (x_4, x_5)) C0 (by decide) hw hP hD hS (by decide) (by decide) d_XF_takesDigit_61
      · have hw := hw.2 c_3
        refine lv_iconst (v := (0 : Int32)) hx hb d_XF_takesDigit_20 (by decide) ?_
        exact rt_z (u := (v_number, v_digits)) C0 (by decide) hw hP hD hS (by decide) (by decide) d_XF_takesDigit_21
theorem d_XF_beginsNext_0 : decode b_XF_beginsNext 0 = .ok (.aload_n 0, 1) := by decide +kernel
theorem d_XF_beginsNext_1 : decode b_XF_beginsNext 1 = .ok (.invokevirtual 60, 3) := by decide +kernel
theorem d_XF_beginsNext_4 : decode b_XF_beginsNext 4 = .ok (.ifCond .eq 12, 3) := by decide +kernel
theorem d_XF_beginsNext_7 : decode b_XF_beginsNext 7 = .ok (.aload_n 0, 1) := by decide +kernel
theorem d_XF_beginsNext_8 : decode b_XF_beginsNext 8 = .ok (.getfield 41, 3) := by decide +kernel
theorem d_XF_beginsNext_11 : decode b_XF_beginsNext 11 = .ok (.bipush 8, 2) := by decide +kernel
theorem d_XF_beginsNext_13 : decode b_XF_beginsNext 13 = .ok (.if_icmp .lt 5, 3) := by decide +kernel
theorem d_XF_beginsNext_16 : decode b_XF_beginsNext 16 = .ok (.iconst 0, 1) := by decide +kernel
theorem d_XF_beginsNext_17 : decode b_XF_beginsNext 17 = .ok (.ireturn, 1) := by decide +kernel
theorem d_XF_beginsNext_18 : decode b_XF_beginsNext 18 = .ok (.aload_n 0, 1) := by decide +kernel
theorem d_XF_beginsNext_19 : decode b_XF_beginsNext 19 = .ok (.iconst 0, 1) := by decide +kernel
theorem d_XF_beginsNext_20 : decode b_XF_beginsNext 20 = .ok (.putfield 53, 3) := by decide +kernel
theorem d_XF_beginsNext_23 : decode b_XF_beginsNext 23 = .ok (.iconst 1, 1) := by decide +kernel
theorem d_XF_beginsNext_24 : decode b_XF_beginsNext 24 = .ok (.ireturn, 1) := by decide +kernel
def wp_XF_beginsNext (post : Int32 → ((Nat → Int32) × (Nat → Int32) × (Int32) × (Int32)) → Prop) (v_newPrices : Nat → Int32) (v_newPercents : Nat → Int32) (v_newClauses : Int32) (v_state : Int32) (v_subject : Int32) (v_number : Int32) (v_digits : Int32) : Prop := wp_XF_endsClause (fun r_1 u => match u with | (f_2, f_3, x_4) => ((r_1 = 0 → post (0 : Int32) (f_2, f_3, x_4, v_state)) ∧ (¬ (r_1 = 0) → ((x_4 < (8 : Int32) → post (1 : Int32) (f_2, f_3, x_4, (0 : Int32))) ∧ (¬ (x_4 < (8 : Int32)) → post (0 : Int32) (f_2, f_3, x_4, v_state)))))) v_newPrices v_newPercents v_newClauses v_state v_subject v_number v_digits
set_option maxHeartbeats 4000000 in
set_option maxRecDepth 100000 in
theorem c_XF_beginsNext (l : Launch) (hl9 : l.stackTraces = false) (dC : Nat → ClassId) (dI : Nat → Nat → Nat) (cI cJ cZ : ClassId) (q_0 q_newPrices q_newPercents q_text q_prices q_percents : Nat) (v_length : Int32) (v_clauses : Int32) (v_newPrices : Nat → Int32) (v_newPercents : Nat → Int32) (v_newClauses : Int32) (v_state : Int32) (v_subject : Int32) (v_number : Int32) (v_digits : Int32) (post : Int32 → ((Nat → Int32) × (Nat → Int32) × (Int32) × (Int32)) → Prop) (hw : wp_XF_beginsNext post v_newPrices v_newPercents v_newClauses v_state v_subject v_number v_digits) : Ki l y_XF_beginsNext b_XF_beginsNext 1 (some .boolean) ({ frames := 2, cells := 0, slots := 0, locals := 42 } : Room) dC dI cI cJ cZ [.ref q_0] [(q_0, .inr (5, [.ref q_text, .int v_length, .ref q_prices, .ref q_percents, .int v_clauses, .ref q_newPrices, .ref q_newPercents, .int v_newClauses, .int v_state, .int v_subject, .int v_number, .int v_digits])), (q_newPrices, .inl (cI, 5, .inl v_newPrices)), (q_newPercents, .inl (cI, 10, .inl v_newPercents))] post (fun u : (Nat → Int32) × (Nat → Int32) × (Int32) × (Int32) => [(q_0, .inr (5, [.ref q_text, .int v_length, .ref q_prices, .ref q_percents, .int v_clauses, .ref q_newPrices, .ref q_newPercents, .int u.2.2.1, .int u.2.2.2, .int v_subject, .int v_number, .int v_digits])), (q_newPrices, .inl (cI, 5, .inl u.1)), (q_newPercents, .inl (cI, 10, .inl u.2.1))]) := by
  refine mki hl9 (own := R_XF) rfl (by decide) ?_
  intro p e s m args below meth c A C0 hnm eav hP hD
  obtain ⟨-, hx, hb, hml, hr, hown, hts, hlocks, hK, hZ, hA, hNS⟩ := id C0
  subst eav
  have hS : va_S A s.heap s.heap [] := va_S.rf
  have hl := lv_entry ([.ref q_0]) (n := 1) (Nat.le_of_ble_eq_true rfl)
  rw [lg_entry_eq]
  generalize (lg_sl ([.ref q_0]) ++ List.replicate (1 - (lg_sl ([.ref q_0])).length) Slot.unset).toArray = ls at hl ⊢
  have hl : lv_has ls 1 [(0, .ref q_0)] := hl
  unfold wp_XF_beginsNext at hw
  refine lv_aload_n hx hb d_XF_beginsNext_0 rfl (lv_at hl 0 rfl) ?_
  refine jn_i C0 hP hD hS [0, 1, 2] [] (ru_V C0 (As := []) (rest := []) (c_XF_endsClause l hl9 dC dI cI cJ cZ q_0 q_newPrices q_newPercents q_text q_prices q_percents v_length v_clauses v_newPrices v_newPercents v_newClauses v_state v_subject v_number v_digits _ hw _) k_193 k_194 k_195 k_196 k_50 (n9 := 0) (by decide +kernel) rfl (ci := 5) rfl rfl ⟨Nat.le_of_ble_eq_true rfl, Nat.le_of_ble_eq_true rfl⟩ hP hD hS [0, 1, 2] rfl (by decide) hl.1 rfl (Nat.le_of_ble_eq_true rfl) d_XF_beginsNext_1 ⟨Nat.le_of_ble_eq_true rfl, Nat.le_of_ble_eq_true rfl⟩) rfl rfl (by decide) (by decide) (fun r_1 u H locs hw hP hD hS => ?_)
  obtain ⟨f_2, f_3, x_4⟩ := u
  try dsimp only at hw
  have hP : va_P (dC, dI) classes [(q_0, .inr (5, [.ref q_text, .int v_length, .ref q_prices, .ref q_percents, .int v_clauses, .ref q_newPrices, .ref q_newPercents, .int x_4, .int v_state, .int v_subject, .int v_number, .int v_digits])), (q_newPrices, .inl (cI, 5, .inl f_2)), (q_newPercents, .inl (cI, 10, .inl f_3))] H := hP
  have hD : va_D A [(q_0, .inr (5, [.ref q_text, .int v_length, .ref q_prices, .ref q_percents, .int v_clauses, .ref q_newPrices, .ref q_newPercents, .int x_4, .int v_state, .int v_subject, .int v_number, .int v_digits])), (q_newPrices, .inl (cI, 5, .inl f_2)), (q_newPercents, .inl (cI, 10, .inl f_3))] := hD
  refine lv_if_eq (tgt := 16) hx hb d_XF_beginsNext_4 (by decide) (fun c_5 => ?_) (fun c_5 => ?_)
  · have hw := hw.1 c_5
    refine lv_iconst (v := (0 : Int32)) hx hb d_XF_beginsNext_16 (by decide) ?_
    exact rt_z (u := (f_2, f_3, x_4, v_state)) C0 (by decide) hw hP hD hS (by decide) (by decide) d_XF_beginsNext_17
  · have hw := hw.2 c_5
    refine lv_aload_n hx hb d_XF_beginsNext_7 rfl (lv_at hl 0 rfl) ?_
    refine va_get (D := (dC, dI)) (ci := 5) (v := .int x_4) (C := R_XF) (T := F_XF) (N := 12) hx hb hts i_XF hown hK hP 0 rfl rfl 7 (by decide) (hts _ k_184) (fun _ h9 => h9) rfl d_XF_beginsNext_8 ?_
    refine lv_bipush (v := (8 : Int32)) hx hb d_XF_beginsNext_11 (by decide) ?_
    refine lv_icmp_lt (tgt := 18) hx hb d_XF_beginsNext_13 (by decide) (fun c_6 => ?_) (fun c_6 => ?_)
    · have hw := hw.1 c_6
      refine lv_aload_n hx hb d_XF_beginsNext_18 rfl (lv_at hl 0 rfl) ?_
      refine lv_iconst (v := (0 : Int32)) hx hb d_XF_beginsNext_19 (by decide) ?_
      refine va_put (D := (dC, dI)) (ci := 5) (v := .int (0 : Int32)) (ty := .int) (C := R_XF) (T := F_XF) (N := 12) hx hb hts i_XF t_XF t_XF_ok n_XF hown hK hP hD hS 0 rfl rfl 8 (by decide) (hts _ k_185) (fun _ h9 => h9) rfl (by decide +kernel) rfl rfl (Nat.le_of_ble_eq_true rfl) d_XF_beginsNext_20 (fun H locs hP hD hS => ?_)
      have hP : va_P (dC, dI) classes [(q_0, .inr (5, [.ref q_text, .int v_length, .ref q_prices, .ref q_percents, .int v_clauses, .ref q_newPrices, .ref q_newPercents, .int x_4, .int (0 : Int32), .int v_subject, .int v_number, .int v_digits])), (q_newPrices, .inl (cI, 5, .inl f_2)), (q_newPercents, .inl (cI, 10, .inl f_3))] H := hP
      have hD : va_D A [(q_0, .inr (5, [.ref q_text, .int v_length, .ref q_prices, .ref q_percents, .int v_clauses, .ref q_newPrices, .ref q_newPercents, .int x_4, .int (0 : Int32), .int v_subject, .int v_number, .int v_digits])), (q_newPrices, .inl (cI, 5, .inl f_2)), (q_newPercents, .inl (cI, 10, .inl f_3))] := hD
      refine lv_iconst (v := (1 : Int32)) hx hb d_XF_beginsNext_23 (by decide) ?_
      exact rt_z (u := (f_2, f_3, x_4, (0 : Int32))) C0 (by decide) hw hP hD hS (by decide) (by decide) d_XF_beginsNext_24
    · have hw := hw.2 c_6
      refine lv_iconst (v := (0 : Int32)) hx hb d_XF_beginsNext_16 (by decide) ?_
      exact rt_z (u := (f_2, f_3, x_4, v_state)) C0 (by decide) hw hP hD hS (by decide) (by decide) d_XF_beginsNext_17
theorem d_XF_beginsNumber_0 : decode b_XF_beginsNumber 0 = .ok (.aload_n 0, 1) := by decide +kernel
theorem d_XF_beginsNumber_1 : decode b_XF_beginsNumber 1 = .ok (.iload_n 1, 1) := by decide +kernel
theorem d_XF_beginsNumber_2 : decode b_XF_beginsNumber 2 = .ok (.putfield 53, 3) := by decide +kernel
theorem d_XF_beginsNumber_5 : decode b_XF_beginsNumber 5 = .ok (.aload_n 0, 1) := by decide +kernel
theorem d_XF_beginsNumber_6 : decode b_XF_beginsNumber 6 = .ok (.iconst 0, 1) := by decide +kernel
theorem d_XF_beginsNumber_7 : decode b_XF_beginsNumber 7 = .ok (.putfield 87, 3) := by decide +kernel
theorem d_XF_beginsNumber_10 : decode b_XF_beginsNumber 10 = .ok (.aload_n 0, 1) := by decide +kernel
theorem d_XF_beginsNumber_11 : decode b_XF_beginsNumber 11 = .ok (.iconst 0, 1) := by decide +kernel
theorem d_XF_beginsNumber_12 : decode b_XF_beginsNumber 12 = .ok (.putfield 90, 3) := by decide +kernel
theorem d_XF_beginsNumber_15 : decode b_XF_beginsNumber 15 = .ok (.iconst 1, 1) := by decide +kernel
theorem d_XF_beginsNumber_16 : decode b_XF_beginsNumber 16 = .ok (.ireturn, 1) := by decide +kernel
def wp_XF_beginsNumber (post : Int32 → ((Int32) × (Int32) × (Int32)) → Prop) (a_1 : Int32) (v_state : Int32) (v_number : Int32) (v_digits : Int32) : Prop := post (1 : Int32) (a_1, (0 : Int32), (0 : Int32))
set_option maxHeartbeats 4000000 in
set_option maxRecDepth 100000 in
theorem c_XF_beginsNumber (l : Launch) (hl9 : l.stackTraces = false) (dC : Nat → ClassId) (dI : Nat → Nat → Nat) (cI cJ cZ : ClassId) (q_0 q_text q_prices q_percents q_newPrices q_newPercents : Nat) (a_1 : Int32) (v_length : Int32) (v_clauses : Int32) (v_newClauses : Int32) (v_state : Int32) (v_subject : Int32) (v_number : Int32) (v_digits : Int32) (post : Int32 → ((Int32) × (Int32) × (Int32)) → Prop) (hw : wp_XF_beginsNumber post a_1 v_state v_number v_digits) : Ki l y_XF_beginsNumber b_XF_beginsNumber 2 (some .boolean) ({ frames := 0, cells := 0, slots := 0, locals := 0 } : Room) dC dI cI cJ cZ [.ref q_0, .int a_1] [(q_0, .inr (5, [.ref q_text, .int v_length, .ref q_prices, .ref q_percents, .int v_clauses, .ref q_newPrices, .ref q_newPercents, .int v_newClauses, .int v_state, .int v_subject, .int v_number, .int v_digits]))] post (fun u : (Int32) × (Int32) × (Int32) => [(q_0, .inr (5, [.ref q_text, .int v_length, .ref q_prices, .ref q_percents, .int v_clauses, .ref q_newPrices, .ref q_newPercents, .int v_newClauses, .int u.1, .int v_subject, .int u.2.1, .int u.2.2]))]) := by
  refine mki hl9 (own := R_XF) rfl (by decide) ?_
  intro p e s m args below meth c A C0 hnm eav hP hD
  obtain ⟨-, hx, hb, hml, hr, hown, hts, hlocks, hK, hZ, hA, hNS⟩ := id C0
  subst eav
  have hS : va_S A s.heap s.heap [] := va_S.rf
  have hl := lv_entry ([.ref q_0, .int a_1]) (n := 2) (Nat.le_of_ble_eq_true rfl)
  rw [lg_entry_eq]
  generalize (lg_sl ([.ref q_0, .int a_1]) ++ List.replicate (2 - (lg_sl ([.ref q_0, .int a_1])).length) Slot.unset).toArray = ls at hl ⊢
  have hl : lv_has ls 2 [(0, .ref q_0), (1, .int a_1)] := hl
  unfold wp_XF_beginsNumber at hw
  refine lv_aload_n hx hb d_XF_beginsNumber_0 rfl (lv_at hl 0 rfl) ?_
  refine lv_iload_n hx hb d_XF_beginsNumber_1 rfl (lv_at hl 1 rfl) ?_
  refine va_put (D := (dC, dI)) (ci := 5) (v := .int a_1) (ty := .int) (C := R_XF) (T := F_XF) (N := 12) hx hb hts i_XF t_XF t_XF_ok n_XF hown hK hP hD hS 0 rfl rfl 8 (by decide) (hts _ k_185) (fun _ h9 => h9) rfl (by decide +kernel) rfl rfl (Nat.le_of_ble_eq_true rfl) d_XF_beginsNumber_2 (fun H locs hP hD hS => ?_)
  have hP : va_P (dC, dI) classes [(q_0, .inr (5, [.ref q_text, .int v_length, .ref q_prices, .ref q_percents, .int v_clauses, .ref q_newPrices, .ref q_newPercents, .int v_newClauses, .int a_1, .int v_subject, .int v_number, .int v_digits]))] H := hP
  have hD : va_D A [(q_0, .inr (5, [.ref q_text, .int v_length, .ref q_prices, .ref q_percents, .int v_clauses, .ref q_newPrices, .ref q_newPercents, .int v_newClauses, .int a_1, .int v_subject, .int v_number, .int v_digits]))] := hD
  refine lv_aload_n hx hb d_XF_beginsNumber_5 rfl (lv_at hl 0 rfl) ?_
  refine lv_iconst (v := (0 : Int32)) hx hb d_XF_beginsNumber_6 (by decide) ?_
  refine va_put (D := (dC, dI)) (ci := 5) (v := .int (0 : Int32)) (ty := .int) (C := R_XF) (T := F_XF) (N := 12) hx hb hts i_XF t_XF t_XF_ok n_XF hown hK hP hD hS 0 rfl rfl 10 (by decide) (hts _ k_188) (fun _ h9 => h9) rfl (by decide +kernel) rfl rfl (Nat.le_of_ble_eq_true rfl) d_XF_beginsNumber_7 (fun H locs hP hD hS => ?_)
  have hP : va_P (dC, dI) classes [(q_0, .inr (5, [.ref q_text, .int v_length, .ref q_prices, .ref q_percents, .int v_clauses, .ref q_newPrices, .ref q_newPercents, .int v_newClauses, .int a_1, .int v_subject, .int (0 : Int32), .int v_digits]))] H := hP
  have hD : va_D A [(q_0, .inr (5, [.ref q_text, .int v_length, .ref q_prices, .ref q_percents, .int v_clauses, .ref q_newPrices, .ref q_newPercents, .int v_newClauses, .int a_1, .int v_subject, .int (0 : Int32), .int v_digits]))] := hD
  refine lv_aload_n hx hb d_XF_beginsNumber_10 rfl (lv_at hl 0 rfl) ?_
  refine lv_iconst (v := (0 : Int32)) hx hb d_XF_beginsNumber_11 (by decide) ?_
  refine va_put (D := (dC, dI)) (ci := 5) (v := .int (0 : Int32)) (ty := .int) (C := R_XF) (T := F_XF) (N := 12) hx hb hts i_XF t_XF t_XF_ok n_XF hown hK hP hD hS 0 rfl rfl 11 (by decide) (hts _ k_186) (fun _ h9 => h9) rfl (by decide +kernel) rfl rfl (Nat.le_of_ble_eq_true rfl) d_XF_beginsNumber_12 (fun H locs hP hD hS => ?_)
  have hP : va_P (dC, dI) classes [(q_0, .inr (5, [.ref q_text, .int v_length, .ref q_prices, .ref q_percents, .int v_clauses, .ref q_newPrices, .ref q_newPercents, .int v_newClauses, .int a_1, .int v_subject, .int (0 : Int32), .int (0 : Int32)]))] H := hP
  have hD : va_D A [(q_0, .inr (5, [.ref q_text, .int v_length, .ref q_prices, .ref q_percents, .int v_clauses, .ref q_newPrices, .ref q_newPercents, .int v_newClauses, .int a_1, .int v_subject, .int (0 : Int32), .int (0 : Int32)]))] := hD
  refine lv_iconst (v := (1 : Int32)) hx hb d_XF_beginsNumber_15 (by decide) ?_
  exact rt_z (u := (a_1, (0 : Int32), (0 : Int32))) C0 (by decide) hw hP hD hS (by decide) (by decide) d_XF_beginsNumber_16
theorem d_XF_beginsClause_0 : decode b_XF_beginsClause 0 = .ok (.iload_n 1, 1) := by decide +kernel
theorem d_XF_beginsClause_1 : decode b_XF_beginsClause 1 = .ok (.bipush 103, 2) := by decide +kernel
theorem d_XF_beginsClause_3 : decode b_XF_beginsClause 3 = .ok (.if_icmp .ne 9, 3) := by decide +kernel
theorem d_XF_beginsClause_6 : decode b_XF_beginsClause 6 = .ok (.aload_n 0, 1) := by decide +kernel
theorem d_XF_beginsClause_7 : decode b_XF_beginsClause 7 = .ok (.iconst 3, 1) := by decide +kernel
theorem d_XF_beginsClause_8 : decode b_XF_beginsClause 8 = .ok (.invokevirtual 67, 3) := by decide +kernel
theorem d_XF_beginsClause_11 : decode b_XF_beginsClause 11 = .ok (.ireturn, 1) := by decide +kernel
theorem d_XF_beginsClause_12 : decode b_XF_beginsClause 12 = .ok (.iload_n 1, 1) := by decide +kernel
theorem d_XF_beginsClause_13 : decode b_XF_beginsClause 13 = .ok (.bipush 48, 2) := by decide +kernel
theorem d_XF_beginsClause_15 : decode b_XF_beginsClause 15 = .ok (.if_icmp .lt 9, 3) := by decide +kernel
theorem d_XF_beginsClause_18 : decode b_XF_beginsClause 18 = .ok (.iload_n 1, 1) := by decide +kernel
theorem d_XF_beginsClause_19 : decode b_XF_beginsClause 19 = .ok (.bipush 53, 2) := by decide +kernel
theorem d_XF_beginsClause_21 : decode b_XF_beginsClause 21 = .ok (.if_icmp .lt 5, 3) := by decide +kernel
theorem d_XF_beginsClause_24 : decode b_XF_beginsClause 24 = .ok (.iconst 0, 1) := by decide +kernel
theorem d_XF_beginsClause_25 : decode b_XF_beginsClause 25 = .ok (.ireturn, 1) := by decide +kernel
theorem d_XF_beginsClause_26 : decode b_XF_beginsClause 26 = .ok (.aload_n 0, 1) := by decide +kernel
theorem d_XF_beginsClause_27 : decode b_XF_beginsClause 27 = .ok (.iload_n 1, 1) := by decide +kernel
theorem d_XF_beginsClause_28 : decode b_XF_beginsClause 28 = .ok (.bipush 48, 2) := by decide +kernel
theorem d_XF_beginsClause_30 : decode b_XF_beginsClause 30 = .ok (.isub, 1) := by decide +kernel
theorem d_XF_beginsClause_31 : decode b_XF_beginsClause 31 = .ok (.putfield 84, 3) := by decide +kernel
theorem d_XF_beginsClause_34 : decode b_XF_beginsClause 34 = .ok (.aload_n 0, 1) := by decide +kernel
theorem d_XF_beginsClause_35 : decode b_XF_beginsClause 35 = .ok (.iconst 1, 1) := by decide +kernel
theorem d_XF_beginsClause_36 : decode b_XF_beginsClause 36 = .ok (.putfield 53, 3) := by decide +kernel
theorem d_XF_beginsClause_39 : decode b_XF_beginsClause 39 = .ok (.iconst 1, 1) := by decide +kernel
theorem d_XF_beginsClause_40 : decode b_XF_beginsClause 40 = .ok (.ireturn, 1) := by decide +kernel
def wp_XF_beginsClause (post : Int32 → ((Int32) × (Int32) × (Int32) × (Int32)) → Prop) (a_1 : Int32) (v_state : Int32) (v_subject : Int32) (v_number : Int32) (v_digits : Int32) : Prop := ((a_1 = (103 : Int32) → wp_XF_beginsNumber (fun r_5 u => match u with | (x_6, x_7, x_8) => ((r_5 = 0 ∨ r_5 = 1) ∧ post r_5 (x_6, v_subject, x_7, x_8))) (3 : Int32) v_state v_number v_digits) ∧ (¬ (a_1 = (103 : Int32)) → ((a_1 < (48 : Int32) → post (0 : Int32) (v_state, v_subject, v_number, v_digits)) ∧ (¬ (a_1 < (48 : Int32)) → ((a_1 < (53 : Int32) → (∀ x_4 : Int32, x_4 = a_1 - (48 : Int32) → post (1 : Int32) ((1 : Int32), x_4, v_number, v_digits))) ∧ (¬ (a_1 < (53 : Int32)) → post (0 : Int32) (v_state, v_subject, v_number, v_digits)))))))
set_option maxHeartbeats 4000000 in
set_option maxRecDepth 100000 in
theorem c_XF_beginsClause (l : Launch) (hl9 : l.stackTraces = false) (dC : Nat → ClassId) (dI : Nat → Nat → Nat) (cI cJ cZ : ClassId) (q_0 q_text q_prices q_percents q_newPrices q_newPercents : Nat) (a_1 : Int32) (v_length : Int32) (v_clauses : Int32) (v_newClauses : Int32) (v_state : Int32) (v_subject : Int32) (v_number : Int32) (v_digits : Int32) (post : Int32 → ((Int32) × (Int32) × (Int32) × (Int32)) → Prop) (hw : wp_XF_beginsClause post a_1 v_state v_subject v_number v_digits) : Ki l y_XF_beginsClause b_XF_beginsClause 2 (some .boolean) ({ frames := 1, cells := 0, slots := 0, locals := 21 } : Room) dC dI cI cJ cZ [.ref q_0, .int a_1] [(q_0, .inr (5, [.ref q_text, .int v_length, .ref q_prices, .ref q_percents, .int v_clauses, .ref q_newPrices, .ref q_newPercents, .int v_newClauses, .int v_state, .int v_subject, .int v_number, .int v_digits]))] post (fun u : (Int32) × (Int32) × (Int32) × (Int32) => [(q_0, .inr (5, [.ref q_text, .int v_length, .ref q_prices, .ref q_percents, .int v_clauses, .ref q_newPrices, .ref q_newPercents, .int v_newClauses, .int u.1, .int u.2.1, .int u.2.2.1, .int u.2.2.2]))]) := by
  refine mki hl9 (own := R_XF) rfl (by decide) ?_
  intro p e s m args below meth c A C0 hnm eav hP hD
  obtain ⟨-, hx, hb, hml, hr, hown, hts, hlocks, hK, hZ, hA, hNS⟩ := id C0
  subst eav
  have hS : va_S A s.heap s.heap [] := va_S.rf
  have hl := lv_entry ([.ref q_0, .int a_1]) (n := 2) (Nat.le_of_ble_eq_true rfl)
  rw [lg_entry_eq]
  generalize (lg_sl ([.ref q_0, .int a_1]) ++ List.replicate (2 - (lg_sl ([.ref q_0, .int a_1])).length) Slot.unset).toArray = ls at hl ⊢
  have hl : lv_has ls 2 [(0, .ref q_0), (1, .int a_1)] := hl
  unfold wp_XF_beginsClause at hw
  refine lv_iload_n hx hb d_XF_beginsClause_0 rfl (lv_at hl 1 rfl) ?_
  refine lv_bipush (v := (103 : Int32)) hx hb d_XF_beginsClause_1 (by decide) ?_
  refine lv_icmp_ne (tgt := 12) hx hb d_XF_beginsClause_3 (by decide) (fun c_1 => ?_) (fun c_1 => ?_)
  · have hw := hw.2 c_1
    refine lv_iload_n hx hb d_XF_beginsClause_12 rfl (lv_at hl 1 rfl) ?_
    refine lv_bipush (v := (48 : Int32)) hx hb d_XF_beginsClause_13 (by decide) ?_
    refine lv_icmp_lt (tgt := 24) hx hb d_XF_beginsClause_15 (by decide) (fun c_2 => ?_) (fun c_2 => ?_)
    · have hw := hw.1 c_2
      refine lv_iconst (v := (0 : Int32)) hx hb d_XF_beginsClause_24 (by decide) ?_
      exact rt_z (u := (v_state, v_subject, v_number, v_digits)) C0 (by decide) hw hP hD hS (by decide) (by decide) d_XF_beginsClause_25
    · have hw := hw.2 c_2
      refine lv_iload_n hx hb d_XF_beginsClause_18 rfl (lv_at hl 1 rfl) ?_
      refine lv_bipush (v := (53 : Int32)) hx hb d_XF_beginsClause_19 (by decide) ?_
      refine lv_icmp_lt (tgt := 26) hx hb d_XF_beginsClause_21 (by decide) (fun c_3 => ?_) (fun c_3 => ?_)
      · have hw := hw.1 c_3
        refine lv_aload_n hx hb d_XF_beginsClause_26 rfl (lv_at hl 0 rfl) ?_
        refine lv_iload_n hx hb d_XF_beginsClause_27 rfl (lv_at hl 1 rfl) ?_
        refine lv_bipush (v := (48 : Int32)) hx hb d_XF_beginsClause_28 (by decide) ?_
        refine lv_isub hx hb d_XF_beginsClause_30 ?_
        refine lv_topi (fun x_4 ex_4 => ?_)
        have hw := hw x_4 ex_4
        refine va_put (D := (dC, dI)) (ci := 5) (v := .int x_4) (ty := .int) (C := R_XF) (T := F_XF) (N := 12) hx hb hts i_XF t_XF t_XF_ok n_XF hown hK hP hD hS 0 rfl rfl 9 (by decide) (hts _ k_187) (fun _ h9 => h9) rfl (by decide +kernel) rfl rfl (Nat.le_of_ble_eq_true rfl) d_XF_beginsClause_31 (fun H locs hP hD hS => ?_)
        have hP : va_P (dC, dI) classes [(q_0, .inr (5, [.ref q_text, .int v_length, .ref q_prices, .ref q_percents, .int v_clauses, .ref q_newPrices, .ref q_newPercents, .int v_newClauses, .int v_state, .int x_4, .int v_number, .int v_digits]))] H := hP
        have hD : va_D A [(q_0, .inr (5, [.ref q_text, .int v_length, .ref q_prices, .ref q_percents, .int v_clauses, .ref q_newPrices, .ref q_newPercents, .int v_newClauses, .int v_state, .int x_4, .int v_number, .int v_digits]))] := hD
        refine lv_aload_n hx hb d_XF_beginsClause_34 rfl (lv_at hl 0 rfl) ?_
        refine lv_iconst (v := (1 : Int32)) hx hb d_XF_beginsClause_35 (by decide) ?_
        refine va_put (D := (dC, dI)) (ci := 5) (v := .int (1 : Int32)) (ty := .int) (C := R_XF) (T := F_XF) (N := 12) hx hb hts i_XF t_XF t_XF_ok n_XF hown hK hP hD hS 0 rfl rfl 8 (by decide) (hts _ k_185) (fun _ h9 => h9) rfl (by decide +kernel) rfl rfl (Nat.le_of_ble_eq_true rfl) d_XF_beginsClause_36 (fun H locs hP hD hS => ?_)
        have hP : va_P (dC, dI) classes [(q_0, .inr (5, [.ref q_text, .int v_length, .ref q_prices, .ref q_percents, .int v_clauses, .ref q_newPrices, .ref q_newPercents, .int v_newClauses, .int (1 : Int32), .int x_4, .int v_number, .int v_digits]))] H := hP
        have hD : va_D A [(q_0, .inr (5, [.ref q_text, .int v_length, .ref q_prices, .ref q_percents, .int v_clauses, .ref q_newPrices, .ref q_newPercents, .int v_newClauses, .int (1 : Int32), .int x_4, .int v_number, .int v_digits]))] := hD
        refine lv_iconst (v := (1 : Int32)) hx hb d_XF_beginsClause_39 (by decide) ?_
        exact rt_z (u := ((1 : Int32), x_4, v_number, v_digits)) C0 (by decide) hw hP hD hS (by decide) (by decide) d_XF_beginsClause_40
      · have hw := hw.2 c_3
        refine lv_iconst (v := (0 : Int32)) hx hb d_XF_beginsClause_24 (by decide) ?_
        exact rt_z (u := (v_state, v_subject, v_number, v_digits)) C0 (by decide) hw hP hD hS (by decide) (by decide) d_XF_beginsClause_25
  · have hw := hw.1 c_1
    refine lv_aload_n hx hb d_XF_beginsClause_6 rfl (lv_at hl 0 rfl) ?_
    refine lv_iconst (v := (3 : Int32)) hx hb d_XF_beginsClause_7 (by decide) ?_
    refine jn_i C0 hP hD hS [0] [] (ru_V C0 (As := [.int (3 : Int32)]) (rest := []) (c_XF_beginsNumber l hl9 dC dI cI cJ cZ q_0 q_text q_prices q_percents q_newPrices q_newPercents (3 : Int32) v_length v_clauses v_newClauses v_state v_subject v_number v_digits _ hw _) k_205 k_206 k_207 k_208 k_50 (n9 := 1) (by decide +kernel) rfl (ci := 5) rfl rfl ⟨Nat.le_of_ble_eq_true rfl, Nat.le_of_ble_eq_true rfl⟩ hP hD hS [0] rfl (by decide) hl.1 rfl (Nat.le_of_ble_eq_true rfl) d_XF_beginsClause_8 ⟨Nat.le_of_ble_eq_true rfl, Nat.le_of_ble_eq_true rfl⟩) rfl rfl (by decide) (by decide) (fun r_5 u H locs hw hP hD hS => ?_)
    obtain ⟨x_6, x_7, x_8⟩ := u
    try dsimp only at hw
    have hP : va_P (dC, dI) classes [(q_0, .inr (5, [.ref q_text, .int v_length, .ref q_prices, .ref q_percents, .int v_clauses, .ref q_newPrices, .ref q_newPercents, .int v_newClauses, .int x_6, .int v_subject, .int x_7, .int x_8]))] H := hP
    have hD : va_D A [(q_0, .inr (5, [.ref q_text, .int v_length, .ref q_prices, .ref q_percents, .int v_clauses, .ref q_newPrices, .ref q_newPercents, .int v_newClauses, .int x_6, .int v_subject, .int x_7, .int x_8]))] := hD
    obtain ⟨h_9, hw⟩ := hw
    exact rt_z (u := (x_6, v_subject, x_7, x_8)) C0 (nar_z h_9) hw hP hD hS (by decide) (by decide) d_XF_beginsClause_11
theorem d_XF_takesGroupDigit_0 : decode b_XF_takesGroupDigit 0 = .ok (.aload_n 0, 1) := by decide +kernel
theorem d_XF_takesGroupDigit_1 : decode b_XF_takesGroupDigit 1 = .ok (.iload_n 1, 1) := by decide +kernel
theorem d_XF_takesGroupDigit_2 : decode b_XF_takesGroupDigit 2 = .ok (.bipush 9, 2) := by decide +kernel
theorem d_XF_takesGroupDigit_4 : decode b_XF_takesGroupDigit 4 = .ok (.invokevirtual 74, 3) := by decide +kernel
theorem d_XF_takesGroupDigit_7 : decode b_XF_takesGroupDigit 7 = .ok (.ifCond .eq 22, 3) := by decide +kernel
theorem d_XF_takesGroupDigit_10 : decode b_XF_takesGroupDigit 10 = .ok (.aload_n 0, 1) := by decide +kernel
theorem d_XF_takesGroupDigit_11 : decode b_XF_takesGroupDigit 11 = .ok (.getfield 87, 3) := by decide +kernel
theorem d_XF_takesGroupDigit_14 : decode b_XF_takesGroupDigit 14 = .ok (.ifCond .gt 11, 3) := by decide +kernel
theorem d_XF_takesGroupDigit_17 : decode b_XF_takesGroupDigit 17 = .ok (.aload_n 0, 1) := by decide +kernel
theorem d_XF_takesGroupDigit_18 : decode b_XF_takesGroupDigit 18 = .ok (.getfield 90, 3) := by decide +kernel
theorem d_XF_takesGroupDigit_21 : decode b_XF_takesGroupDigit 21 = .ok (.iconst 5, 1) := by decide +kernel
theorem d_XF_takesGroupDigit_22 : decode b_XF_takesGroupDigit 22 = .ok (.if_icmp .ge 7, 3) := by decide +kernel
theorem d_XF_takesGroupDigit_25 : decode b_XF_takesGroupDigit 25 = .ok (.iconst 1, 1) := by decide +kernel
theorem d_XF_takesGroupDigit_26 : decode b_XF_takesGroupDigit 26 = .ok (.goto 4, 3) := by decide +kernel
theorem d_XF_takesGroupDigit_29 : decode b_XF_takesGroupDigit 29 = .ok (.iconst 0, 1) := by decide +kernel
theorem d_XF_takesGroupDigit_30 : decode b_XF_takesGroupDigit 30 = .ok (.ireturn, 1) := by decide +kernel
def wp_XF_takesGroupDigit (post : Int32 → ((Int32) × (Int32)) → Prop) (a_1 : Int32) (v_number : Int32) (v_digits : Int32) : Prop := wp_XF_takesDigit (fun r_1 u => match u with | (x_2, x_3) => ((r_1 = 0 → post (0 : Int32) (x_2, x_3)) ∧ (¬ (r_1 = 0) → ((0 < x_2 → post (1 : Int32) (x_2, x_3)) ∧ (¬ (0 < x_2) → (((5 : Int32) ≤ x_3 → post (0 : Int32) (x_2, x_3)) ∧ (¬ ((5 : Int32) ≤ x_3) → post (1 : Int32) (x_2, x_3)))))))) a_1 (9 : Int32) v_number v_digits
set_option maxHeartbeats 4000000 in
set_option maxRecDepth 100000 in
theorem c_XF_takesGroupDigit (l : Launch) (hl9 : l.stackTraces = false) (dC : Nat → ClassId) (dI : Nat → Nat → Nat) (cI cJ cZ : ClassId) (q_0 q_text q_prices q_percents q_newPrices q_newPercents : Nat) (a_1 : Int32) (v_length : Int32) (v_clauses : Int32) (v_newClauses : Int32) (v_state : Int32) (v_subject : Int32) (v_number : Int32) (v_digits : Int32) (post : Int32 → ((Int32) × (Int32)) → Prop) (hw : wp_XF_takesGroupDigit post a_1 v_number v_digits) : Ki l y_XF_takesGroupDigit b_XF_takesGroupDigit 2 (some .boolean) ({ frames := 1, cells := 0, slots := 0, locals := 22 } : Room) dC dI cI cJ cZ [.ref q_0, .int a_1] [(q_0, .inr (5, [.ref q_text, .int v_length, .ref q_prices, .ref q_percents, .int v_clauses, .ref q_newPrices, .ref q_newPercents, .int v_newClauses, .int v_state, .int v_subject, .int v_number, .int v_digits]))] post (fun u : (Int32) × (Int32) => [(q_0, .inr (5, [.ref q_text, .int v_length, .ref q_prices, .ref q_percents, .int v_clauses, .ref q_newPrices, .ref q_newPercents, .int v_newClauses, .int v_state, .int v_subject, .int u.1, .int u.2]))]) := by
  refine mki hl9 (own := R_XF) rfl (by decide) ?_
  intro p e s m args below meth c A C0 hnm eav hP hD
  obtain ⟨-, hx, hb, hml, hr, hown, hts, hlocks, hK, hZ, hA, hNS⟩ := id C0
  subst eav
  have hS : va_S A s.heap s.heap [] := va_S.rf
  have hl := lv_entry ([.ref q_0, .int a_1]) (n := 2) (Nat.le_of_ble_eq_true rfl)
  rw [lg_entry_eq]
  generalize (lg_sl ([.ref q_0, .int a_1]) ++ List.replicate (2 - (lg_sl ([.ref q_0, .int a_1])).length) Slot.unset).toArray = ls at hl ⊢
  have hl : lv_has ls 2 [(0, .ref q_0), (1, .int a_1)] := hl
  unfold wp_XF_takesGroupDigit at hw
  refine lv_aload_n hx hb d_XF_takesGroupDigit_0 rfl (lv_at hl 0 rfl) ?_
  refine lv_iload_n hx hb d_XF_takesGroupDigit_1 rfl (lv_at hl 1 rfl) ?_
  refine lv_bipush (v := (9 : Int32)) hx hb d_XF_takesGroupDigit_2 (by decide) ?_
  refine jn_i C0 hP hD hS [0] [] (ru_V C0 (As := [.int a_1, .int (9 : Int32)]) (rest := []) (c_XF_takesDigit l hl9 dC dI cI cJ cZ q_0 q_text q_prices q_percents q_newPrices q_newPercents a_1 (9 : Int32) v_length v_clauses v_newClauses v_state v_subject v_number v_digits _ hw _) k_197 k_198 k_199 k_200 k_50 (n9 := 2) (by decide +kernel) rfl (ci := 5) rfl rfl ⟨Nat.le_of_ble_eq_true rfl, Nat.le_of_ble_eq_true rfl⟩ hP hD hS [0] rfl (by decide) hl.1 rfl (Nat.le_of_ble_eq_true rfl) d_XF_takesGroupDigit_4 ⟨Nat.le_of_ble_eq_true rfl, Nat.le_of_ble_eq_true rfl⟩) rfl rfl (by decide) (by decide) (fun r_1 u H locs hw hP hD hS => ?_)
  obtain ⟨x_2, x_3⟩ := u
  try dsimp only at hw
  have hP : va_P (dC, dI) classes [(q_0, .inr (5, [.ref q_text, .int v_length, .ref q_prices, .ref q_percents, .int v_clauses, .ref q_newPrices, .ref q_newPercents, .int v_newClauses, .int v_state, .int v_subject, .int x_2, .int x_3]))] H := hP
  have hD : va_D A [(q_0, .inr (5, [.ref q_text, .int v_length, .ref q_prices, .ref q_percents, .int v_clauses, .ref q_newPrices, .ref q_newPercents, .int v_newClauses, .int v_state, .int v_subject, .int x_2, .int x_3]))] := hD
  refine lv_if_eq (tgt := 29) hx hb d_XF_takesGroupDigit_7 (by decide) (fun c_4 => ?_) (fun c_4 => ?_)
  · have hw := hw.1 c_4
    refine lv_iconst (v := (0 : Int32)) hx hb d_XF_takesGroupDigit_29 (by decide) ?_
    exact rt_z (u := (x_2, x_3)) C0 (by decide) hw hP hD hS (by decide) (by decide) d_XF_takesGroupDigit_30
  · have hw := hw.2 c_4
    refine lv_aload_n hx hb d_XF_takesGroupDigit_10 rfl (lv_at hl 0 rfl) ?_
    refine va_get (D := (dC, dI)) (ci := 5) (v := .int x_2) (C := R_XF) (T := F_XF) (N := 12) hx hb hts i_XF hown hK hP 0 rfl rfl 10 (by decide) (hts _ k_188) (fun _ h9 => h9) rfl d_XF_takesGroupDigit_11 ?_
    refine lv_if_gt (tgt := 25) hx hb d_XF_takesGroupDigit_14 (by decide) (fun c_5 => ?_) (fun c_5 => ?_)
    · have hw := hw.1 c_5
      refine lv_iconst (v := (1 : Int32)) hx hb d_XF_takesGroupDigit_25 (by decide) ?_
      refine lv_goto (tgt := 30) hx hb d_XF_takesGroupDigit_26 (by decide) ?_
      exact rt_z (u := (x_2, x_3)) C0 (by decide) hw hP hD hS (by decide) (by decide) d_XF_takesGroupDigit_30
    · have hw := hw.2 c_5
      refine lv_aload_n hx hb d_XF_takesGroupDigit_17 rfl (lv_at hl 0 rfl) ?_
      refine va_get (D := (dC, dI)) (ci := 5) (v := .int x_3) (C := R_XF) (T := F_XF) (N := 12) hx hb hts i_XF hown hK hP 0 rfl rfl 11 (by decide) (hts _ k_186) (fun _ h9 => h9) rfl d_XF_takesGroupDigit_18 ?_
      refine lv_iconst (v := (5 : Int32)) hx hb d_XF_takesGroupDigit_21 (by decide) ?_
      refine lv_icmp_ge (tgt := 29) hx hb d_XF_takesGroupDigit_22 (by decide) (fun c_6 => ?_) (fun c_6 => ?_)
      · have hw := hw.1 c_6
        refine lv_iconst (v := (0 : Int32)) hx hb d_XF_takesGroupDigit_29 (by decide) ?_
        exact rt_z (u := (x_2, x_3)) C0 (by decide) hw hP hD hS (by decide) (by decide) d_XF_takesGroupDigit_30
      · have hw := hw.2 c_6
        refine lv_iconst (v := (1 : Int32)) hx hb d_XF_takesGroupDigit_25 (by decide) ?_
        refine lv_goto (tgt := 30) hx hb d_XF_takesGroupDigit_26 (by decide) ?_
        exact rt_z (u := (x_2, x_3)) C0 (by decide) hw hP hD hS (by decide) (by decide) d_XF_takesGroupDigit_30
theorem d_XF_endsGroup_0 : decode b_XF_endsGroup 0 = .ok (.aload_n 0, 1) := by decide +kernel
theorem d_XF_endsGroup_1 : decode b_XF_endsGroup 1 = .ok (.getfield 87, 3) := by decide +kernel
theorem d_XF_endsGroup_4 : decode b_XF_endsGroup 4 = .ok (.iconst 1, 1) := by decide +kernel
theorem d_XF_endsGroup_5 : decode b_XF_endsGroup 5 = .ok (.if_icmp .lt 12, 3) := by decide +kernel
theorem d_XF_endsGroup_8 : decode b_XF_endsGroup 8 = .ok (.aload_n 0, 1) := by decide +kernel
theorem d_XF_endsGroup_9 : decode b_XF_endsGroup 9 = .ok (.getfield 87, 3) := by decide +kernel
theorem d_XF_endsGroup_12 : decode b_XF_endsGroup 12 = .ok (.bipush 9, 2) := by decide +kernel
theorem d_XF_endsGroup_14 : decode b_XF_endsGroup 14 = .ok (.if_icmp .le 5, 3) := by decide +kernel
theorem d_XF_endsGroup_17 : decode b_XF_endsGroup 17 = .ok (.iconst 0, 1) := by decide +kernel
theorem d_XF_endsGroup_18 : decode b_XF_endsGroup 18 = .ok (.ireturn, 1) := by decide +kernel
theorem d_XF_endsGroup_19 : decode b_XF_endsGroup 19 = .ok (.aload_n 0, 1) := by decide +kernel
theorem d_XF_endsGroup_20 : decode b_XF_endsGroup 20 = .ok (.aload_n 0, 1) := by decide +kernel
theorem d_XF_endsGroup_21 : decode b_XF_endsGroup 21 = .ok (.getfield 87, 3) := by decide +kernel
theorem d_XF_endsGroup_24 : decode b_XF_endsGroup 24 = .ok (.putfield 84, 3) := by decide +kernel
theorem d_XF_endsGroup_27 : decode b_XF_endsGroup 27 = .ok (.aload_n 0, 1) := by decide +kernel
theorem d_XF_endsGroup_28 : decode b_XF_endsGroup 28 = .ok (.iconst 4, 1) := by decide +kernel
theorem d_XF_endsGroup_29 : decode b_XF_endsGroup 29 = .ok (.invokevirtual 67, 3) := by decide +kernel
theorem d_XF_endsGroup_32 : decode b_XF_endsGroup 32 = .ok (.ireturn, 1) := by decide +kernel
def wp_XF_endsGroup (post : Int32 → ((Int32) × (Int32) × (Int32) × (Int32)) → Prop) (v_state : Int32) (v_subject : Int32) (v_number : Int32) (v_digits : Int32) : Prop := ((v_number < (1 : Int32) → post (0 : Int32) (v_state, v_subject, v_number, v_digits)) ∧ (¬ (v_number < (1 : Int32)) → ((v_number ≤ (9 : Int32) → wp_XF_beginsNumber (fun r_3 u => match u with | (x_4, x_5, x_6) => ((r_3 = 0 ∨ r_3 = 1) ∧ post r_3 (x_4, v_number, x_5, x_6))) (4 : Int32) v_state v_number v_digits) ∧ (¬ (v_number ≤ (9 : Int32)) → post (0 : Int32) (v_state, v_subject, v_number, v_digits)))))
set_option maxHeartbeats 4000000 in
set_option maxRecDepth 100000 in
theorem c_XF_endsGroup (l : Launch) (hl9 : l.stackTraces = false) (dC : Nat → ClassId) (dI : Nat → Nat → Nat) (cI cJ cZ : ClassId) (q_0 q_text q_prices q_percents q_newPrices q_newPercents : Nat) (v_length : Int32) (v_clauses : Int32) (v_newClauses : Int32) (v_state : Int32) (v_subject : Int32) (v_number : Int32) (v_digits : Int32) (post : Int32 → ((Int32) × (Int32) × (Int32) × (Int32)) → Prop) (hw : wp_XF_endsGroup post v_state v_subject v_number v_digits) : Ki l y_XF_endsGroup b_XF_endsGroup 1 (some .boolean) ({ frames := 1, cells := 0, slots := 0, locals := 21 } : Room) dC dI cI cJ cZ [.ref q_0] [(q_0, .inr (5, [.ref q_text, .int v_length, .ref q_prices, .ref q_percents, .int v_clauses, .ref q_newPrices, .ref q_newPercents, .int v_newClauses, .int v_state, .int v_subject, .int v_number, .int v_digits]))] post (fun u : (Int32) × (Int32) × (Int32) × (Int32) => [(q_0, .inr (5, [.ref q_text, .int v_length, .ref q_prices, .ref q_percents, .int v_clauses, .ref q_newPrices, .ref q_newPercents, .int v_newClauses, .int u.1, .int u.2.1, .int u.2.2.1, .int u.2.2.2]))]) := by
  refine mki hl9 (own := R_XF) rfl (by decide) ?_
  intro p e s m args below meth c A C0 hnm eav hP hD
  obtain ⟨-, hx, hb, hml, hr, hown, hts, hlocks, hK, hZ, hA, hNS⟩ := id C0
  subst eav
  have hS : va_S A s.heap s.heap [] := va_S.rf
  have hl := lv_entry ([.ref q_0]) (n := 1) (Nat.le_of_ble_eq_true rfl)
  rw [lg_entry_eq]
  generalize (lg_sl ([.ref q_0]) ++ List.replicate (1 - (lg_sl ([.ref q_0])).length) Slot.unset).toArray = ls at hl ⊢
  have hl : lv_has ls 1 [(0, .ref q_0)] := hl
  unfold wp_XF_endsGroup at hw
  refine lv_aload_n hx hb d_XF_endsGroup_0 rfl (lv_at hl 0 rfl) ?_
  refine va_get (D := (dC, dI)) (ci := 5) (v := .int v_number) (C := R_XF) (T := F_XF) (N := 12) hx hb hts i_XF hown hK hP 0 rfl rfl 10 (by decide) (hts _ k_188) (fun _ h9 => h9) rfl d_XF_endsGroup_1 ?_
  refine lv_iconst (v := (1 : Int32)) hx hb d_XF_endsGroup_4 (by decide) ?_
  refine lv_icmp_lt (tgt := 17) hx hb d_XF_endsGroup_5 (by decide) (fun c_1 => ?_) (fun c_1 => ?_)
  · have hw := hw.1 c_1
    refine lv_iconst (v := (0 : Int32)) hx hb d_XF_endsGroup_17 (by decide) ?_
    exact rt_z (u := (v_state, v_subject, v_number, v_digits)) C0 (by decide) hw hP hD hS (by decide) (by decide) d_XF_endsGroup_18
  · have hw := hw.2 c_1
    refine lv_aload_n hx hb d_XF_endsGroup_8 rfl (lv_at hl 0 rfl) ?_
    refine va_get (D := (dC, dI)) (ci := 5) (v := .int v_number) (C := R_XF) (T := F_XF) (N := 12) hx hb hts i_XF hown hK hP 0 rfl rfl 10 (by decide) (hts _ k_188) (fun _ h9 => h9) rfl d_XF_endsGroup_9 ?_
    refine lv_bipush (v := (9 : Int32)) hx hb d_XF_endsGroup_12 (by decide) ?_
    refine lv_icmp_le (tgt := 19) hx hb d_XF_endsGroup_14 (by decide) (fun c_2 => ?_) (fun c_2 => ?_)
    · have hw := hw.1 c_2
      refine lv_aload_n hx hb d_XF_endsGroup_19 rfl (lv_at hl 0 rfl) ?_
      refine lv_aload_n hx hb d_XF_endsGroup_20 rfl (lv_at hl 0 rfl) ?_
      refine va_get (D := (dC, dI)) (ci := 5) (v := .int v_number) (C := R_XF) (T := F_XF) (N := 12) hx hb hts i_XF hown hK hP 0 rfl rfl 10 (by decide) (hts _ k_188) (fun _ h9 => h9) rfl d_XF_endsGroup_21 ?_
      refine va_put (D := (dC, dI)) (ci := 5) (v := .int v_number) (ty := .int) (C := R_XF) (T := F_XF) (N := 12) hx hb hts i_XF t_XF t_XF_ok n_XF hown hK hP hD hS 0 rfl rfl 9 (by decide) (hts _ k_187) (fun _ h9 => h9) rfl (by decide +kernel) rfl rfl (Nat.le_of_ble_eq_true rfl) d_XF_endsGroup_24 (fun H locs hP hD hS => ?_)
      have hP : va_P (dC, dI) classes [(q_0, .inr (5, [.ref q_text, .int v_length, .ref q_prices, .ref q_percents, .int v_clauses, .ref q_newPrices, .ref q_newPercents, .int v_newClauses, .int v_state, .int v_number, .int v_number, .int v_digits]))] H := hP
      have hD : va_D A [(q_0, .inr (5, [.ref q_text, .int v_length, .ref q_prices, .ref q_percents, .int v_clauses, .ref q_newPrices, .ref q_newPercents, .int v_newClauses, .int v_state, .int v_number, .int v_number, .int v_digits]))] := hD
      refine lv_aload_n hx hb d_XF_endsGroup_27 rfl (lv_at hl 0 rfl) ?_
      refine lv_iconst (v := (4 : Int32)) hx hb d_XF_endsGroup_28 (by decide) ?_
      refine jn_i C0 hP hD hS [0] [] (ru_V C0 (As := [.int (4 : Int32)]) (rest := []) (c_XF_beginsNumber l hl9 dC dI cI cJ cZ q_0 q_text q_prices q_percents q_newPrices q_newPercents (4 : Int32) v_length v_clauses v_newClauses v_state v_number v_number v_digits _ hw _) k_205 k_206 k_207 k_208 k_50 (n9 := 1) (by decide +kernel) rfl (ci := 5) rfl rfl ⟨Nat.le_of_ble_eq_true rfl, Nat.le_of_ble_eq_true rfl⟩ hP hD hS [0] rfl (by decide) hl.1 rfl (Nat.le_of_ble_eq_true rfl) d_XF_endsGroup_29 ⟨Nat.le_of_ble_eq_true rfl, Nat.le_of_ble_eq_true rfl⟩) rfl rfl (by decide) (by decide) (fun r_3 u H locs hw hP hD hS => ?_)
      obtain ⟨x_4, x_5, x_6⟩ := u
      try dsimp only at hw
      have hP : va_P (dC, dI) classes [(q_0, .inr (5, [.ref q_text, .int v_length, .ref q_prices, .ref q_percents, .int v_clauses, .ref q_newPrices, .ref q_newPercents, .int v_newClauses, .int x_4, .int v_number, .int x_5, .int x_6]))] H := hP
      have hD : va_D A [(q_0, .inr (5, [.ref q_text, .int v_length, .ref q_prices, .ref q_percents, .int v_clauses, .ref q_newPrices, .ref q_newPercents, .int v_newClauses, .int x_4, .int v_number, .int x_5, .int x_6]))] := hD
      obtain ⟨h_7, hw⟩ := hw
      exact rt_z (u := (x_4, v_number, x_5, x_6)) C0 (nar_z h_7) hw hP hD hS (by decide) (by decide) d_XF_endsGroup_32
    · have hw := hw.2 c_2
      refine lv_iconst (v := (0 : Int32)) hx hb d_XF_endsGroup_17 (by decide) ?_
      exact rt_z (u := (v_state, v_subject, v_number, v_digits)) C0 (by decide) hw hP hD hS (by decide) (by decide) d_XF_endsGroup_18
theorem d_XF_takes_0 : decode b_XF_takes 0 = .ok (.aload_n 0, 1) := by decide +kernel
theorem d_XF_takes_1 : decode b_XF_takes 1 = .ok (.getfield 53, 3) := by decide +kernel
theorem d_XF_takes_4 : decode b_XF_takes 4 = .ok (.tableswitch 98 0 3 #[32, 38, 58, 79], 32) := by decide +kernel
theorem d_XF_takes_36 : decode b_XF_takes 36 = .ok (.aload_n 0, 1) := by decide +kernel
theorem d_XF_takes_37 : decode b_XF_takes 37 = .ok (.iload_n 1, 1) := by decide +kernel
theorem d_XF_takes_38 : decode b_XF_takes 38 = .ok (.invokevirtual 64, 3) := by decide +kernel
theorem d_XF_takes_41 : decode b_XF_takes 41 = .ok (.ireturn, 1) := by decide +kernel
theorem d_XF_takes_42 : decode b_XF_takes 42 = .ok (.iload_n 1, 1) := by decide +kernel
theorem d_XF_takes_43 : decode b_XF_takes 43 = .ok (.bipush 61, 2) := by decide +kernel
theorem d_XF_takes_45 : decode b_XF_takes 45 = .ok (.if_icmp .ne 15, 3) := by decide +kernel
theorem d_XF_takes_48 : decode b_XF_takes 48 = .ok (.aload_n 0, 1) := by decide +kernel
theorem d_XF_takes_49 : decode b_XF_takes 49 = .ok (.iconst 2, 1) := by decide +kernel
theorem d_XF_takes_50 : decode b_XF_takes 50 = .ok (.invokevirtual 67, 3) := by decide +kernel
theorem d_XF_takes_53 : decode b_XF_takes 53 = .ok (.ifCond .eq 7, 3) := by decide +kernel
theorem d_XF_takes_56 : decode b_XF_takes 56 = .ok (.iconst 1, 1) := by decide +kernel
theorem d_XF_takes_57 : decode b_XF_takes 57 = .ok (.goto 4, 3) := by decide +kernel
theorem d_XF_takes_60 : decode b_XF_takes 60 = .ok (.iconst 0, 1) := by decide +kernel
theorem d_XF_takes_61 : decode b_XF_takes 61 = .ok (.ireturn, 1) := by decide +kernel
theorem d_XF_takes_62 : decode b_XF_takes 62 = .ok (.iload_n 1, 1) := by decide +kernel
theorem d_XF_takes_63 : decode b_XF_takes 63 = .ok (.bipush 44, 2) := by decide +kernel
theorem d_XF_takes_65 : decode b_XF_takes 65 = .ok (.if_icmp .ne 10, 3) := by decide +kernel
theorem d_XF_takes_68 : decode b_XF_takes 68 = .ok (.aload_n 0, 1) := by decide +kernel
theorem d_XF_takes_69 : decode b_XF_takes 69 = .ok (.invokevirtual 70, 3) := by decide +kernel
theorem d_XF_takes_72 : decode b_XF_takes 72 = .ok (.goto 10, 3) := by decide +kernel
theorem d_XF_takes_75 : decode b_XF_takes 75 = .ok (.aload_n 0, 1) := by decide +kernel
theorem d_XF_takes_76 : decode b_XF_takes 76 = .ok (.iload_n 1, 1) := by decide +kernel
theorem d_XF_takes_77 : decode b_XF_takes 77 = .ok (.ldc 73, 2) := by decide +kernel
theorem d_XF_takes_79 : decode b_XF_takes 79 = .ok (.invokevirtual 74, 3) := by decide +kernel
theorem d_XF_takes_82 : decode b_XF_takes 82 = .ok (.ireturn, 1) := by decide +kernel
theorem d_XF_takes_83 : decode b_XF_takes 83 = .ok (.iload_n 1, 1) := by decide +kernel
theorem d_XF_takes_84 : decode b_XF_takes 84 = .ok (.bipush 45, 2) := by decide +kernel
theorem d_XF_takes_86 : decode b_XF_takes 86 = .ok (.if_icmp .ne 10, 3) := by decide +kernel
theorem d_XF_takes_89 : decode b_XF_takes 89 = .ok (.aload_n 0, 1) := by decide +kernel
theorem d_XF_takes_90 : decode b_XF_takes 90 = .ok (.invokevirtual 78, 3) := by decide +kernel
theorem d_XF_takes_93 : decode b_XF_takes 93 = .ok (.goto 8, 3) := by decide +kernel
theorem d_XF_takes_96 : decode b_XF_takes 96 = .ok (.aload_n 0, 1) := by decide +kernel
theorem d_XF_takes_97 : decode b_XF_takes 97 = .ok (.iload_n 1, 1) := by decide +kernel
theorem d_XF_takes_98 : decode b_XF_takes 98 = .ok (.invokevirtual 81, 3) := by decide +kernel
theorem d_XF_takes_101 : decode b_XF_takes 101 = .ok (.ireturn, 1) := by decide +kernel
theorem d_XF_takes_102 : decode b_XF_takes 102 = .ok (.iload_n 1, 1) := by decide +kernel
theorem d_XF_takes_103 : decode b_XF_takes 103 = .ok (.bipush 44, 2) := by decide +kernel
theorem d_XF_takes_105 : decode b_XF_takes 105 = .ok (.if_icmp .ne 10, 3) := by decide +kernel
theorem d_XF_takes_108 : decode b_XF_takes 108 = .ok (.aload_n 0, 1) := by decide +kernel
theorem d_XF_takes_109 : decode b_XF_takes 109 = .ok (.invokevirtual 70, 3) := by decide +kernel
theorem d_XF_takes_112 : decode b_XF_takes 112 = .ok (.goto 10, 3) := by decide +kernel
theorem d_XF_takes_115 : decode b_XF_takes 115 = .ok (.aload_n 0, 1) := by decide +kernel
theorem d_XF_takes_116 : decode b_XF_takes 116 = .ok (.iload_n 1, 1) := by decide +kernel
theorem d_XF_takes_117 : decode b_XF_takes 117 = .ok (.bipush 100, 2) := by decide +kernel
theorem d_XF_takes_119 : decode b_XF_takes 119 = .ok (.invokevirtual 74, 3) := by decide +kernel
theorem d_XF_takes_122 : decode b_XF_takes 122 = .ok (.ireturn, 1) := by decide +kernel
def wp_XF_takes (post : Int32 → ((Nat → Int32) × (Nat → Int32) × (Int32) × (Int32) × (Int32) × (Int32) × (Int32)) → Prop) (a_1 : Int32) (v_newPrices : Nat → Int32) (v_newPercents : Nat → Int32) (v_newClauses : Int32) (v_state : Int32) (v_subject : Int32) (v_number : Int32) (v_digits : Int32) : Prop := ((v_state < (0 : Int32) → ((a_1 = (44 : Int32) → wp_XF_beginsNext (fun r_8 u => match u with | (f_9, f_10, x_11, x_12) => ((r_8 = 0 ∨ r_8 = 1) ∧ post r_8 (f_9, f_10, x_11, x_12, v_subject, v_number, v_digits))) v_newPrices v_newPercents v_newClauses v_state v_subject v_number v_digits) ∧ (¬ (a_1 = (44 : Int32)) → wp_XF_takesDigit (fun r_4 u => match u with | (x_5, x_6) => ((r_4 = 0 ∨ r_4 = 1) ∧ post r_4 (v_newPrices, v_newPercents, v_newClauses, v_state, v_subject, x_5, x_6))) a_1 (100 : Int32) v_number v_digits))) ∧ (¬ (v_state < (0 : Int32)) → (((3 : Int32) < v_state → ((a_1 = (44 : Int32) → wp_XF_beginsNext (fun r_19 u => match u with | (f_20, f_21, x_22, x_23) => ((r_19 = 0 ∨ r_19 = 1) ∧ post r_19 (f_20, f_21, x_22, x_23, v_subject, v_number, v_digits))) v_newPrices v_newPercents v_newClauses v_state v_subject v_number v_digits) ∧ (¬ (a_1 = (44 : Int32)) → wp_XF_takesDigit (fun r_15 u => match u with | (x_16, x_17) => ((r_15 = 0 ∨ r_15 = 1) ∧ post r_15 (v_newPrices, v_newPercents, v_newClauses, v_state, v_subject, x_16, x_17))) a_1 (100 : Int32) v_number v_digits))) ∧ (¬ ((3 : Int32) < v_state) → ((v_state = (0 : Int32) → wp_XF_beginsClause (fun r_26 u => match u with | (x_27, x_28, x_29, x_30) => ((r_26 = 0 ∨ r_26 = 1) ∧ post r_26 (v_newPrices, v_newPercents, v_newClauses, x_27, x_28, x_29, x_30))) a_1 v_state v_subject v_number v_digits) ∧ (¬ (v_state = (0 : Int32)) → ((v_state = (1 : Int32) → ((a_1 = (61 : Int32) → wp_XF_beginsNumber (fun r_34 u => match u with | (x_35, x_36, x_37) => ((r_34 = 0 → post (0 : Int32) (v_newPrices, v_newPercents, v_newClauses, x_35, v_subject, x_36, x_37)) ∧ (¬ (r_34 = 0) → post (1 : Int32) (v_newPrices, v_newPercents, v_newClauses, x_35, v_subject, x_36, x_37)))) (2 : Int32) v_state v_number v_digits) ∧ (¬ (a_1 = (61 : Int32)) → post (0 : Int32) (v_newPrices, v_newPercents, v_newClauses, v_state, v_subject, v_number, v_digits)))) ∧ (¬ (v_state = (1 : Int32)) → ((v_state = (2 : Int32) → ((a_1 = (44 : Int32) → wp_XF_beginsNext (fun r_45 u => match u with | (f_46, f_47, x_48, x_49) => ((r_45 = 0 ∨ r_45 = 1) ∧ post r_45 (f_46, f_47, x_48, x_49, v_subject, v_number, v_digits))) v_newPrices v_newPercents v_newClauses v_state v_subject v_number v_digits) ∧ (¬ (a_1 = (44 : Int32)) → wp_XF_takesDigit (fun r_41 u => match u with | (x_42, x_43) => ((r_41 = 0 ∨ r_41 = 1) ∧ post r_41 (v_newPrices, v_newPercents, v_newClauses, v_state, v_subject, x_42, x_43))) a_1 (99999 : Int32) v_number v_digits))) ∧ (¬ (v_state = (2 : Int32)) → ((v_state = (3 : Int32) → ((a_1 = (45 : Int32) → wp_XF_endsGroup (fun r_57 u => match u with | (x_58, x_59, x_60, x_61) => ((r_57 = 0 ∨ r_57 = 1) ∧ post r_57 (v_newPrices, v_newPercents, v_newClauses, x_58, x_59, x_60, x_61))) v_state v_subject v_number v_digits) ∧ (¬ (a_1 = (45 : Int32)) → wp_XF_takesGroupDigit (fun r_53 u => match u with | (x_54, x_55) => ((r_53 = 0 ∨ r_53 = 1) ∧ post r_53 (v_newPrices, v_newPercents, v_newClauses, v_state, v_subject, x_54, x_55))) a_1 v_number v_digits))) ∧ (¬ (v_state = (3 : Int32)) → True))))))))))))
set_option maxHeartbeats 4000000 in
set_option maxRecDepth 100000 in
theorem c_XF_takes (l : Launch) (hl9 : l.stackTraces = false) (dC : Nat → ClassId) (dI : Nat → Nat → Nat) (cI cJ cZ : ClassId) (q_0 q_newPrices q_newPercents q_text q_prices q_percents : Nat) (a_1 : Int32) (v_length : Int32) (v_clauses : Int32) (v_newPrices : Nat → Int32) (v_newPercents : Nat → Int32) (v_newClauses : Int32) (v_state : Int32) (v_subject : Int32) (v_number : Int32) (v_digits : Int32) (post : Int32 → ((Nat → Int32) × (Nat → Int32) × (Int32) × (Int32) × (Int32) × (Int32) × (Int32)) → Prop) (hw : wp_XF_takes post a_1 v_newPrices v_newPercents v_newClauses v_state v_subject v_number v_digits) : Ki l y_XF_takes b_XF_takes 2 (some .boolean) ({ frames := 3, cells := 0, slots := 0, locals := 62 } : Room) dC dI cI cJ cZ [.ref q_0, .int a_1] [(q_0, .inr (5, [.ref q_text, .int v_length, .ref q_prices, .ref q_percents, .int v_clauses, .ref q_newPrices, .ref q_newPercents, .int v_newClauses, .int v_state, .int v_subject, .int v_number, .int v_digits])), (q_newPrices, .inl (cI, 5, .inl v_newPrices)), (q_newPercents, .inl (cI, 10, .inl v_newPercents))] post (fun u : (Nat → Int32) × (Nat → Int32) × (Int32) × (Int32) × (Int32) × (Int32) × (Int32) => [(q_0, .inr (5, [.ref q_text, .int v_length, .ref q_prices, .ref q_percents, .int v_clauses, .ref q_newPrices, .ref q_newPercents, .int u.2.2.1, .int u.2.2.2.1, .int u.2.2.2.2.1, .int u.2.2.2.2.2.1, .int u.2.2.2.2.2.2])), (q_newPrices, .inl (cI, 5, .inl u.1)), (q_newPercents, .inl (cI, 10, .inl u.2.1))]) := by
  refine mki hl9 (own := R_XF) rfl (by decide) ?_
  intro p e s m args below meth c A C0 hnm eav hP hD
  obtain ⟨-, hx, hb, hml, hr, hown, hts, hlocks, hK, hZ, hA, hNS⟩ := id C0
  subst eav
  have hS : va_S A s.heap s.heap [] := va_S.rf
  have hl := lv_entry ([.ref q_0, .int a_1]) (n := 2) (Nat.le_of_ble_eq_true rfl)
  rw [lg_entry_eq]
  generalize (lg_sl ([.ref q_0, .int a_1]) ++ List.replicate (2 - (lg_sl ([.ref q_0, .int a_1])).length) Slot.unset).toArray = ls at hl ⊢
  have hl : lv_has ls 2 [(0, .ref q_0), (1, .int a_1)] := hl
  unfold wp_XF_takes at hw
  refine lv_aload_n hx hb d_XF_takes_0 rfl (lv_at hl 0 rfl) ?_
  refine va_get (D := (dC, dI)) (ci := 5) (v := .int v_state) (C := R_XF) (T := F_XF) (N := 12) hx hb hts i_XF hown hK hP 0 rfl rfl 8 (by decide) (hts _ k_185) (fun _ h9 => h9) rfl d_XF_takes_1 ?_
  by_cases c_1 : v_state < (0 : Int32)
  · have hw := hw.1 c_1
    refine lv_tableOut (tgt := 102) hx hb d_XF_takes_4 (Or.inl (by have q := Int32.lt_iff_toInt_lt.mp c_1; rw [show (0 : Int32).toInt = 0 by decide] at q; exact q)) (by decide) ?_
    refine lv_iload_n hx hb d_XF_takes_102 rfl (lv_at hl 1 rfl) ?_
    refine lv_bipush (v := (44 : Int32)) hx hb d_XF_takes_103 (by decide) ?_
    refine lv_icmp_ne (tgt := 115) hx hb d_XF_takes_105 (by decide) (fun c_3 => ?_) (fun c_3 => ?_)
    · have hw := hw.2 c_3
      refine lv_aload_n hx hb d_XF_takes_115 rfl (lv_at hl 0 rfl) ?_
      refine lv_iload_n hx hb d_XF_takes_116 rfl (lv_at hl 1 rfl) ?_
      refine lv_bipush (v := (100 : Int32)) hx hb d_XF_takes_117 (by decide) ?_
      refine jn_i C0 hP hD hS [0] [1, 2] (ru_V C0 (As := [.int a_1, .int (100 : Int32)]) (rest := []) (c_XF_takesDigit l hl9 dC dI cI cJ cZ q_0 q_text q_prices q_percents q_newPrices q_newPercents a_1 (100 : Int32) v_length v_clauses v_newClauses v_state v_subject v_number v_digits _ hw _) k_197 k_198 k_199 k_200 k_50 (n9 := 2) (by decide +kernel) rfl (ci := 5) rfl rfl ⟨Nat.le_of_ble_eq_true rfl, Nat.le_of_ble_eq_true rfl⟩ hP hD hS [0] rfl (by decide) hl.1 rfl (Nat.le_of_ble_eq_true rfl) d_XF_takes_119 ⟨Nat.le_of_ble_eq_true rfl, Nat.le_of_ble_eq_true rfl⟩) rfl rfl (by decide) (by decide) (fun r_4 u H locs hw hP hD hS => ?_)
      obtain ⟨x_5, x_6⟩ := u
      try dsimp only at hw
      have hP : va_P (dC, dI) classes [(q_newPrices, .inl (cI, 5, .inl v_newPrices)), (q_newPercents, .inl (cI, 10, .inl v_newPercents)), (q_0, .inr (5, [.ref q_text, .int v_length, .ref q_prices, .ref q_percents, .int v_clauses, .ref q_newPrices, .ref q_newPercents, .int v_newClauses, .int v_state, .int v_subject, .int x_5, .int x_6]))] H := hP
      have hD : va_D A [(q_newPrices, .inl (cI, 5, .inl v_newPrices)), (q_newPercents, .inl (cI, 10, .inl v_newPercents)), (q_0, .inr (5, [.ref q_text, .int v_length, .ref q_prices, .ref q_percents, .int v_clauses, .ref q_newPrices, .ref q_newPercents, .int v_newClauses, .int v_state, .int v_subject, .int x_5, .int x_6]))] := hD
      obtain ⟨h_7, hw⟩ := hw
      exact rt_z (u := (v_newPrices, v_newPercents, v_newClauses, v_state, v_subject, x_5, x_6)) C0 (nar_z h_7) hw (hP.sub [2, 0, 1] rfl) (hD.sub [2, 0, 1] (by decide) rfl) hS (by decide) (by decide) d_XF_takes_122
    · have hw := hw.1 c_3
      refine lv_aload_n hx hb d_XF_takes_108 rfl (lv_at hl 0 rfl) ?_
      refine jn_i C0 hP hD hS [0, 1, 2] [] (ru_V C0 (As := []) (rest := []) (c_XF_beginsNext l hl9 dC dI cI cJ cZ q_0 q_newPrices q_newPercents q_text q_prices q_percents v_length v_clauses v_newPrices v_newPercents v_newClauses v_state v_subject v_number v_digits _ hw _) k_201 k_202 k_203 k_204 k_50 (n9 := 0) (by decide +kernel) rfl (ci := 5) rfl rfl ⟨Nat.le_of_ble_eq_true rfl, Nat.le_of_ble_eq_true rfl⟩ hP hD hS [0, 1, 2] rfl (by decide) hl.1 rfl (Nat.le_of_ble_eq_true rfl) d_XF_takes_109 ⟨Nat.le_of_ble_eq_true rfl, Nat.le_of_ble_eq_true rfl⟩) rfl rfl (by decide) (by decide) (fun r_8 u H locs hw hP hD hS => ?_)
      obtain ⟨f_9, f_10, x_11, x_12⟩ := u
      try dsimp only at hw
      have hP : va_P (dC, dI) classes [(q_0, .inr (5, [.ref q_text, .int v_length, .ref q_prices, .ref q_percents, .int v_clauses, .ref q_newPrices, .ref q_newPercents, .int x_11, .int x_12, .int v_subject, .int v_number, .int v_digits])), (q_newPrices, .inl (cI, 5, .inl f_9)), (q_newPercents, .inl (cI, 10, .inl f_10))] H := hP
      have hD : va_D A [(q_0, .inr (5, [.ref q_text, .int v_length, .ref q_prices, .ref q_percents, .int v_clauses, .ref q_newPrices, .ref q_newPercents, .int x_11, .int x_12, .int v_subject, .int v_number, .int v_digits])), (q_newPrices, .inl (cI, 5, .inl f_9)), (q_newPercents, .inl (cI, 10, .inl f_10))] := hD
      refine lv_goto (tgt := 122) hx hb d_XF_takes_112 (by decide) ?_
      obtain ⟨h_13, hw⟩ := hw
      exact rt_z (u := (f_9, f_10, x_11, x_12, v_subject, v_number, v_digits)) C0 (nar_z h_13) hw hP hD hS (by decide) (by decide) d_XF_takes_122
  have hw := hw.2 c_1
  by_cases c_2 : (3 : Int32) < v_state
  · have hw := hw.1 c_2
    refine lv_tableOut (tgt := 102) hx hb d_XF_takes_4 (Or.inr (by have q := Int32.lt_iff_toInt_lt.mp c_2; rw [show (3 : Int32).toInt = 3 by decide] at q; exact q)) (by decide) ?_
    refine lv_iload_n hx hb d_XF_takes_102 rfl (lv_at hl 1 rfl) ?_
    refine lv_bipush (v := (44 : Int32)) hx hb d_XF_takes_103 (by decide) ?_
    refine lv_icmp_ne (tgt := 115) hx hb d_XF_takes_105 (by decide) (fun c_14 => ?_) (fun c_14 => ?_)
    · have hw := hw.2 c_14
      refine lv_aload_n hx hb d_XF_takes_115 rfl (lv_at hl 0 rfl) ?_
      refine lv_iload_n hx hb d_XF_takes_116 rfl (lv_at hl 1 rfl) ?_
      refine lv_bipush (v := (100 : Int32)) hx hb d_XF_takes_117 (by decide) ?_
      refine jn_i C0 hP hD hS [0] [1, 2] (ru_V C0 (As := [.int a_1, .int (100 : Int32)]) (rest := []) (c_XF_takesDigit l hl9 dC dI cI cJ cZ q_0 q_text q_prices q_percents q_newPrices q_newPercents a_1 (100 : Int32) v_length v_clauses v_newClauses v_state v_subject v_number v_digits _ hw _) k_197 k_198 k_199 k_200 k_50 (n9 := 2) (by decide +kernel) rfl (ci := 5) rfl rfl ⟨Nat.le_of_ble_eq_true rfl, Nat.le_of_ble_eq_true rfl⟩ hP hD hS [0] rfl (by decide) hl.1 rfl (Nat.le_of_ble_eq_true rfl) d_XF_takes_119 ⟨Nat.le_of_ble_eq_true rfl, Nat.le_of_ble_eq_true rfl⟩) rfl rfl (by decide) (by decide) (fun r_15 u H locs hw hP hD hS => ?_)
      obtain ⟨x_16, x_17⟩ := u
      try dsimp only at hw
      have hP : va_P (dC, dI) classes [(q_newPrices, .inl (cI, 5, .inl v_newPrices)), (q_newPercents, .inl (cI, 10, .inl v_newPercents)), (q_0, .inr (5, [.ref q_text, .int v_length, .ref q_prices, .ref q_percents, .int v_clauses, .ref q_newPrices, .ref q_newPercents, .int v_newClauses, .int v_state, .int v_subject, .int x_16, .int x_17]))] H := hP
      have hD : va_D A [(q_newPrices, .inl (cI, 5, .inl v_newPrices)), (q_newPercents, .inl (cI, 10, .inl v_newPercents)), (q_0, .inr (5, [.ref q_text, .int v_length, .ref q_prices, .ref q_percents, .int v_clauses, .ref q_newPrices, .ref q_newPercents, .int v_newClauses, .int v_state, .int v_subject, .int x_16, .int x_17]))] := hD
      obtain ⟨h_18, hw⟩ := hw
      exact rt_z (u := (v_newPrices, v_newPercents, v_newClauses, v_state, v_subject, x_16, x_17)) C0 (nar_z h_18) hw (hP.sub [2, 0, 1] rfl) (hD.sub [2, 0, 1] (by decide) rfl) hS (by decide) (by decide) d_XF_takes_122
    · have hw := hw.1 c_14
      refine lv_aload_n hx hb d_XF_takes_108 rfl (lv_at hl 0 rfl) ?_
      refine jn_i C0 hP hD hS [0, 1, 2] [] (ru_V C0 (As := []) (rest := []) (c_XF_beginsNext l hl9 dC dI cI cJ cZ q_0 q_newPrices q_newPercents q_text q_prices q_percents v_length v_clauses v_newPrices v_newPercents v_newClauses v_state v_subject v_number v_digits _ hw _) k_201 k_202 k_203 k_204 k_50 (n9 := 0) (by decide +kernel) rfl (ci := 5) rfl rfl ⟨Nat.le_of_ble_eq_true rfl, Nat.le_of_ble_eq_true rfl⟩ hP hD hS [0, 1, 2] rfl (by decide) hl.1 rfl (Nat.le_of_ble_eq_true rfl) d_XF_takes_109 ⟨Nat.le_of_ble_eq_true rfl, Nat.le_of_ble_eq_true rfl⟩) rfl rfl (by decide) (by decide) (fun r_19 u H locs hw hP hD hS => ?_)
      obtain ⟨f_20, f_21, x_22, x_23⟩ := u
      try dsimp only at hw
      have hP : va_P (dC, dI) classes [(q_0, .inr (5, [.ref q_text, .int v_length, .ref q_prices, .ref q_percents, .int v_clauses, .ref q_newPrices, .ref q_newPercents, .int x_22, .int x_23, .int v_subject, .int v_number, .int v_digits])), (q_newPrices, .inl (cI, 5, .inl f_20)), (q_newPercents, .inl (cI, 10, .inl f_21))] H := hP
      have hD : va_D A [(q_0, .inr (5, [.ref q_text, .int v_length, .ref q_prices, .ref q_percents, .int v_clauses, .ref q_newPrices, .ref q_newPercents, .int x_22, .int x_23, .int v_subject, .int v_number, .int v_digits])), (q_newPrices, .inl (cI, 5, .inl f_20)), (q_newPercents, .inl (cI, 10, .inl f_21))] := hD
      refine lv_goto (tgt := 122) hx hb d_XF_takes_112 (by decide) ?_
      obtain ⟨h_24, hw⟩ := hw
      exact rt_z (u := (f_20, f_21, x_22, x_23, v_subject, v_number, v_digits)) C0 (nar_z h_24) hw hP hD hS (by decide) (by decide) d_XF_takes_122
  have hw := hw.2 c_2
  by_cases c_25 : v_state = (0 : Int32)
  · have hw := hw.1 c_25
    refine lv_tableIn (off := 32) (tgt := 36) hx hb d_XF_takes_4 (by rw [c_25]; decide) (by rw [c_25]; decide) (by rw [c_25]; decide) (by decide) ?_
    refine lv_aload_n hx hb d_XF_takes_36 rfl (lv_at hl 0 rfl) ?_
    refine lv_iload_n hx hb d_XF_takes_37 rfl (lv_at hl 1 rfl) ?_
    refine jn_i C0 hP hD hS [0] [1, 2] (ru_V C0 (As := [.int a_1]) (rest := []) (c_XF_beginsClause l hl9 dC dI cI cJ cZ q_0 q_text q_prices q_percents q_newPrices q_newPercents a_1 v_length v_clauses v_newClauses v_state v_subject v_number v_digits _ hw _) k_209 k_210 k_211 k_212 k_50 (n9 := 1) (by decide +kernel) rfl (ci := 5) rfl rfl ⟨Nat.le_of_ble_eq_true rfl, Nat.le_of_ble_eq_true rfl⟩ hP hD hS [0] rfl (by decide) hl.1 rfl (Nat.le_of_ble_eq_true rfl) d_XF_takes_38 ⟨Nat.le_of_ble_eq_true rfl, Nat.le_of_ble_eq_true rfl⟩) rfl rfl (by decide) (by decide) (fun r_26 u H locs hw hP hD hS => ?_)
    obtain ⟨x_27, x_28, x_29, x_30⟩ := u
    try dsimp only at hw
    have hP : va_P (dC, dI) classes [(q_newPrices, .inl (cI, 5, .inl v_newPrices)), (q_newPercents, .inl (cI, 10, .inl v_newPercents)), (q_0, .inr (5, [.ref q_text, .int v_length, .ref q_prices, .ref q_percents, .int v_clauses, .ref q_newPrices, .ref q_newPercents, .int v_newClauses, .int x_27, .int x_28, .int x_29, .int x_30]))] H := hP
    have hD : va_D A [(q_newPrices, .inl (cI, 5, .inl v_newPrices)), (q_newPercents, .inl (cI, 10, .inl v_newPercents)), (q_0, .inr (5, [.ref q_text, .int v_length, .ref q_prices, .ref q_percents, .int v_clauses, .ref q_newPrices, .ref q_newPercents, .int v_newClauses, .int x_27, .int x_28, .int x_29, .int x_30]))] := hD
    obtain ⟨h_31, hw⟩ := hw
    exact rt_z (u := (v_newPrices, v_newPercents, v_newClauses, x_27, x_28, x_29, x_30)) C0 (nar_z h_31) hw (hP.sub [2, 0, 1] rfl) (hD.sub [2, 0, 1] (by decide) rfl) hS (by decide) (by decide) d_XF_takes_41
  have hw := hw.2 c_25
  by_cases c_32 : v_state = (1 : Int32)
  · have hw := hw.1 c_32
    refine lv_tableIn (off := 38) (tgt := 42) hx hb d_XF_takes_4 (by rw [c_32]; decide) (by rw [c_32]; decide) (by rw [c_32]; decide) (by decide) ?_
    refine lv_iload_n hx hb d_XF_takes_42 rfl (lv_at hl 1 rfl) ?_
    refine lv_bipush (v := (61 : Int32)) hx hb d_XF_takes_43 (by decide) ?_
    refine lv_icmp_ne (tgt := 60) hx hb d_XF_takes_45 (by decide) (fun c_33 => ?_) (fun c_33 => ?_)
    · have hw := hw.2 c_33
      refine lv_iconst (v := (0 : Int32)) hx hb d_XF_takes_60 (by decide) ?_
      exact rt_z (u := (v_newPrices, v_newPercents, v_newClauses, v_state, v_subject, v_number, v_digits)) C0 (by decide) hw hP hD hS (by decide) (by decide) d_XF_takes_61
    · have hw := hw.1 c_33
      refine lv_aload_n hx hb d_XF_takes_48 rfl (lv_at hl 0 rfl) ?_
      refine lv_iconst (v := (2 : Int32)) hx hb d_XF_takes_49 (by decide) ?_
      refine jn_i C0 hP hD hS [0] [1, 2] (ru_V C0 (As := [.int (2 : Int32)]) (rest := []) (c_XF_beginsNumber l hl9 dC dI cI cJ cZ q_0 q_text q_prices q_percents q_newPrices q_newPercents (2 : Int32) v_length v_clauses v_newClauses v_state v_subject v_number v_digits _ hw _) k_205 k_206 k_207 k_208 k_50 (n9 := 1) (by decide +kernel) rfl (ci := 5) rfl rfl ⟨Nat.le_of_ble_eq_true rfl, Nat.le_of_ble_eq_true rfl⟩ hP hD hS [0] rfl (by decide) hl.1 rfl (Nat.le_of_ble_eq_true rfl) d_XF_takes_50 ⟨Nat.le_of_ble_eq_true rfl, Nat.le_of_ble_eq_true rfl⟩) rfl rfl (by decide) (by decide) (fun r_34 u H locs hw hP hD hS => ?_)
      obtain ⟨x_35, x_36, x_37⟩ := u
      try dsimp only at hw
      have hP : va_P (dC, dI) classes [(q_newPrices, .inl (cI, 5, .inl v_newPrices)), (q_newPercents, .inl (cI, 10, .inl v_newPercents)), (q_0, .inr (5, [.ref q_text, .int v_length, .ref q_prices, .ref q_percents, .int v_clauses, .ref q_newPrices, .ref q_newPercents, .int v_newClauses, .int x_35, .int v_subject, .int x_36, .int x_37]))] H := hP
      have hD : va_D A [(q_newPrices, .inl (cI, 5, .inl v_newPrices)), (q_newPercents, .inl (cI, 10, .inl v_newPercents)), (q_0, .inr (5, [.ref q_text, .int v_length, .ref q_prices, .ref q_percents, .int v_clauses, .ref q_newPrices, .ref q_newPercents, .int v_newClauses, .int x_35, .int v_subject, .int x_36, .int x_37]))] := hD
      refine lv_if_eq (tgt := 60) hx hb d_XF_takes_53 (by decide) (fun c_38 => ?_) (fun c_38 => ?_)
      · have hw := hw.1 c_38
        refine lv_iconst (v := (0 : Int32)) hx hb d_XF_takes_60 (by decide) ?_
        exact rt_z (u := (v_newPrices, v_newPercents, v_newClauses, x_35, v_subject, x_36, x_37)) C0 (by decide) hw (hP.sub [2, 0, 1] rfl) (hD.sub [2, 0, 1] (by decide) rfl) hS (by decide) (by decide) d_XF_takes_61
      · have hw := hw.2 c_38
        refine lv_iconst (v := (1 : Int32)) hx hb d_XF_takes_56 (by decide) ?_
        refine lv_goto (tgt := 61) hx hb d_XF_takes_57 (by decide) ?_
        exact rt_z (u := (v_newPrices, v_newPercents, v_newClauses, x_35, v_subject, x_36, x_37)) C0 (by decide) hw (hP.sub [2, 0, 1] rfl) (hD.sub [2, 0, 1] (by decide) rfl) hS (by decide) (by decide) d_XF_takes_61
  have hw := hw.2 c_32
  by_cases c_39 : v_state = (2 : Int32)
  · have hw := hw.1 c_39
    refine lv_tableIn (off := 58) (tgt := 62) hx hb d_XF_takes_4 (by rw [c_39]; decide) (by rw [c_39]; decide) (by rw [c_39]; decide) (by decide) ?_
    refine lv_iload_n hx hb d_XF_takes_62 rfl (lv_at hl 1 rfl) ?_
    refine lv_bipush (v := (44 : Int32)) hx hb d_XF_takes_63 (by decide) ?_
    refine lv_icmp_ne (tgt := 75) hx hb d_XF_takes_65 (by decide) (fun c_40 => ?_) (fun c_40 => ?_)
    · have hw := hw.2 c_40
      refine lv_aload_n hx hb d_XF_takes_75 rfl (lv_at hl 0 rfl) ?_
      refine lv_iload_n hx hb d_XF_takes_76 rfl (lv_at hl 1 rfl) ?_
      refine lv_ldc (v := (99999 : Int32)) hx hb hown (hts _ k_213) d_XF_takes_77 ?_
      refine jn_i C0 hP hD hS [0] [1, 2] (ru_V C0 (As := [.int a_1, .int (99999 : Int32)]) (rest := []) (c_XF_takesDigit l hl9 dC dI cI cJ cZ q_0 q_text q_prices q_percents q_newPrices q_newPercents a_1 (99999 : Int32) v_length v_clauses v_newClauses v_state v_subject v_number v_digits _ hw _) k_197 k_198 k_199 k_200 k_50 (n9 := 2) (by decide +kernel) rfl (ci := 5) rfl rfl ⟨Nat.le_of_ble_eq_true rfl, Nat.le_of_ble_eq_true rfl⟩ hP hD hS [0] rfl (by decide) hl.1 rfl (Nat.le_of_ble_eq_true rfl) d_XF_takes_79 ⟨Nat.le_of_ble_eq_true rfl, Nat.le_of_ble_eq_true rfl⟩) rfl rfl (by decide) (by decide) (fun r_41 u H locs hw hP hD hS => ?_)
      obtain ⟨x_42, x_43⟩ := u
      try dsimp only at hw
      have hP : va_P (dC, dI) classes [(q_newPrices, .inl (cI, 5, .inl v_newPrices)), (q_newPercents, .inl (cI, 10, .inl v_newPercents)), (q_0, .inr (5, [.ref q_text, .int v_length, .ref q_prices, .ref q_percents, .int v_clauses, .ref q_newPrices, .ref q_newPercents, .int v_newClauses, .int v_state, .int v_subject, .int x_42, .int x_43]))] H := hP
      have hD : va_D A [(q_newPrices, .inl (cI, 5, .inl v_newPrices)), (q_newPercents, .inl (cI, 10, .inl v_newPercents)), (q_0, .inr (5, [.ref q_text, .int v_length, .ref q_prices, .ref q_percents, .int v_clauses, .ref q_newPrices, .ref q_newPercents, .int v_newClauses, .int v_state, .int v_subject, .int x_42, .int x_43]))] := hD
      obtain ⟨h_44, hw⟩ := hw
      exact rt_z (u := (v_newPrices, v_newPercents, v_newClauses, v_state, v_subject, x_42, x_43)) C0 (nar_z h_44) hw (hP.sub [2, 0, 1] rfl) (hD.sub [2, 0, 1] (by decide) rfl) hS (by decide) (by decide) d_XF_takes_82
    · have hw := hw.1 c_40
      refine lv_aload_n hx hb d_XF_takes_68 rfl (lv_at hl 0 rfl) ?_
      refine jn_i C0 hP hD hS [0, 1, 2] [] (ru_V C0 (As := []) (rest := []) (c_XF_beginsNext l hl9 dC dI cI cJ cZ q_0 q_newPrices q_newPercents q_text q_prices q_percents v_length v_clauses v_newPrices v_newPercents v_newClauses v_state v_subject v_number v_digits _ hw _) k_201 k_202 k_203 k_204 k_50 (n9 := 0) (by decide +kernel) rfl (ci := 5) rfl rfl ⟨Nat.le_of_ble_eq_true rfl, Nat.le_of_ble_eq_true rfl⟩ hP hD hS [0, 1, 2] rfl (by decide) hl.1 rfl (Nat.le_of_ble_eq_true rfl) d_XF_takes_69 ⟨Nat.le_of_ble_eq_true rfl, Nat.le_of_ble_eq_true rfl⟩) rfl rfl (by decide) (by decide) (fun r_45 u H locs hw hP hD hS => ?_)
      obtain ⟨f_46, f_47, x_48, x_49⟩ := u
      try dsimp only at hw
      have hP : va_P (dC, dI) classes [(q_0, .inr (5, [.ref q_text, .int v_length, .ref q_prices, .ref q_percents, .int v_clauses, .ref q_newPrices, .ref q_newPercents, .int x_48, .int x_49, .int v_subject, .int v_number, .int v_digits])), (q_newPrices, .inl (cI, 5, .inl f_46)), (q_newPercents, .inl (cI, 10, .inl f_47))] H := hP
      have hD : va_D A [(q_0, .inr (5, [.ref q_text, .int v_length, .ref q_prices, .ref q_percents, .int v_clauses, .ref q_newPrices, .ref q_newPercents, .int x_48, .int x_49, .int v_subject, .int v_number, .int v_digits])), (q_newPrices, .inl (cI, 5, .inl f_46)), (q_newPercents, .inl (cI, 10, .inl f_47))] := hD
      refine lv_goto (tgt := 82) hx hb d_XF_takes_72 (by decide) ?_
      obtain ⟨h_50, hw⟩ := hw
      exact rt_z (u := (f_46, f_47, x_48, x_49, v_subject, v_number, v_digits)) C0 (nar_z h_50) hw hP hD hS (by decide) (by decide) d_XF_takes_82
  have hw := hw.2 c_39
  by_cases c_51 : v_state = (3 : Int32)
  · have hw := hw.1 c_51
    refine lv_tableIn (off := 79) (tgt := 83) hx hb d_XF_takes_4 (by rw [c_51]; decide) (by rw [c_51]; decide) (by rw [c_51]; decide) (by decide) ?_
    refine lv_iload_n hx hb d_XF_takes_83 rfl (lv_at hl 1 rfl) ?_
    refine lv_bipush (v := (45 : Int32)) hx hb d_XF_takes_84 (by decide) ?_
    refine lv_icmp_ne (tgt := 96) hx hb d_XF_takes_86 (by decide) (fun c_52 => ?_) (fun c_52 => ?_)
    · have hw := hw.2 c_52
      refine lv_aload_n hx hb d_XF_takes_96 rfl (lv_at hl 0 rfl) ?_
      refine lv_iload_n hx hb d_XF_takes_97 rfl (lv_at hl 1 rfl) ?_
      refine jn_i C0 hP hD hS [0] [1, 2] (ru_V C0 (As := [.int a_1]) (rest := []) (c_XF_takesGroupDigit l hl9 dC dI cI cJ cZ q_0 q_text q_prices q_percents q_newPrices q_newPercents a_1 v_length v_clauses v_newClauses v_state v_subject v_number v_digits _ hw _) k_214 k_215 k_216 k_217 k_50 (n9 := 1) (by decide +kernel) rfl (ci := 5) rfl rfl ⟨Nat.le_of_ble_eq_true rfl, Nat.le_of_ble_eq_true rfl⟩ hP hD hS [0] rfl (by decide) hl.1 rfl (Nat.le_of_ble_eq_true rfl) d_XF_takes_98 ⟨Nat.le_of_ble_eq_true rfl, Nat.le_of_ble_eq_true rfl⟩) rfl rfl (by decide) (by decide) (fun r_53 u H locs hw hP hD hS => ?_)
      obtain ⟨x_54, x_55⟩ := u
      try dsimp only at hw
      have hP : va_P (dC, dI) classes [(q_newPrices, .inl (cI, 5, .inl v_newPrices)), (q_newPercents, .inl (cI, 10, .inl v_newPercents)), (q_0, .inr (5, [.ref q_text, .int v_length, .ref q_prices, .ref q_percents, .int v_clauses, .ref q_newPrices, .ref q_newPercents, .int v_newClauses, .int v_state, .int v_subject, .int x_54, .int x_55]))] H := hP
      have hD : va_D A [(q_newPrices, .inl (cI, 5, .inl v_newPrices)), (q_newPercents, .inl (cI, 10, .inl v_newPercents)), (q_0, .inr (5, [.ref q_text, .int v_length, .ref q_prices, .ref q_percents, .int v_clauses, .ref q_newPrices, .ref q_newPercents, .int v_newClauses, .int v_state, .int v_subject, .int x_54, .int x_55]))] := hD
      obtain ⟨h_56, hw⟩ := hw
      exact rt_z (u := (v_newPrices, v_newPercents, v_newClauses, v_state, v_subject, x_54, x_55)) C0 (nar_z h_56) hw (hP.sub [2, 0, 1] rfl) (hD.sub [2, 0, 1] (by decide) rfl) hS (by decide) (by decide) d_XF_takes_101
    · have hw := hw.1 c_52
      refine lv_aload_n hx hb d_XF_takes_89 rfl (lv_at hl 0 rfl) ?_
      refine jn_i C0 hP hD hS [0] [1, 2] (ru_V C0 (As := []) (rest := []) (c_XF_endsGroup l hl9 dC dI cI cJ cZ q_0 q_text q_prices q_percents q_newPrices q_newPercents v_length v_clauses v_newClauses v_state v_subject v_number v_digits _ hw _) k_218 k_219 k_220 k_221 k_50 (n9 := 0) (by decide +kernel) rfl (ci := 5) rfl rfl ⟨Nat.le_of_ble_eq_true rfl, Nat.le_of_ble_eq_true rfl⟩ hP hD hS [0] rfl (by decide) hl.1 rfl (Nat.le_of_ble_eq_true rfl) d_XF_takes_90 ⟨Nat.le_of_ble_eq_true rfl, Nat.le_of_ble_eq_true rfl⟩) rfl rfl (by decide) (by decide) (fun r_57 u H locs hw hP hD hS => ?_)
      obtain ⟨x_58, x_59, x_60, x_61⟩ := u
      try dsimp only at hw
      have hP : va_P (dC, dI) classes [(q_newPrices, .inl (cI, 5, .inl v_newPrices)), (q_newPercents, .inl (cI, 10, .inl v_newPercents)), (q_0, .inr (5, [.ref q_text, .int v_length, .ref q_prices, .ref q_percents, .int v_clauses, .ref q_newPrices, .ref q_newPercents, .int v_newClauses, .int x_58, .int x_59, .int x_60, .int x_61]))] H := hP
      have hD : va_D A [(q_newPrices, .inl (cI, 5, .inl v_newPrices)), (q_newPercents, .inl (cI, 10, .inl v_newPercents)), (q_0, .inr (5, [.ref q_text, .int v_length, .ref q_prices, .ref q_percents, .int v_clauses, .ref q_newPrices, .ref q_newPercents, .int v_newClauses, .int x_58, .int x_59, .int x_60, .int x_61]))] := hD
      refine lv_goto (tgt := 101) hx hb d_XF_takes_93 (by decide) ?_
      obtain ⟨h_62, hw⟩ := hw
      exact rt_z (u := (v_newPrices, v_newPercents, v_newClauses, x_58, x_59, x_60, x_61)) C0 (nar_z h_62) hw (hP.sub [2, 0, 1] rfl) (hD.sub [2, 0, 1] (by decide) rfl) hS (by decide) (by decide) d_XF_takes_101
  have hw := hw.2 c_51
  exfalso
  have q1 : ¬ v_state.toInt < 0 := fun q => c_1 (Int32.lt_iff_toInt_lt.mpr (by rw [show (0 : Int32).toInt = 0 by decide]; exact q))
  have q2 : ¬ 3 < v_state.toInt := fun q => c_2 (Int32.lt_iff_toInt_lt.mpr (by rw [show (3 : Int32).toInt = 3 by decide]; exact q))
  have qc_25 := lv_neT c_25 (show (0 : Int32).toInt = 0 by decide)
  have qc_32 := lv_neT c_32 (show (1 : Int32).toInt = 1 by decide)
  have qc_39 := lv_neT c_39 (show (2 : Int32).toInt = 2 by decide)
  have qc_51 := lv_neT c_51 (show (3 : Int32).toInt = 3 by decide)
  omega
theorem d_XF_firstWrong_0 : decode b_XF_firstWrong 0 = .ok (.aload_n 0, 1) := by decide +kernel
theorem d_XF_firstWrong_1 : decode b_XF_firstWrong 1 = .ok (.getfield 21, 3) := by decide +kernel
theorem d_XF_firstWrong_4 : decode b_XF_firstWrong 4 = .ok (.iconst 0, 1) := by decide +kernel
theorem d_XF_firstWrong_5 : decode b_XF_firstWrong 5 = .ok (.invokestatic 47, 3) := by decide +kernel
theorem d_XF_firstWrong_8 : decode b_XF_firstWrong 8 = .ok (.aload_n 0, 1) := by decide +kernel
theorem d_XF_firstWrong_9 : decode b_XF_firstWrong 9 = .ok (.getfield 24, 3) := by decide +kernel
theorem d_XF_firstWrong_12 : decode b_XF_firstWrong 12 = .ok (.iconst 0, 1) := by decide +kernel
theorem d_XF_firstWrong_13 : decode b_XF_firstWrong 13 = .ok (.invokestatic 47, 3) := by decide +kernel
theorem d_XF_firstWrong_16 : decode b_XF_firstWrong 16 = .ok (.aload_n 0, 1) := by decide +kernel
theorem d_XF_firstWrong_17 : decode b_XF_firstWrong 17 = .ok (.iconst 0, 1) := by decide +kernel
theorem d_XF_firstWrong_18 : decode b_XF_firstWrong 18 = .ok (.putfield 41, 3) := by decide +kernel
theorem d_XF_firstWrong_21 : decode b_XF_firstWrong 21 = .ok (.aload_n 0, 1) := by decide +kernel
theorem d_XF_firstWrong_22 : decode b_XF_firstWrong 22 = .ok (.iconst 0, 1) := by decide +kernel
theorem d_XF_firstWrong_23 : decode b_XF_firstWrong 23 = .ok (.putfield 53, 3) := by decide +kernel
theorem d_XF_firstWrong_26 : decode b_XF_firstWrong 26 = .ok (.iload_n 1, 1) := by decide +kernel
theorem d_XF_firstWrong_27 : decode b_XF_firstWrong 27 = .ok (.ifCond .ne 5, 3) := by decide +kernel
theorem d_XF_firstWrong_30 : decode b_XF_firstWrong 30 = .ok (.iconst (-1), 1) := by decide +kernel
theorem d_XF_firstWrong_31 : decode b_XF_firstWrong 31 = .ok (.ireturn, 1) := by decide +kernel
theorem d_XF_firstWrong_32 : decode b_XF_firstWrong 32 = .ok (.iconst 0, 1) := by decide +kernel
theorem d_XF_firstWrong_33 : decode b_XF_firstWrong 33 = .ok (.istore_n 2, 1) := by decide +kernel
theorem d_XF_firstWrong_34 : decode b_XF_firstWrong 34 = .ok (.iload_n 2, 1) := by decide +kernel
theorem d_XF_firstWrong_35 : decode b_XF_firstWrong 35 = .ok (.iload_n 1, 1) := by decide +kernel
theorem d_XF_firstWrong_36 : decode b_XF_firstWrong 36 = .ok (.if_icmp .ge 24, 3) := by decide +kernel
theorem d_XF_firstWrong_39 : decode b_XF_firstWrong 39 = .ok (.aload_n 0, 1) := by decide +kernel
theorem d_XF_firstWrong_40 : decode b_XF_firstWrong 40 = .ok (.aload_n 0, 1) := by decide +kernel
theorem d_XF_firstWrong_41 : decode b_XF_firstWrong 41 = .ok (.getfield 9, 3) := by decide +kernel
theorem d_XF_firstWrong_44 : decode b_XF_firstWrong 44 = .ok (.iload_n 2, 1) := by decide +kernel
theorem d_XF_firstWrong_45 : decode b_XF_firstWrong 45 = .ok (.iaload, 1) := by decide +kernel
theorem d_XF_firstWrong_46 : decode b_XF_firstWrong 46 = .ok (.invokevirtual 56, 3) := by decide +kernel
theorem d_XF_firstWrong_49 : decode b_XF_firstWrong 49 = .ok (.ifCond .ne 5, 3) := by decide +kernel
theorem d_XF_firstWrong_52 : decode b_XF_firstWrong 52 = .ok (.iload_n 2, 1) := by decide +kernel
theorem d_XF_firstWrong_53 : decode b_XF_firstWrong 53 = .ok (.ireturn, 1) := by decide +kernel
theorem d_XF_firstWrong_54 : decode b_XF_firstWrong 54 = .ok (.iinc 2 1, 3) := by decide +kernel
theorem d_XF_firstWrong_57 : decode b_XF_firstWrong 57 = .ok (.goto (-23), 3) := by decide +kernel
theorem d_XF_firstWrong_60 : decode b_XF_firstWrong 60 = .ok (.aload_n 0, 1) := by decide +kernel
theorem d_XF_firstWrong_61 : decode b_XF_firstWrong 61 = .ok (.invokevirtual 60, 3) := by decide +kernel
theorem d_XF_firstWrong_64 : decode b_XF_firstWrong 64 = .ok (.ifCond .eq 7, 3) := by decide +kernel
theorem d_XF_firstWrong_67 : decode b_XF_firstWrong 67 = .ok (.iconst (-1), 1) := by decide +kernel
theorem d_XF_firstWrong_68 : decode b_XF_firstWrong 68 = .ok (.goto 4, 3) := by decide +kernel
theorem d_XF_firstWrong_71 : decode b_XF_firstWrong 71 = .ok (.iload_n 1, 1) := by decide +kernel
theorem d_XF_firstWrong_72 : decode b_XF_firstWrong 72 = .ok (.ireturn, 1) := by decide +kernel
def gl_XF_firstWrong_34 (p : Program) (l : Launch) (e : Env) (s : State) (m : MethodId) (args : Array Value) (below : List Frame) (meth : Method) (c : Code) (R : Room) (A : Nat → Prop) (Q : State → Prop) (dC : Nat → ClassId) (dI : Nat → Nat → Nat) (cI cJ cZ : ClassId) (q_0 q_text q_newPrices q_newPercents q_prices q_percents : Nat) (v_text : Nat → Int32) (v_length : Int32) (v_clauses : Int32) (l_1 : Int32) (l_2 : Int32) (v_newPrices : Nat → Int32) (v_newPercents : Nat → Int32) (v_newClauses : Int32) (v_state : Int32) (v_subject : Int32) (v_number : Int32) (v_digits : Int32) : Prop :=
  ∀ (H : Heap) (locs : List Loc), va_P (dC, dI) classes [(q_0, .inr (5, [.ref q_text, .int v_length, .ref q_prices, .ref q_percents, .int v_clauses, .ref q_newPrices, .ref q_newPercents, .int v_newClauses, .int v_state, .int v_subject, .int v_number, .int v_digits])), (q_text, .inl (cI, 60, .inl v_text)), (q_newPrices, .inl (cI, 5, .inl v_newPrices)), (q_newPercents, .inl (cI, 10, .inl v_newPercents))] H → va_D A [(q_0, .inr (5, [.ref q_text, .int v_length, .ref q_prices, .ref q_percents, .int v_clauses, .ref q_newPrices, .ref q_newPercents, .int v_newClauses, .int v_state, .int v_subject, .int v_number, .int v_digits])), (q_text, .inl (cI, 60, .inl v_text)), (q_newPrices, .inl (cI, 5, .inl v_newPrices)), (q_newPercents, .inl (cI, 10, .inl v_newPercents))] → va_S A s.heap H locs → ∀ ls : Array Slot, lv_has ls 3 [(0, .ref q_0), (1, .int l_1), (2, .int l_2)] → W p l e R s m args below meth c H locs 0 0 Q (F0 m 34 ls [])
def wp_XF_firstWrong_34 (post : Int32 → ((Nat → Int32) × (Nat → Int32) × (Int32) × (Int32) × (Int32) × (Int32) × (Int32)) → Prop) (v_text : Nat → Int32) : Nat → Int32 → Int32 → (Nat → Int32) → (Nat → Int32) → Int32 → Int32 → Int32 → Int32 → Int32 → Prop
  | 0 => fun _ _ _ _ _ _ _ _ _ => False
  | n_34 + 1 => fun l_1 l_2 v_newPrices v_newPercents v_newClauses v_state v_subject v_number v_digits => ((l_1 ≤ l_2 → wp_XF_endsClause (fun r_5 u => match u with | (f_6, f_7, x_8) => ((r_5 = 0 → post l_1 (f_6, f_7, x_8, v_state, v_subject, v_number, v_digits)) ∧ (¬ (r_5 = 0) → post (-1 : Int32) (f_6, f_7, x_8, v_state, v_subject, v_number, v_digits)))) v_newPrices v_newPercents v_newClauses v_state v_subject v_number v_digits) ∧ (¬ (l_1 ≤ l_2) → (vp_in l_2 60 ∧ wp_XF_takes (fun r_11 u => match u with | (f_12, f_13, x_14, x_15, x_16, x_17, x_18) => ((r_11 = 0 → post l_2 (f_12, f_13, x_14, x_15, x_16, x_17, x_18)) ∧ (¬ (r_11 = 0) → (∀ x_20 : Int32, x_20 = l_2 + (1 : Int32) → (wp_XF_firstWrong_34 post v_text n_34) l_1 x_20 f_12 f_13 x_14 x_15 x_16 x_17 x_18)))) (v_text l_2.toNatClampNeg) v_newPrices v_newPercents v_newClauses v_state v_subject v_number v_digits)))
set_option maxHeartbeats 4000000 in
set_option maxRecDepth 100000 in
theorem t_XF_firstWrong_34 {p : Program} {l : Launch} {e : Env} {s : State} {m : MethodId} {args : Array Value} {below : List Frame} {meth : Method} {c : Code} {dC : Nat → ClassId} {dI : Nat → Nat → Nat} {cI cJ cZ : ClassId} {A : Nat → Prop} {q_0 : Nat} {q_text : Nat} {q_newPrices : Nat} {q_newPercents : Nat} {q_prices : Nat} {q_percents : Nat} {v_text : Nat → Int32} {v_length : Int32} {v_clauses : Int32} {post : Int32 → ((Nat → Int32) × (Nat → Int32) × (Int32) × (Int32) × (Int32) × (Int32) × (Int32)) → Prop} (C0 : cxM b_XF_firstWrong 3 (some .int) R_XF l dC dI cI cJ cZ A p s m args meth c) : ∀ (n_34 : Nat) (l_1 : Int32) (l_2 : Int32) (v_newPrices : Nat → Int32) (v_newPercents : Nat → Int32) (v_newClauses : Int32) (v_state : Int32) (v_subject : Int32) (v_number : Int32) (v_digits : Int32), wp_XF_firstWrong_34 post v_text n_34 l_1 l_2 v_newPrices v_newPercents v_newClauses v_state v_subject v_number v_digits → gl_XF_firstWrong_34 p l e s m args below meth c ({ frames := 4, cells := 0, slots := 0, locals := 83 } : Room) A (Qi below args s A dC dI cI cJ cZ ({ frames := 4, cells := 0, slots := 0, locals := 83 } : Room) post (fun u : (Nat → Int32) × (Nat → Int32) × (Int32) × (Int32) × (Int32) × (Int32) × (Int32) => [(q_0, .inr (5, [.ref q_text, .int v_length, .ref q_prices, .ref q_percents, .int v_clauses, .ref q_newPrices, .ref q_newPercents, .int u.2.2.1, .int u.2.2.2.1, .int u.2.2.2.2.1, .int u.2.2.2.2.2.1, .int u.2.2.2.2.2.2])), (q_text, .inl (cI, 60, .inl v_text)), (q_newPrices, .inl (cI, 5, .inl u.1)), (q_newPercents, .inl (cI, 10, .inl u.2.1))])) dC dI cI cJ cZ q_0 q_text q_newPrices q_newPercents q_prices q_percents v_text v_length v_clauses l_1 l_2 v_newPrices v_newPercents v_newClauses v_state v_subject v_number v_digits := by
  obtain ⟨hl9, hx, hb, hml, hr, hown, hts, hlocks, hK, hZ, hA, hNS⟩ := id C0
  intro n_34
  induction n_34 with
  | zero => intro _ _ _ _ _ _ _ _ _ hw; exact hw.elim
  | succ n_34 ih =>
    intro l_1 l_2 v_newPrices v_newPercents v_newClauses v_state v_subject v_number v_digits hw H locs hP hD hS ls hl
    refine lv_iload_n hx hb d_XF_firstWrong_34 rfl (lv_at hl 2 rfl) ?_
    refine lv_iload_n hx hb d_XF_firstWrong_35 rfl (lv_at hl 1 rfl) ?_
    refine lv_icmp_ge (tgt := 60) hx hb d_XF_firstWrong_36 (by decide) (fun c_4 => ?_) (fun c_4 => ?_)
    · have hw := hw.1 c_4
      refine lv_aload_n hx hb d_XF_firstWrong_60 rfl (lv_at hl 0 rfl) ?_
      refine jn_i C0 hP hD hS [0, 2, 3] [1] (ru_V C0 (As := []) (rest := []) (c_XF_endsClause l hl9 dC dI cI cJ cZ q_0 q_newPrices q_newPercents q_text q_prices q_percents v_length v_clauses v_newPrices v_newPercents v_newClauses v_state v_subject v_number v_digits _ hw _) k_193 k_194 k_195 k_196 k_50 (n9 := 0) (by decide +kernel) rfl (ci := 5) rfl rfl ⟨Nat.le_of_ble_eq_true rfl, Nat.le_of_ble_eq_true rfl⟩ hP hD hS [0, 2, 3] rfl (by decide) hl.1 rfl (Nat.le_of_ble_eq_true rfl) d_XF_firstWrong_61 ⟨Nat.le_of_ble_eq_true rfl, Nat.le_of_ble_eq_true rfl⟩) rfl rfl (by decide) (by decide) (fun r_5 u H locs hw hP hD hS => ?_)
      obtain ⟨f_6, f_7, x_8⟩ := u
      try dsimp only at hw
      have hP : va_P (dC, dI) classes [(q_text, .inl (cI, 60, .inl v_text)), (q_0, .inr (5, [.ref q_text, .int v_length, .ref q_prices, .ref q_percents, .int v_clauses, .ref q_newPrices, .ref q_newPercents, .int x_8, .int v_state, .int v_subject, .int v_number, .int v_digits])), (q_newPrices, .inl (cI, 5, .inl f_6)), (q_newPercents, .inl (cI, 10, .inl f_7))] H := hP
      have hD : va_D A [(q_text, .inl (cI, 60, .inl v_text)), (q_0, .inr (5, [.ref q_text, .int v_length, .ref q_prices, .ref q_percents, .int v_clauses, .ref q_newPrices, .ref q_newPercents, .int x_8, .int v_state, .int v_subject, .int v_number, .int v_digits])), (q_newPrices, .inl (cI, 5, .inl f_6)), (q_newPercents, .inl (cI, 10, .inl f_7))] := hD
      refine lv_if_eq (tgt := 71) hx hb d_XF_firstWrong_64 (by decide) (fun c_9 => ?_) (fun c_9 => ?_)
      · have hw := hw.1 c_9
        refine lv_iload_n hx hb d_XF_firstWrong_71 rfl (lv_at hl 1 rfl) ?_
        exact rt_i (u := (f_6, f_7, x_8, v_state, v_subject, v_number, v_digits)) C0 hw (hP.sub [1, 0, 2, 3] rfl) (hD.sub [1, 0, 2, 3] (by decide) rfl) hS (by decide) (by decide) d_XF_firstWrong_72
      · have hw := hw.2 c_9
        refine lv_iconst (v := (-1 : Int32)) hx hb d_XF_firstWrong_67 (by decide) ?_
        refine lv_goto (tgt := 72) hx hb d_XF_firstWrong_68 (by decide) ?_
        exact rt_i (u := (f_6, f_7, x_8, v_state, v_subject, v_number, v_digits)) C0 hw (hP.sub [1, 0, 2, 3] rfl) (hD.sub [1, 0, 2, 3] (by decide) rfl) hS (by decide) (by decide) d_XF_firstWrong_72
    · have hw := hw.2 c_4
      refine lv_aload_n hx hb d_XF_firstWrong_39 rfl (lv_at hl 0 rfl) ?_
      refine lv_aload_n hx hb d_XF_firstWrong_40 rfl (lv_at hl 0 rfl) ?_
      refine va_get (D := (dC, dI)) (ci := 5) (v := .ref q_text) (C := R_XF) (T := F_XF) (N := 12) hx hb hts i_XF hown hK hP 0 rfl rfl 0 (by decide) (hts _ k_52) (fun _ h9 => h9) rfl d_XF_firstWrong_41 ?_
      refine lv_iload_n hx hb d_XF_firstWrong_44 rfl (lv_at hl 2 rfl) ?_
      obtain ⟨h_10, hw⟩ := hw
      refine va_iald hx hb hK hP 1 0 rfl rfl h_10 d_XF_firstWrong_45 ?_
      refine jn_i C0 hP hD hS [0, 2, 3] [1] (ru_V C0 (As := [.int (v_text l_2.toNatClampNeg)]) (rest := []) (c_XF_takes l hl9 dC dI cI cJ cZ q_0 q_newPrices q_newPercents q_text q_prices q_percents (v_text l_2.toNatClampNeg) v_length v_clauses v_newPrices v_newPercents v_newClauses v_state v_subject v_number v_digits _ hw _) k_222 k_223 k_224 k_225 k_50 (n9 := 1) (by decide +kernel) rfl (ci := 5) rfl rfl ⟨Nat.le_of_ble_eq_true rfl, Nat.le_of_ble_eq_true rfl⟩ hP hD hS [0, 2, 3] rfl (by decide) hl.1 rfl (Nat.le_of_ble_eq_true rfl) d_XF_firstWrong_46 ⟨Nat.le_of_ble_eq_true rfl, Nat.le_of_ble_eq_true rfl⟩) rfl rfl (by decide) (by decide) (fun r_11 u H locs hw hP hD hS => ?_)
      obtain ⟨f_12, f_13, x_14, x_15, x_16, x_17, x_18⟩ := u
      try dsimp only at hw
      have hP : va_P (dC, dI) classes [(q_text, .inl (cI, 60, .inl v_text)), (q_0, .inr (5, [.ref q_text, .int v_length, .ref q_prices, .ref q_percents, .int v_clauses, .ref q_newPrices, .ref q_newPercents, .int x_14, .int x_15, .int x_16, .int x_17, .int x_18])), (q_newPrices, .inl (cI, 5, .inl f_12)), (q_newPercents, .inl (cI, 10, .inl f_13))] H := hP
      have hD : va_D A [(q_text, .inl (cI, 60, .inl v_text)), (q_0, .inr (5, [.ref q_text, .int v_length, .ref q_prices, .ref q_percents, .int v_clauses, .ref q_newPrices, .ref q_newPercents, .int x_14, .int x_15, .int x_16, .int x_17, .int x_18])), (q_newPrices, .inl (cI, 5, .inl f_12)), (q_newPercents, .inl (cI, 10, .inl f_13))] := hD
      refine lv_if_ne (tgt := 54) hx hb d_XF_firstWrong_49 (by decide) (fun c_19 => ?_) (fun c_19 => ?_)
      · have hw := hw.2 c_19
        obtain ⟨x_20, ex_20⟩ : ∃ y : Int32, y = l_2 + (1 : Int32) := ⟨_, rfl⟩
        have hw := hw x_20 ex_20
        refine lv_iinc (v := x_20) (lv' := [(2, .int x_20), (0, .ref q_0), (1, .int l_1)]) hx hb d_XF_firstWrong_54 hl (k := 2) rfl (by rw [ex_20]; rfl) (by decide) rfl (fun ls hl => ?_)
        refine lv_goto (tgt := 34) hx hb d_XF_firstWrong_57 (by decide) ?_
        exact ih l_1 x_20 f_12 f_13 x_14 x_15 x_16 x_17 x_18 hw _ _ (hP.sub [1, 0, 2, 3] rfl) (hD.sub [1, 0, 2, 3] (by decide) rfl) hS _ (lv_sub hl [1, 2, 0] rfl)
      · have hw := hw.1 c_19
        refine lv_iload_n hx hb d_XF_firstWrong_52 rfl (lv_at hl 2 rfl) ?_
        exact rt_i (u := (f_12, f_13, x_14, x_15, x_16, x_17, x_18)) C0 hw (hP.sub [1, 0, 2, 3] rfl) (hD.sub [1, 0, 2, 3] (by decide) rfl) hS (by decide) (by decide) d_XF_firstWrong_53
def wp_XF_firstWrong (post : Int32 → ((Nat → Int32) × (Nat → Int32) × (Int32) × (Int32) × (Int32) × (Int32) × (Int32)) → Prop) (a_1 : Int32) (v_text : Nat → Int32) (v_newPrices : Nat → Int32) (v_newPercents : Nat → Int32) (v_newClauses : Int32) (v_state : Int32) (v_subject : Int32) (v_number : Int32) (v_digits : Int32) : Prop := wp_JA_fill_aIIV (fun f_1 => wp_JA_fill_aIIV (fun f_2 => ((a_1 = 0 → post (-1 : Int32) (f_1, f_2, (0 : Int32), (0 : Int32), v_subject, v_number, v_digits)) ∧ (¬ (a_1 = 0) → ∃ n_34, wp_XF_firstWrong_34 post v_text n_34 a_1 (0 : Int32) f_1 f_2 (0 : Int32) (0 : Int32) v_subject v_number v_digits))) 10 (0 : Int32) v_newPercents) 5 (0 : Int32) v_newPrices
set_option maxHeartbeats 4000000 in
set_option maxRecDepth 100000 in
theorem c_XF_firstWrong (l : Launch) (hl9 : l.stackTraces = false) (dC : Nat → ClassId) (dI : Nat → Nat → Nat) (cI cJ cZ : ClassId) (q_0 q_text q_newPrices q_newPercents q_prices q_percents : Nat) (a_1 : Int32) (v_text : Nat → Int32) (v_length : Int32) (v_clauses : Int32) (v_newPrices : Nat → Int32) (v_newPercents : Nat → Int32) (v_newClauses : Int32) (v_state : Int32) (v_subject : Int32) (v_number : Int32) (v_digits : Int32) (post : Int32 → ((Nat → Int32) × (Nat → Int32) × (Int32) × (Int32) × (Int32) × (Int32) × (Int32)) → Prop) (hw : wp_XF_firstWrong post a_1 v_text v_newPrices v_newPercents v_newClauses v_state v_subject v_number v_digits) : Ki l y_XF_firstWrong b_XF_firstWrong 3 (some .int) ({ frames := 4, cells := 0, slots := 0, locals := 83 } : Room) dC dI cI cJ cZ [.ref q_0, .int a_1] [(q_0, .inr (5, [.ref q_text, .int v_length, .ref q_prices, .ref q_percents, .int v_clauses, .ref q_newPrices, .ref q_newPercents, .int v_newClauses, .int v_state, .int v_subject, .int v_number, .int v_digits])), (q_text, .inl (cI, 60, .inl v_text)), (q_newPrices, .inl (cI, 5, .inl v_newPrices)), (q_newPercents, .inl (cI, 10, .inl v_newPercents))] post (fun u : (Nat → Int32) × (Nat → Int32) × (Int32) × (Int32) × (Int32) × (Int32) × (Int32) => [(q_0, .inr (5, [.ref q_text, .int v_length, .ref q_prices, .ref q_percents, .int v_clauses, .ref q_newPrices, .ref q_newPercents, .int u.2.2.1, .int u.2.2.2.1, .int u.2.2.2.2.1, .int u.2.2.2.2.2.1, .int u.2.2.2.2.2.2])), (q_text, .inl (cI, 60, .inl v_text)), (q_newPrices, .inl (cI, 5, .inl u.1)), (q_newPercents, .inl (cI, 10, .inl u.2.1))]) := by
  refine mki hl9 (own := R_XF) rfl (by decide) ?_
  intro p e s m args below meth c A C0 hnm eav hP hD
  obtain ⟨-, hx, hb, hml, hr, hown, hts, hlocks, hK, hZ, hA, hNS⟩ := id C0
  subst eav
  have hS : va_S A s.heap s.heap [] := va_S.rf
  have hl := lv_entry ([.ref q_0, .int a_1]) (n := 3) (Nat.le_of_ble_eq_true rfl)
  rw [lg_entry_eq]
  generalize (lg_sl ([.ref q_0, .int a_1]) ++ List.replicate (3 - (lg_sl ([.ref q_0, .int a_1])).length) Slot.unset).toArray = ls at hl ⊢
  have hl : lv_has ls 3 [(0, .ref q_0), (1, .int a_1)] := hl
  unfold wp_XF_firstWrong at hw
  refine lv_aload_n hx hb d_XF_firstWrong_0 rfl (lv_at hl 0 rfl) ?_
  refine va_get (D := (dC, dI)) (ci := 5) (v := .ref q_newPrices) (C := R_XF) (T := F_XF) (N := 12) hx hb hts i_XF hown hK hP 0 rfl rfl 5 (by decide) (hts _ k_55) (fun _ h9 => h9) rfl d_XF_firstWrong_1 ?_
  refine lv_iconst (v := (0 : Int32)) hx hb d_XF_firstWrong_4 (by decide) ?_
  refine jn_v C0 hP hD hS [2] [0, 1, 3] (ru_SO C0 (As := [.ref q_newPrices, .int (0 : Int32)]) (rest := []) (c_JA_fill_aIIV l hl9 dC dI cI cJ cZ q_newPrices 5 (0 : Int32) v_newPrices _ hw _) k_69 k_183 k_71 k_72 (n9 := 2) (by decide +kernel) rfl ⟨Nat.le_of_ble_eq_true rfl, Nat.le_of_ble_eq_true rfl⟩ hP hD hS [2] rfl (by decide) hl.1 rfl (Nat.le_of_ble_eq_true rfl) d_XF_firstWrong_5 ⟨Nat.le_of_ble_eq_true rfl, Nat.le_of_ble_eq_true rfl⟩) rfl rfl (by decide) (by decide) (fun u H locs hw hP hD hS => ?_)
  obtain ⟨f_1, rfl⟩ : ∃ z9, z9 = u := ⟨_, rfl⟩
  try dsimp only at hw
  have hP : va_P (dC, dI) classes [(q_0, .inr (5, [.ref q_text, .int v_length, .ref q_prices, .ref q_percents, .int v_clauses, .ref q_newPrices, .ref q_newPercents, .int v_newClauses, .int v_state, .int v_subject, .int v_number, .int v_digits])), (q_text, .inl (cI, 60, .inl v_text)), (q_newPercents, .inl (cI, 10, .inl v_newPercents)), (q_newPrices, .inl (cI, 5, .inl f_1))] H := hP
  have hD : va_D A [(q_0, .inr (5, [.ref q_text, .int v_length, .ref q_prices, .ref q_percents, .int v_clauses, .ref q_newPrices, .ref q_newPercents, .int v_newClauses, .int v_state, .int v_subject, .int v_number, .int v_digits])), (q_text, .inl (cI, 60, .inl v_text)), (q_newPercents, .inl (cI, 10, .inl v_newPercents)), (q_newPrices, .inl (cI, 5, .inl f_1))] := hD
  refine lv_aload_n hx hb d_XF_firstWrong_8 rfl (lv_at hl 0 rfl) ?_
  refine va_get (D := (dC, dI)) (ci := 5) (v := .ref q_newPercents) (C := R_XF) (T := F_XF) (N := 12) hx hb hts i_XF hown hK hP 0 rfl rfl 6 (by decide) (hts _ k_56) (fun _ h9 => h9) rfl d_XF_firstWrong_9 ?_
  refine lv_iconst (v := (0 : Int32)) hx hb d_XF_firstWrong_12 (by decide) ?_
  refine jn_v C0 hP hD hS [2] [0, 1, 3] (ru_SO C0 (As := [.ref q_newPercents, .int (0 : Int32)]) (rest := []) (c_JA_fill_aIIV l hl9 dC dI cI cJ cZ q_newPercents 10 (0 : Int32) v_newPercents _ hw _) k_69 k_183 k_71 k_72 (n9 := 2) (by decide +kernel) rfl ⟨Nat.le_of_ble_eq_true rfl, Nat.le_of_ble_eq_true rfl⟩ hP hD hS [2] rfl (by decide) hl.1 rfl (Nat.le_of_ble_eq_true rfl) d_XF_firstWrong_13 ⟨Nat.le_of_ble_eq_true rfl, Nat.le_of_ble_eq_true rfl⟩) rfl rfl (by decide) (by decide) (fun u H locs hw hP hD hS => ?_)
  obtain ⟨f_2, rfl⟩ : ∃ z9, z9 = u := ⟨_, rfl⟩
  try dsimp only at hw
  have hP : va_P (dC, dI) classes [(q_0, .inr (5, [.ref q_text, .int v_length, .ref q_prices, .ref q_percents, .int v_clauses, .ref q_newPrices, .ref q_newPercents, .int v_newClauses, .int v_state, .int v_subject, .int v_number, .int v_digits])), (q_text, .inl (cI, 60, .inl v_text)), (q_newPrices, .inl (cI, 5, .inl f_1)), (q_newPercents, .inl (cI, 10, .inl f_2))] H := hP
  have hD : va_D A [(q_0, .inr (5, [.ref q_text, .int v_length, .ref q_prices, .ref q_percents, .int v_clauses, .ref q_newPrices, .ref q_newPercents, .int v_newClauses, .int v_state, .int v_subject, .int v_number, .int v_digits])), (q_text, .inl (cI, 60, .inl v_text)), (q_newPrices, .inl (cI, 5, .inl f_1)), (q_newPercents, .inl (cI, 10, .inl f_2))] := hD
  refine lv_aload_n hx hb d_XF_firstWrong_16 rfl (lv_at hl 0 rfl) ?_
  refine lv_iconst (v := (0 : Int32)) hx hb d_XF_firstWrong_17 (by decide) ?_
  refine va_put (D := (dC, dI)) (ci := 5) (v := .int (0 : Int32)) (ty := .int) (C := R_XF) (T := F_XF) (N := 12) hx hb hts i_XF t_XF t_XF_ok n_XF hown hK hP hD hS 0 rfl rfl 7 (by decide) (hts _ k_184) (fun _ h9 => h9) rfl (by decide +kernel) rfl rfl (Nat.le_of_ble_eq_true rfl) d_XF_firstWrong_18 (fun H locs hP hD hS => ?_)
  have hP : va_P (dC, dI) classes [(q_0, .inr (5, [.ref q_text, .int v_length, .ref q_prices, .ref q_percents, .int v_clauses, .ref q_newPrices, .ref q_newPercents, .int (0 : Int32), .int v_state, .int v_subject, .int v_number, .int v_digits])), (q_text, .inl (cI, 60, .inl v_text)), (q_newPrices, .inl (cI, 5, .inl f_1)), (q_newPercents, .inl (cI, 10, .inl f_2))] H := hP
  have hD : va_D A [(q_0, .inr (5, [.ref q_text, .int v_length, .ref q_prices, .ref q_percents, .int v_clauses, .ref q_newPrices, .ref q_newPercents, .int (0 : Int32), .int v_state, .int v_subject, .int v_number, .int v_digits])), (q_text, .inl (cI, 60, .inl v_text)), (q_newPrices, .inl (cI, 5, .inl f_1)), (q_newPercents, .inl (cI, 10, .inl f_2))] := hD
  refine lv_aload_n hx hb d_XF_firstWrong_21 rfl (lv_at hl 0 rfl) ?_
  refine lv_iconst (v := (0 : Int32)) hx hb d_XF_firstWrong_22 (by decide) ?_
  refine va_put (D := (dC, dI)) (ci := 5) (v := .int (0 : Int32)) (ty := .int) (C := R_XF) (T := F_XF) (N := 12) hx hb hts i_XF t_XF t_XF_ok n_XF hown hK hP hD hS 0 rfl rfl 8 (by decide) (hts _ k_185) (fun _ h9 => h9) rfl (by decide +kernel) rfl rfl (Nat.le_of_ble_eq_true rfl) d_XF_firstWrong_23 (fun H locs hP hD hS => ?_)
  have hP : va_P (dC, dI) classes [(q_0, .inr (5, [.ref q_text, .int v_length, .ref q_prices, .ref q_percents, .int v_clauses, .ref q_newPrices, .ref q_newPercents, .int (0 : Int32), .int (0 : Int32), .int v_subject, .int v_number, .int v_digits])), (q_text, .inl (cI, 60, .inl v_text)), (q_newPrices, .inl (cI, 5, .inl f_1)), (q_newPercents, .inl (cI, 10, .inl f_2))] H := hP
  have hD : va_D A [(q_0, .inr (5, [.ref q_text, .int v_length, .ref q_prices, .ref q_percents, .int v_clauses, .ref q_newPrices, .ref q_newPercents, .int (0 : Int32), .int (0 : Int32), .int v_subject, .int v_number, .int v_digits])), (q_text, .inl (cI, 60, .inl v_text)), (q_newPrices, .inl (cI, 5, .inl f_1)), (q_newPercents, .inl (cI, 10, .inl f_2))] := hD
  refine lv_iload_n hx hb d_XF_firstWrong_26 rfl (lv_at hl 1 rfl) ?_
  refine lv_if_ne (tgt := 32) hx hb d_XF_firstWrong_27 (by decide) (fun c_3 => ?_) (fun c_3 => ?_)
  · have hw := hw.2 c_3
    refine lv_iconst (v := (0 : Int32)) hx hb d_XF_firstWrong_32 (by decide) ?_
    refine lv_istore_n (lv' := [(2, .int (0 : Int32)), (0, .ref q_0), (1, .int a_1)]) hx hb d_XF_firstWrong_33 rfl hl (by decide) rfl (fun ls hl => ?_)
    obtain ⟨n_34, hw⟩ := hw
    exact t_XF_firstWrong_34 (post := post) C0 n_34 a_1 (0 : Int32) f_1 f_2 (0 : Int32) (0 : Int32) v_subject v_number v_digits hw _ _ hP hD hS _ (lv_sub hl [1, 2, 0] rfl)
  · have hw := hw.1 c_3
    refine lv_iconst (v := (-1 : Int32)) hx hb d_XF_firstWrong_30 (by decide) ?_
    exact rt_i (u := (f_1, f_2, (0 : Int32), (0 : Int32), v_subject, v_number, v_digits)) C0 hw hP hD hS (by decide) (by decide) d_XF_firstWrong_31
theorem d_XF_adopt_0 : decode b_XF_adopt 0 = .ok (.aload_n 0, 1) := by decide +kernel
theorem d_XF_adopt_1 : decode b_XF_adopt 1 = .ok (.getfield 27, 3) := by decide +kernel
theorem d_XF_adopt_4 : decode b_XF_adopt 4 = .ok (.istore_n 1, 1) := by decide +kernel
theorem d_XF_adopt_5 : decode b_XF_adopt 5 = .ok (.aload_n 0, 1) := by decide +kernel
theorem d_XF_adopt_6 : decode b_XF_adopt 6 = .ok (.iconst 0, 1) := by decide +kernel
theorem d_XF_adopt_7 : decode b_XF_adopt 7 = .ok (.putfield 27, 3) := by decide +kernel
theorem d_XF_adopt_10 : decode b_XF_adopt 10 = .ok (.aload_n 0, 1) := by decide +kernel
theorem d_XF_adopt_11 : decode b_XF_adopt 11 = .ok (.iload_n 1, 1) := by decide +kernel
theorem d_XF_adopt_12 : decode b_XF_adopt 12 = .ok (.invokevirtual 31, 3) := by decide +kernel
theorem d_XF_adopt_15 : decode b_XF_adopt 15 = .ok (.istore_n 2, 1) := by decide +kernel
theorem d_XF_adopt_16 : decode b_XF_adopt 16 = .ok (.iload_n 2, 1) := by decide +kernel
theorem d_XF_adopt_17 : decode b_XF_adopt 17 = .ok (.iconst (-1), 1) := by decide +kernel
theorem d_XF_adopt_18 : decode b_XF_adopt 18 = .ok (.if_icmp .eq 7, 3) := by decide +kernel
theorem d_XF_adopt_21 : decode b_XF_adopt 21 = .ok (.iconst (-1), 1) := by decide +kernel
theorem d_XF_adopt_22 : decode b_XF_adopt 22 = .ok (.iload_n 2, 1) := by decide +kernel
theorem d_XF_adopt_23 : decode b_XF_adopt 23 = .ok (.isub, 1) := by decide +kernel
theorem d_XF_adopt_24 : decode b_XF_adopt 24 = .ok (.ireturn, 1) := by decide +kernel
theorem d_XF_adopt_25 : decode b_XF_adopt 25 = .ok (.aload_n 0, 1) := by decide +kernel
theorem d_XF_adopt_26 : decode b_XF_adopt 26 = .ok (.getfield 21, 3) := by decide +kernel
theorem d_XF_adopt_29 : decode b_XF_adopt 29 = .ok (.iconst 0, 1) := by decide +kernel
theorem d_XF_adopt_30 : decode b_XF_adopt 30 = .ok (.aload_n 0, 1) := by decide +kernel
theorem d_XF_adopt_31 : decode b_XF_adopt 31 = .ok (.getfield 15, 3) := by decide +kernel
theorem d_XF_adopt_34 : decode b_XF_adopt 34 = .ok (.iconst 0, 1) := by decide +kernel
theorem d_XF_adopt_35 : decode b_XF_adopt 35 = .ok (.iconst 5, 1) := by decide +kernel
theorem d_XF_adopt_36 : decode b_XF_adopt 36 = .ok (.invokestatic 35, 3) := by decide +kernel
theorem d_XF_adopt_39 : decode b_XF_adopt 39 = .ok (.aload_n 0, 1) := by decide +kernel
theorem d_XF_adopt_40 : decode b_XF_adopt 40 = .ok (.getfield 24, 3) := by decide +kernel
theorem d_XF_adopt_43 : decode b_XF_adopt 43 = .ok (.iconst 0, 1) := by decide +kernel
theorem d_XF_adopt_44 : decode b_XF_adopt 44 = .ok (.aload_n 0, 1) := by decide +kernel
theorem d_XF_adopt_45 : decode b_XF_adopt 45 = .ok (.getfield 18, 3) := by decide +kernel
theorem d_XF_adopt_48 : decode b_XF_adopt 48 = .ok (.iconst 0, 1) := by decide +kernel
theorem d_XF_adopt_49 : decode b_XF_adopt 49 = .ok (.bipush 10, 2) := by decide +kernel
theorem d_XF_adopt_51 : decode b_XF_adopt 51 = .ok (.invokestatic 35, 3) := by decide +kernel
theorem d_XF_adopt_54 : decode b_XF_adopt 54 = .ok (.aload_n 0, 1) := by decide +kernel
theorem d_XF_adopt_55 : decode b_XF_adopt 55 = .ok (.aload_n 0, 1) := by decide +kernel
theorem d_XF_adopt_56 : decode b_XF_adopt 56 = .ok (.getfield 41, 3) := by decide +kernel
theorem d_XF_adopt_59 : decode b_XF_adopt 59 = .ok (.putfield 44, 3) := by decide +kernel
theorem d_XF_adopt_62 : decode b_XF_adopt 62 = .ok (.aload_n 0, 1) := by decide +kernel
theorem d_XF_adopt_63 : decode b_XF_adopt 63 = .ok (.getfield 44, 3) := by decide +kernel
theorem d_XF_adopt_66 : decode b_XF_adopt 66 = .ok (.ireturn, 1) := by decide +kernel
def wp_XF_adopt (post : Int32 → ((Int32) × (Nat → Int32) × (Nat → Int32) × (Int32) × (Nat → Int32) × (Nat → Int32) × (Int32) × (Int32) × (Int32) × (Int32) × (Int32)) → Prop) (v_text : Nat → Int32) (v_length : Int32) (v_prices : Nat → Int32) (v_percents : Nat → Int32) (v_clauses : Int32) (v_newPrices : Nat → Int32) (v_newPercents : Nat → Int32) (v_newClauses : Int32) (v_state : Int32) (v_subject : Int32) (v_number : Int32) (v_digits : Int32) : Prop := wp_XF_firstWrong (fun r_1 u => match u with | (f_2, f_3, x_4, x_5, x_6, x_7, x_8) => ((r_1 = (-1 : Int32) → (∀ f_10 : Nat → Int32, f_10 = va_cpy f_2 v_prices (0 : Int32).toNatClampNeg (0 : Int32).toNatClampNeg (5 : Int32).toNatClampNeg → (∀ f_11 : Nat → Int32, f_11 = va_cpy f_3 v_percents (0 : Int32).toNatClampNeg (0 : Int32).toNatClampNeg (10 : Int32).toNatClampNeg → post x_4 ((0 : Int32), f_10, f_11, x_4, f_2, f_3, x_4, x_5, x_6, x_7, x_8)))) ∧ (¬ (r_1 = (-1 : Int32)) → post ((-1 : Int32) - r_1) ((0 : Int32), v_prices, v_percents, v_clauses, f_2, f_3, x_4, x_5, x_6, x_7, x_8)))) v_length v_text v_newPrices v_newPercents v_newClauses v_state v_subject v_number v_digits
set_option maxHeartbeats 4000000 in
set_option maxRecDepth 100000 in
theorem c_XF_adopt (l : Launch) (hl9 : l.stackTraces = false) (dC : Nat → ClassId) (dI : Nat → Nat → Nat) (cI cJ cZ : ClassId) (q_0 q_text q_prices q_percents q_newPrices q_newPercents : Nat) (v_text : Nat → Int32) (v_length : Int32) (v_prices : Nat → Int32) (v_percents : Nat → Int32) (v_clauses : Int32) (v_newPrices : Nat → Int32) (v_newPercents : Nat → Int32) (v_newClauses : Int32) (v_state : Int32) (v_subject : Int32) (v_number : Int32) (v_digits : Int32) (post : Int32 → ((Int32) × (Nat → Int32) × (Nat → Int32) × (Int32) × (Nat → Int32) × (Nat → Int32) × (Int32) × (Int32) × (Int32) × (Int32) × (Int32)) → Prop) (hw : wp_XF_adopt post v_text v_length v_prices v_percents v_clauses v_newPrices v_newPercents v_newClauses v_state v_subject v_number v_digits) : Ki l y_XF_adopt b_XF_adopt 3 (some .int) ({ frames := 5, cells := 0, slots := 0, locals := 105 } : Room) dC dI cI cJ cZ [.ref q_0] [(q_0, .inr (5, [.ref q_text, .int v_length, .ref q_prices, .ref q_percents, .int v_clauses, .ref q_newPrices, .ref q_newPercents, .int v_newClauses, .int v_state, .int v_subject, .int v_number, .int v_digits])), (q_text, .inl (cI, 60, .inl v_text)), (q_prices, .inl (cI, 5, .inl v_prices)), (q_percents, .inl (cI, 10, .inl v_percents)), (q_newPrices, .inl (cI, 5, .inl v_newPrices)), (q_newPercents, .inl (cI, 10, .inl v_newPercents))] post (fun u : (Int32) × (Nat → Int32) × (Nat → Int32) × (Int32) × (Nat → Int32) × (Nat → Int32) × (Int32) × (Int32) × (Int32) × (Int32) × (Int32) => [(q_0, .inr (5, [.ref q_text, .int u.1, .ref q_prices, .ref q_percents, .int u.2.2.2.1, .ref q_newPrices, .ref q_newPercents, .int u.2.2.2.2.2.2.1, .int u.2.2.2.2.2.2.2.1, .int u.2.2.2.2.2.2.2.2.1, .int u.2.2.2.2.2.2.2.2.2.1, .int u.2.2.2.2.2.2.2.2.2.2])), (q_text, .inl (cI, 60, .inl v_text)), (q_prices, .inl (cI, 5, .inl u.2.1)), (q_percents, .inl (cI, 10, .inl u.2.2.1)), (q_newPrices, .inl (cI, 5, .inl u.2.2.2.2.1)), (q_newPercents, .inl (cI, 10, .inl u.2.2.2.2.2.1))]) := by
  refine mki hl9 (own := R_XF) rfl (by decide) ?_
  intro p e s m args below meth c A C0 hnm eav hP hD
  obtain ⟨-, hx, hb, hml, hr, hown, hts, hlocks, hK, hZ, hA, hNS⟩ := id C0
  subst eav
  have hS : va_S A s.heap s.heap [] := va_S.rf
  have hl := lv_entry ([.ref q_0]) (n := 3) (Nat.le_of_ble_eq_true rfl)
  rw [lg_entry_eq]
  generalize (lg_sl ([.ref q_0]) ++ List.replicate (3 - (lg_sl ([.ref q_0])).length) Slot.unset).toArray = ls at hl ⊢
  have hl : lv_has ls 3 [(0, .ref q_0)] := hl
  unfold wp_XF_adopt at hw
  refine lv_aload_n hx hb d_XF_adopt_0 rfl (lv_at hl 0 rfl) ?_
  refine va_get (D := (dC, dI)) (ci := 5) (v := .int v_length) (C := R_XF) (T := F_XF) (N := 12) hx hb hts i_XF hown hK hP 0 rfl rfl 1 (by decide) (hts _ k_178) (fun _ h9 => h9) rfl d_XF_adopt_1 ?_
  refine lv_istore_n (lv' := [(1, .int v_length), (0, .ref q_0)]) hx hb d_XF_adopt_4 rfl hl (by decide) rfl (fun ls hl => ?_)
  refine lv_aload_n hx hb d_XF_adopt_5 rfl (lv_at hl 1 rfl) ?_
  refine lv_iconst (v := (0 : Int32)) hx hb d_XF_adopt_6 (by decide) ?_
  refine va_put (D := (dC, dI)) (ci := 5) (v := .int (0 : Int32)) (ty := .int) (C := R_XF) (T := F_XF) (N := 12) hx hb hts i_XF t_XF t_XF_ok n_XF hown hK hP hD hS 0 rfl rfl 1 (by decide) (hts _ k_178) (fun _ h9 => h9) rfl (by decide +kernel) rfl rfl (Nat.le_of_ble_eq_true rfl) d_XF_adopt_7 (fun H locs hP hD hS => ?_)
  have hP : va_P (dC, dI) classes [(q_0, .inr (5, [.ref q_text, .int (0 : Int32), .ref q_prices, .ref q_percents, .int v_clauses, .ref q_newPrices, .ref q_newPercents, .int v_newClauses, .int v_state, .int v_subject, .int v_number, .int v_digits])), (q_text, .inl (cI, 60, .inl v_text)), (q_prices, .inl (cI, 5, .inl v_prices)), (q_percents, .inl (cI, 10, .inl v_percents)), (q_newPrices, .inl (cI, 5, .inl v_newPrices)), (q_newPercents, .inl (cI, 10, .inl v_newPercents))] H := hP
  have hD : va_D A [(q_0, .inr (5, [.ref q_text, .int (0 : Int32), .ref q_prices, .ref q_percents, .int v_clauses, .ref q_newPrices, .ref q_newPercents, .int v_newClauses, .int v_state, .int v_subject, .int v_number, .int v_digits])), (q_text, .inl (cI, 60, .inl v_text)), (q_prices, .inl (cI, 5, .inl v_prices)), (q_percents, .inl (cI, 10, .inl v_percents)), (q_newPrices, .inl (cI, 5, .inl v_newPrices)), (q_newPercents, .inl (cI, 10, .inl v_newPercents))] := hD
  refine lv_aload_n hx hb d_XF_adopt_10 rfl (lv_at hl 1 rfl) ?_
  refine lv_iload_n hx hb d_XF_adopt_11 rfl (lv_at hl 0 rfl) ?_
  refine jn_i C0 hP hD hS [0, 1, 4, 5] [2, 3] (ru_V C0 (As := [.int v_length]) (rest := []) (c_XF_firstWrong l hl9 dC dI cI cJ cZ q_0 q_text q_newPrices q_newPercents q_prices q_percents v_length v_text (0 : Int32) v_clauses v_newPrices v_newPercents v_newClauses v_state v_subject v_number v_digits _ hw _) k_226 k_227 k_228 k_229 k_50 (n9 := 1) (by decide +kernel) rfl (ci := 5) rfl rfl ⟨Nat.le_of_ble_eq_true rfl, Nat.le_of_ble_eq_true rfl⟩ hP hD hS [0, 1, 4, 5] rfl (by decide) hl.1 rfl (Nat.le_of_ble_eq_true rfl) d_XF_adopt_12 ⟨Nat.le_of_ble_eq_true rfl, Nat.le_of_ble_eq_true rfl⟩) rfl rfl (by decide) (by decide) (fun r_1 u H locs hw hP hD hS => ?_)
  obtain ⟨f_2, f_3, x_4, x_5, x_6, x_7, x_8⟩ := u
  try dsimp only at hw
  have hP : va_P (dC, dI) classes [(q_prices, .inl (cI, 5, .inl v_prices)), (q_percents, .inl (cI, 10, .inl v_percents)), (q_0, .inr (5, [.ref q_text, .int (0 : Int32), .ref q_prices, .ref q_percents, .int v_clauses, .ref q_newPrices, .ref q_newPercents, .int x_4, .int x_5, .int x_6, .int x_7, .int x_8])), (q_text, .inl (cI, 60, .inl v_text)), (q_newPrices, .inl (cI, 5, .inl f_2)), (q_newPercents, .inl (cI, 10, .inl f_3))] H := hP
  have hD : va_D A [(q_prices, .inl (cI, 5, .inl v_prices)), (q_percents, .inl (cI, 10, .inl v_percents)), (q_0, .inr (5, [.ref q_text, .int (0 : Int32), .ref q_prices, .ref q_percents, .int v_clauses, .ref q_newPrices, .ref q_newPercents, .int x_4, .int x_5, .int x_6, .int x_7, .int x_8])), (q_text, .inl (cI, 60, .inl v_text)), (q_newPrices, .inl (cI, 5, .inl f_2)), (q_newPercents, .inl (cI, 10, .inl f_3))] := hD
  refine lv_istore_n (lv' := [(2, .int r_1), (1, .int v_length), (0, .ref q_0)]) hx hb d_XF_adopt_15 rfl hl (by decide) rfl (fun ls hl => ?_)
  refine lv_iload_n hx hb d_XF_adopt_16 rfl (lv_at hl 0 rfl) ?_
  refine lv_iconst (v := (-1 : Int32)) hx hb d_XF_adopt_17 (by decide) ?_
  refine lv_icmp_eq (tgt := 25) hx hb d_XF_adopt_18 (by decide) (fun c_9 => ?_) (fun c_9 => ?_)
  · have hw := hw.1 c_9
    refine lv_aload_n hx hb d_XF_adopt_25 rfl (lv_at hl 2 rfl) ?_
    refine va_get (D := (dC, dI)) (ci := 5) (v := .ref q_newPrices) (C := R_XF) (T := F_XF) (N := 12) hx hb hts i_XF hown hK hP 2 rfl rfl 5 (by decide) (hts _ k_55) (fun _ h9 => h9) rfl d_XF_adopt_26 ?_
    refine lv_iconst (v := (0 : Int32)) hx hb d_XF_adopt_29 (by decide) ?_
    refine lv_aload_n hx hb d_XF_adopt_30 rfl (lv_at hl 2 rfl) ?_
    refine va_get (D := (dC, dI)) (ci := 5) (v := .ref q_prices) (C := R_XF) (T := F_XF) (N := 12) hx hb hts i_XF hown hK hP 2 rfl rfl 2 (by decide) (hts _ k_53) (fun _ h9 => h9) rfl d_XF_adopt_31 ?_
    refine lv_iconst (v := (0 : Int32)) hx hb d_XF_adopt_34 (by decide) ?_
    refine lv_iconst (v := (5 : Int32)) hx hb d_XF_adopt_35 (by decide) ?_
    refine va_copyi hx hb (by rw [hml]; exact hl.1.symm) hown (hts _ k_230) (hts _ k_231) (hts _ k_232) (hts _ k_233) hK hP hD hS 4 0 0 0 rfl rfl rfl rfl rfl (sp := (0 : Int32)) (dp := (0 : Int32)) (n := (5 : Int32)) (by decide) (by decide) (by decide) (by decide) (by decide) (fun _ _ => rfl) (Nat.le_of_ble_eq_true rfl) (by decide +kernel) d_XF_adopt_36 (fun H locs hP hD hS => ?_)
    obtain ⟨f_10, ef_10⟩ : ∃ g : Nat → Int32, g = va_cpy f_2 v_prices (0 : Int32).toNatClampNeg (0 : Int32).toNatClampNeg (5 : Int32).toNatClampNeg := ⟨_, rfl⟩
    have hw := hw f_10 ef_10
    have hP : va_P (dC, dI) classes [(q_prices, .inl (cI, 5, .inl f_10)), (q_percents, .inl (cI, 10, .inl v_percents)), (q_0, .inr (5, [.ref q_text, .int (0 : Int32), .ref q_prices, .ref q_percents, .int v_clauses, .ref q_newPrices, .ref q_newPercents, .int x_4, .int x_5, .int x_6, .int x_7, .int x_8])), (q_text, .inl (cI, 60, .inl v_text)), (q_newPrices, .inl (cI, 5, .inl f_2)), (q_newPercents, .inl (cI, 10, .inl f_3))] H := by rw [ef_10]; exact hP
    have hD : va_D A [(q_prices, .inl (cI, 5, .inl f_10)), (q_percents, .inl (cI, 10, .inl v_percents)), (q_0, .inr (5, [.ref q_text, .int (0 : Int32), .ref q_prices, .ref q_percents, .int v_clauses, .ref q_newPrices, .ref q_newPercents, .int x_4, .int x_5, .int x_6, .int x_7, .int x_8])), (q_text, .inl (cI, 60, .inl v_text)), (q_newPrices, .inl (cI, 5, .inl f_2)), (q_newPercents, .inl (cI, 10, .inl f_3))] := by rw [ef_10]; exact hD
    refine lv_aload_n hx hb d_XF_adopt_39 rfl (lv_at hl 2 rfl) ?_
    refine va_get (D := (dC, dI)) (ci := 5) (v := .ref q_newPercents) (C := R_XF) (T := F_XF) (N := 12) hx hb hts i_XF hown hK hP 2 rfl rfl 6 (by decide) (hts _ k_56) (fun _ h9 => h9) rfl d_XF_adopt_40 ?_
    refine lv_iconst (v := (0 : Int32)) hx hb d_XF_adopt_43 (by decide) ?_
    refine lv_aload_n hx hb d_XF_adopt_44 rfl (lv_at hl 2 rfl) ?_
    refine va_get (D := (dC, dI)) (ci := 5) (v := .ref q_percents) (C := R_XF) (T := F_XF) (N := 12) hx hb hts i_XF hown hK hP 2 rfl rfl 3 (by decide) (hts _ k_54) (fun _ h9 => h9) rfl d_XF_adopt_45 ?_
    refine lv_iconst (v := (0 : Int32)) hx hb d_XF_adopt_48 (by decide) ?_
    refine lv_bipush (v := (10 : Int32)) hx hb d_XF_adopt_49 (by decide) ?_
    refine va_copyi hx hb (by rw [hml]; exact hl.1.symm) hown (hts _ k_230) (hts _ k_231) (hts _ k_232) (hts _ k_233) hK hP hD hS 5 1 0 0 rfl rfl rfl rfl rfl (sp := (0 : Int32)) (dp := (0 : Int32)) (n := (10 : Int32)) (by decide) (by decide) (by decide) (by decide) (by decide) (fun _ _ => rfl) (Nat.le_of_ble_eq_true rfl) (by decide +kernel) d_XF_adopt_51 (fun H locs hP hD hS => ?_)
    obtain ⟨f_11, ef_11⟩ : ∃ g : Nat → Int32, g = va_cpy f_3 v_percents (0 : Int32).toNatClampNeg (0 : Int32).toNatClampNeg (10 : Int32).toNatClampNeg := ⟨_, rfl⟩
    have hw := hw f_11 ef_11
    have hP : va_P (dC, dI) classes [(q_prices, .inl (cI, 5, .inl f_10)), (q_percents, .inl (cI, 10, .inl f_11)), (q_0, .inr (5, [.ref q_text, .int (0 : Int32), .ref q_prices, .ref q_percents, .int v_clauses, .ref q_newPrices, .ref q_newPercents, .int x_4, .int x_5, .int x_6, .int x_7, .int x_8])), (q_text, .inl (cI, 60, .inl v_text)), (q_newPrices, .inl (cI, 5, .inl f_2)), (q_newPercents, .inl (cI, 10, .inl f_3))] H := by rw [ef_11]; exact hP
    have hD : va_D A [(q_prices, .inl (cI, 5, .inl f_10)), (q_percents, .inl (cI, 10, .inl f_11)), (q_0, .inr (5, [.ref q_text, .int (0 : Int32), .ref q_prices, .ref q_percents, .int v_clauses, .ref q_newPrices, .ref q_newPercents, .int x_4, .int x_5, .int x_6, .int x_7, .int x_8])), (q_text, .inl (cI, 60, .inl v_text)), (q_newPrices, .inl (cI, 5, .inl f_2)), (q_newPercents, .inl (cI, 10, .inl f_3))] := by rw [ef_11]; exact hD
    refine lv_aload_n hx hb d_XF_adopt_54 rfl (lv_at hl 2 rfl) ?_
    refine lv_aload_n hx hb d_XF_adopt_55 rfl (lv_at hl 2 rfl) ?_
    refine va_get (D := (dC, dI)) (ci := 5) (v := .int x_4) (C := R_XF) (T := F_XF) (N := 12) hx hb hts i_XF hown hK hP 2 rfl rfl 7 (by decide) (hts _ k_184) (fun _ h9 => h9) rfl d_XF_adopt_56 ?_
    refine va_put (D := (dC, dI)) (ci := 5) (v := .int x_4) (ty := .int) (C := R_XF) (T := F_XF) (N := 12) hx hb hts i_XF t_XF t_XF_ok n_XF hown hK hP hD hS 2 rfl rfl 4 (by decide) (hts _ k_234) (fun _ h9 => h9) rfl (by decide +kernel) rfl rfl (Nat.le_of_ble_eq_true rfl) d_XF_adopt_59 (fun H locs hP hD hS => ?_)
    have hP : va_P (dC, dI) classes [(q_prices, .inl (cI, 5, .inl f_10)), (q_percents, .inl (cI, 10, .inl f_11)), (q_0, .inr (5, [.ref q_text, .int (0 : Int32), .ref q_prices, .ref q_percents, .int x_4, .ref q_newPrices, .ref q_newPercents, .int x_4, .int x_5, .int x_6, .int x_7, .int x_8])), (q_text, .inl (cI, 60, .inl v_text)), (q_newPrices, .inl (cI, 5, .inl f_2)), (q_newPercents, .inl (cI, 10, .inl f_3))] H := hP
    have hD : va_D A [(q_prices, .inl (cI, 5, .inl f_10)), (q_percents, .inl (cI, 10, .inl f_11)), (q_0, .inr (5, [.ref q_text, .int (0 : Int32), .ref q_prices, .ref q_percents, .int x_4, .ref q_newPrices, .ref q_newPercents, .int x_4, .int x_5, .int x_6, .int x_7, .int x_8])), (q_text, .inl (cI, 60, .inl v_text)), (q_newPrices, .inl (cI, 5, .inl f_2)), (q_newPercents, .inl (cI, 10, .inl f_3))] := hD
    refine lv_aload_n hx hb d_XF_adopt_62 rfl (lv_at hl 2 rfl) ?_
    refine va_get (D := (dC, dI)) (ci := 5) (v := .int x_4) (C := R_XF) (T := F_XF) (N := 12) hx hb hts i_XF hown hK hP 2 rfl rfl 4 (by decide) (hts _ k_234) (fun _ h9 => h9) rfl d_XF_adopt_63 ?_
    exact rt_i (u := ((0 : Int32), f_10, f_11, x_4, f_2, f_3, x_4, x_5, x_6, x_7, x_8)) C0 hw (hP.sub [2, 3, 0, 1, 4, 5] rfl) (hD.sub [2, 3, 0, 1, 4, 5] (by decide) rfl) hS (by decide) (by decide) d_XF_adopt_66
  · have hw := hw.2 c_9
    refine lv_iconst (v := (-1 : Int32)) hx hb d_XF_adopt_21 (by decide) ?_
    refine lv_iload_n hx hb d_XF_adopt_22 rfl (lv_at hl 0 rfl) ?_
    refine lv_isub hx hb d_XF_adopt_23 ?_
    exact rt_i (u := ((0 : Int32), v_prices, v_percents, v_clauses, f_2, f_3, x_4, x_5, x_6, x_7, x_8)) C0 hw (hP.sub [2, 3, 0, 1, 4, 5] rfl) (hD.sub [2, 3, 0, 1, 4, 5] (by decide) rfl) hS (by decide) (by decide) d_XF_adopt_24
theorem d_XF_cost_0 : decode b_XF_cost 0 = .ok (.iload_n 1, 1) := by decide +kernel
theorem d_XF_cost_1 : decode b_XF_cost 1 = .ok (.aload_n 0, 1) := by decide +kernel
theorem d_XF_cost_2 : decode b_XF_cost 2 = .ok (.getfield 15, 3) := by decide +kernel
theorem d_XF_cost_5 : decode b_XF_cost 5 = .ok (.iload_n 2, 1) := by decide +kernel
theorem d_XF_cost_6 : decode b_XF_cost 6 = .ok (.iaload, 1) := by decide +kernel
theorem d_XF_cost_7 : decode b_XF_cost 7 = .ok (.imul, 1) := by decide +kernel
theorem d_XF_cost_8 : decode b_XF_cost 8 = .ok (.istore_n 3, 1) := by decide +kernel
theorem d_XF_cost_9 : decode b_XF_cost 9 = .ok (.iload_n 3, 1) := by decide +kernel
theorem d_XF_cost_10 : decode b_XF_cost 10 = .ok (.iload_n 3, 1) := by decide +kernel
theorem d_XF_cost_11 : decode b_XF_cost 11 = .ok (.aload_n 0, 1) := by decide +kernel
theorem d_XF_cost_12 : decode b_XF_cost 12 = .ok (.getfield 18, 3) := by decide +kernel
theorem d_XF_cost_15 : decode b_XF_cost 15 = .ok (.iload_n 1, 1) := by decide +kernel
theorem d_XF_cost_16 : decode b_XF_cost 16 = .ok (.iaload, 1) := by decide +kernel
theorem d_XF_cost_17 : decode b_XF_cost 17 = .ok (.imul, 1) := by decide +kernel
theorem d_XF_cost_18 : decode b_XF_cost 18 = .ok (.bipush 100, 2) := by decide +kernel
theorem d_XF_cost_20 : decode b_XF_cost 20 = .ok (.idiv, 1) := by decide +kernel
theorem d_XF_cost_21 : decode b_XF_cost 21 = .ok (.isub, 1) := by decide +kernel
theorem d_XF_cost_22 : decode b_XF_cost 22 = .ok (.ireturn, 1) := by decide +kernel
def wp_XF_cost (post : Int32 → Unit → Prop) (a_1 : Int32) (a_2 : Int32) (v_prices : Nat → Int32) (v_percents : Nat → Int32) : Prop := (vp_in a_2 5 ∧ (∀ x_2 : Int32, x_2 = a_1 * (v_prices a_2.toNatClampNeg) → (vp_in a_1 10 ∧ post (x_2 - ((x_2 * (v_percents a_1.toNatClampNeg)) / (100 : Int32))) ())))
set_option maxHeartbeats 4000000 in
set_option maxRecDepth 100000 in
theorem c_XF_cost (l : Launch) (hl9 : l.stackTraces = false) (dC : Nat → ClassId) (dI : Nat → Nat → Nat) (cI cJ cZ : ClassId) (q_0 q_prices q_percents q_text q_newPrices q_newPercents : Nat) (a_1 : Int32) (a_2 : Int32) (v_length : Int32) (v_prices : Nat → Int32) (v_percents : Nat → Int32) (v_clauses : Int32) (v_newClauses : Int32) (v_state : Int32) (v_subject : Int32) (v_number : Int32) (v_digits : Int32) (post : Int32 → Unit → Prop) (hw : wp_XF_cost post a_1 a_2 v_prices v_percents) : Ki l y_XF_cost b_XF_cost 4 (some .int) ({ frames := 0, cells := 0, slots := 0, locals := 0 } : Room) dC dI cI cJ cZ [.ref q_0, .int a_1, .int a_2] [(q_0, .inr (5, [.ref q_text, .int v_length, .ref q_prices, .ref q_percents, .int v_clauses, .ref q_newPrices, .ref q_newPercents, .int v_newClauses, .int v_state, .int v_subject, .int v_number, .int v_digits])), (q_prices, .inl (cI, 5, .inl v_prices)), (q_percents, .inl (cI, 10, .inl v_percents))] post (fun u : Unit => [(q_0, .inr (5, [.ref q_text, .int v_length, .ref q_prices, .ref q_percents, .int v_clauses, .ref q_newPrices, .ref q_newPercents, .int v_newClauses, .int v_state, .int v_subject, .int v_number, .int v_digits])), (q_prices, .inl (cI, 5, .inl v_prices)), (q_percents, .inl (cI, 10, .inl v_percents))]) := by
  refine mki hl9 (own := R_XF) rfl (by decide) ?_
  intro p e s m args below meth c A C0 hnm eav hP hD
  obtain ⟨-, hx, hb, hml, hr, hown, hts, hlocks, hK, hZ, hA, hNS⟩ := id C0
  subst eav
  have hS : va_S A s.heap s.heap [] := va_S.rf
  have hl := lv_entry ([.ref q_0, .int a_1, .int a_2]) (n := 4) (Nat.le_of_ble_eq_true rfl)
  rw [lg_entry_eq]
  generalize (lg_sl ([.ref q_0, .int a_1, .int a_2]) ++ List.replicate (4 - (lg_sl ([.ref q_0, .int a_1, .int a_2])).length) Slot.unset).toArray = ls at hl ⊢
  have hl : lv_has ls 4 [(0, .ref q_0), (1, .int a_1), (2, .int a_2)] := hl
  unfold wp_XF_cost at hw
  refine lv_iload_n hx hb d_XF_cost_0 rfl (lv_at hl 1 rfl) ?_
  refine lv_aload_n hx hb d_XF_cost_1 rfl (lv_at hl 0 rfl) ?_
  refine va_get (D := (dC, dI)) (ci := 5) (v := .ref q_prices) (C := R_XF) (T := F_XF) (N := 12) hx hb hts i_XF hown hK hP 0 rfl rfl 2 (by decide) (hts _ k_53) (fun _ h9 => h9) rfl d_XF_cost_2 ?_
  refine lv_iload_n hx hb d_XF_cost_5 rfl (lv_at hl 2 rfl) ?_
  obtain ⟨h_1, hw⟩ := hw
  refine va_iald hx hb hK hP 1 0 rfl rfl h_1 d_XF_cost_6 ?_
  refine lv_imul hx hb d_XF_cost_7 ?_
  refine lv_topi (fun x_2 ex_2 => ?_)
  have hw := hw x_2 ex_2
  refine lv_istore_n (lv' := [(3, .int x_2), (0, .ref q_0), (1, .int a_1), (2, .int a_2)]) hx hb d_XF_cost_8 rfl hl (by decide) rfl (fun ls hl => ?_)
  refine lv_iload_n hx hb d_XF_cost_9 rfl (lv_at hl 0 rfl) ?_
  refine lv_iload_n hx hb d_XF_cost_10 rfl (lv_at hl 0 rfl) ?_
  refine lv_aload_n hx hb d_XF_cost_11 rfl (lv_at hl 1 rfl) ?_
  refine va_get (D := (dC, dI)) (ci := 5) (v := .ref q_percents) (C := R_XF) (T := F_XF) (N := 12) hx hb hts i_XF hown hK hP 0 rfl rfl 3 (by decide) (hts _ k_54) (fun _ h9 => h9) rfl d_XF_cost_12 ?_
  refine lv_iload_n hx hb d_XF_cost_15 rfl (lv_at hl 2 rfl) ?_
  obtain ⟨h_3, hw⟩ := hw
  refine va_iald hx hb hK hP 2 0 rfl rfl h_3 d_XF_cost_16 ?_
  refine lv_imul hx hb d_XF_cost_17 ?_
  refine lv_bipush (v := (100 : Int32)) hx hb d_XF_cost_18 (by decide) ?_
  refine lv_idiv hx hb d_XF_cost_20 (by decide) ?_
  refine lv_isub hx hb d_XF_cost_21 ?_
  exact rt_i (u := ()) C0 hw hP hD hS (by decide) (by decide) d_XF_cost_22
theorem d_XD_letIn_0 : decode b_XD_letIn 0 = .ok (.aload_n 0, 1) := by decide +kernel
theorem d_XD_letIn_1 : decode b_XD_letIn 1 = .ok (.getfield 9, 3) := by decide +kernel
theorem d_XD_letIn_4 : decode b_XD_letIn 4 = .ok (.iload_n 2, 1) := by decide +kernel
theorem d_XD_letIn_5 : decode b_XD_letIn 5 = .ok (.bipush 6, 2) := by decide +kernel
theorem d_XD_letIn_7 : decode b_XD_letIn 7 = .ok (.imul, 1) := by decide +kernel
theorem d_XD_letIn_8 : decode b_XD_letIn 8 = .ok (.iload_n 1, 1) := by decide +kernel
theorem d_XD_letIn_9 : decode b_XD_letIn 9 = .ok (.iadd, 1) := by decide +kernel
theorem d_XD_letIn_10 : decode b_XD_letIn 10 = .ok (.iload_n 3, 1) := by decide +kernel
theorem d_XD_letIn_11 : decode b_XD_letIn 11 = .ok (.iastore, 1) := by decide +kernel
theorem d_XD_letIn_12 : decode b_XD_letIn 12 = .ok (.return_, 1) := by decide +kernel
def wp_XD_letIn (post : (Nat → Int32) → Prop) (a_1 : Int32) (a_2 : Int32) (a_3 : Int32) (v_seconds : Nat → Int32) : Prop := (vp_in ((a_2 * (6 : Int32)) + a_1) 360 ∧ (∀ f_2 : Nat → Int32, f_2 = upd v_seconds ((a_2 * (6 : Int32)) + a_1).toNatClampNeg a_3 → post f_2))
set_option maxHeartbeats 4000000 in
set_option maxRecDepth 100000 in
theorem c_XD_letIn (l : Launch) (hl9 : l.stackTraces = false) (dC : Nat → ClassId) (dI : Nat → Nat → Nat) (cI cJ cZ : ClassId) (q_0 q_seconds q_order q_firstIn q_doubles q_goneOut : Nat) (a_1 : Int32) (a_2 : Int32) (a_3 : Int32) (v_seconds : Nat → Int32) (v_found : Int32) (post : (Nat → Int32) → Prop) (hw : wp_XD_letIn post a_1 a_2 a_3 v_seconds) : Kv l y_XD_letIn b_XD_letIn 4 none ({ frames := 0, cells := 0, slots := 0, locals := 0 } : Room) dC dI cI cJ cZ [.ref q_0, .int a_1, .int a_2, .int a_3] [(q_0, .inr (6, [.ref q_seconds, .ref q_order, .ref q_firstIn, .ref q_doubles, .int v_found, .ref q_goneOut])), (q_seconds, .inl (cI, 360, .inl v_seconds))] post (fun u : (Nat → Int32) => [(q_0, .inr (6, [.ref q_seconds, .ref q_order, .ref q_firstIn, .ref q_doubles, .int v_found, .ref q_goneOut])), (q_seconds, .inl (cI, 360, .inl u))]) := by
  refine mkv hl9 (own := R_XD) rfl (by decide) ?_
  intro p e s m args below meth c A C0 hnm eav hP hD
  obtain ⟨-, hx, hb, hml, hr, hown, hts, hlocks, hK, hZ, hA, hNS⟩ := id C0
  subst eav
  have hS : va_S A s.heap s.heap [] := va_S.rf
  have hl := lv_entry ([.ref q_0, .int a_1, .int a_2, .int a_3]) (n := 4) (Nat.le_of_ble_eq_true rfl)
  rw [lg_entry_eq]
  generalize (lg_sl ([.ref q_0, .int a_1, .int a_2, .int a_3]) ++ List.replicate (4 - (lg_sl ([.ref q_0, .int a_1, .int a_2, .int a_3])).length) Slot.unset).toArray = ls at hl ⊢
  have hl : lv_has ls 4 [(0, .ref q_0), (1, .int a_1), (2, .int a_2), (3, .int a_3)] := hl
  unfold wp_XD_letIn at hw
  refine lv_aload_n hx hb d_XD_letIn_0 rfl (lv_at hl 0 rfl) ?_
  refine va_get (D := (dC, dI)) (ci := 6) (v := .ref q_seconds) (C := R_XD) (T := F_XD) (N := 6) hx hb hts i_XD hown hK hP 0 rfl rfl 0 (by decide) (hts _ k_64) (fun _ h9 => h9) rfl d_XD_letIn_1 ?_
  refine lv_iload_n hx hb d_XD_letIn_4 rfl (lv_at hl 2 rfl) ?_
  refine lv_bipush (v := (6 : Int32)) hx hb d_XD_letIn_5 (by decide) ?_
  refine lv_imul hx hb d_XD_letIn_7 ?_
  refine lv_iload_n hx hb d_XD_letIn_8 rfl (lv_at hl 1 rfl) ?_
  refine lv_iadd hx hb d_XD_letIn_9 ?_
  refine lv_iload_n hx hb d_XD_letIn_10 rfl (lv_at hl 3 rfl) ?_
  obtain ⟨h_1, hw⟩ := hw
  refine va_iast hx hb hK hP hD hS 1 0 rfl rfl h_1 d_XD_letIn_11 (fun H locs hP hD hS => ?_)
  obtain ⟨f_2, ef_2⟩ : ∃ g : Nat → Int32, g = upd v_seconds ((a_2 * (6 : Int32)) + a_1).toNatClampNeg a_3 := ⟨_, rfl⟩
  have hw := hw f_2 ef_2
  have hP : va_P (dC, dI) classes [(q_0, .inr (6, [.ref q_seconds, .ref q_order, .ref q_firstIn, .ref q_doubles, .int v_found, .ref q_goneOut])), (q_seconds, .inl (cI, 360, .inl f_2))] H := by rw [ef_2]; exact hP
  have hD : va_D A [(q_0, .inr (6, [.ref q_seconds, .ref q_order, .ref q_firstIn, .ref q_doubles, .int v_found, .ref q_goneOut])), (q_seconds, .inl (cI, 360, .inl f_2))] := by rw [ef_2]; exact hD
  exact rt_v (u := f_2) C0 hw hP hD hS (by decide) (by decide) d_XD_letIn_12
theorem d_XD_insertEntry_0 : decode b_XD_insertEntry 0 = .ok (.iload_n 2, 1) := by decide +kernel
theorem d_XD_insertEntry_1 : decode b_XD_insertEntry 1 = .ok (.istore_n 3, 1) := by decide +kernel
theorem d_XD_insertEntry_2 : decode b_XD_insertEntry 2 = .ok (.iload_n 3, 1) := by decide +kernel
theorem d_XD_insertEntry_3 : decode b_XD_insertEntry 3 = .ok (.ifCond .le 45, 3) := by decide +kernel
theorem d_XD_insertEntry_6 : decode b_XD_insertEntry 6 = .ok (.aload_n 0, 1) := by decide +kernel
theorem d_XD_insertEntry_7 : decode b_XD_insertEntry 7 = .ok (.getfield 9, 3) := by decide +kernel
theorem d_XD_insertEntry_10 : decode b_XD_insertEntry 10 = .ok (.aload_n 0, 1) := by decide +kernel
theorem d_XD_insertEntry_11 : decode b_XD_insertEntry 11 = .ok (.getfield 15, 3) := by decide +kernel
theorem d_XD_insertEntry_14 : decode b_XD_insertEntry 14 = .ok (.iload_n 3, 1) := by decide +kernel
theorem d_XD_insertEntry_15 : decode b_XD_insertEntry 15 = .ok (.iconst 1, 1) := by decide +kernel
theorem d_XD_insertEntry_16 : decode b_XD_insertEntry 16 = .ok (.isub, 1) := by decide +kernel
theorem d_XD_insertEntry_17 : decode b_XD_insertEntry 17 = .ok (.iaload, 1) := by decide +kernel
theorem d_XD_insertEntry_18 : decode b_XD_insertEntry 18 = .ok (.iaload, 1) := by decide +kernel
theorem d_XD_insertEntry_19 : decode b_XD_insertEntry 19 = .ok (.aload_n 0, 1) := by decide +kernel
theorem d_XD_insertEntry_20 : decode b_XD_insertEntry 20 = .ok (.getfield 9, 3) := by decide +kernel
theorem d_XD_insertEntry_23 : decode b_XD_insertEntry 23 = .ok (.iload_n 1, 1) := by decide +kernel
theorem d_XD_insertEntry_24 : decode b_XD_insertEntry 24 = .ok (.iaload, 1) := by decide +kernel
theorem d_XD_insertEntry_25 : decode b_XD_insertEntry 25 = .ok (.if_icmp .le 23, 3) := by decide +kernel
theorem d_XD_insertEntry_28 : decode b_XD_insertEntry 28 = .ok (.aload_n 0, 1) := by decide +kernel
theorem d_XD_insertEntry_29 : decode b_XD_insertEntry 29 = .ok (.getfield 15, 3) := by decide +kernel
theorem d_XD_insertEntry_32 : decode b_XD_insertEntry 32 = .ok (.iload_n 3, 1) := by decide +kernel
theorem d_XD_insertEntry_33 : decode b_XD_insertEntry 33 = .ok (.aload_n 0, 1) := by decide +kernel
theorem d_XD_insertEntry_34 : decode b_XD_insertEntry 34 = .ok (.getfield 15, 3) := by decide +kernel
theorem d_XD_insertEntry_37 : decode b_XD_insertEntry 37 = .ok (.iload_n 3, 1) := by decide +kernel
theorem d_XD_insertEntry_38 : decode b_XD_insertEntry 38 = .ok (.iconst 1, 1) := by decide +kernel
theorem d_XD_insertEntry_39 : decode b_XD_insertEntry 39 = .ok (.isub, 1) := by decide +kernel
theorem d_XD_insertEntry_40 : decode b_XD_insertEntry 40 = .ok (.iaload, 1) := by decide +kernel
theorem d_XD_insertEntry_41 : decode b_XD_insertEntry 41 = .ok (.iastore, 1) := by decide +kernel
theorem d_XD_insertEntry_42 : decode b_XD_insertEntry 42 = .ok (.iinc 3 (-1), 3) := by decide +kernel
theorem d_XD_insertEntry_45 : decode b_XD_insertEntry 45 = .ok (.goto (-43), 3) := by decide +kernel
theorem d_XD_insertEntry_48 : decode b_XD_insertEntry 48 = .ok (.aload_n 0, 1) := by decide +kernel
theorem d_XD_insertEntry_49 : decode b_XD_insertEntry 49 = .ok (.getfield 15, 3) := by decide +kernel
theorem d_XD_insertEntry_52 : decode b_XD_insertEntry 52 = .ok (.iload_n 3, 1) := by decide +kernel
theorem d_XD_insertEntry_53 : decode b_XD_insertEntry 53 = .ok (.iload_n 1, 1) := by decide +kernel
theorem d_XD_insertEntry_54 : decode b_XD_insertEntry 54 = .ok (.iastore, 1) := by decide +kernel
theorem d_XD_insertEntry_55 : decode b_XD_insertEntry 55 = .ok (.return_, 1) := by decide +kernel
def gl_XD_insertEntry_2 (p : Program) (l : Launch) (e : Env) (s : State) (m : MethodId) (args : Array Value) (below : List Frame) (meth : Method) (c : Code) (R : Room) (A : Nat → Prop) (Q : State → Prop) (dC : Nat → ClassId) (dI : Nat → Nat → Nat) (cI cJ cZ : ClassId) (q_0 q_seconds q_order q_firstIn q_doubles q_goneOut : Nat) (v_seconds : Nat → Int32) (v_found : Int32) (l_1 : Int32) (l_3 : Int32) (v_order : Nat → Int32) : Prop :=
  ∀ (H : Heap) (locs : List Loc), va_P (dC, dI) classes [(q_0, .inr (6, [.ref q_seconds, .ref q_order, .ref q_firstIn, .ref q_doubles, .int v_found, .ref q_goneOut])), (q_seconds, .inl (cI, 360, .inl v_seconds)), (q_order, .inl (cI, 6, .inl v_order))] H → va_D A [(q_0, .inr (6, [.ref q_seconds, .ref q_order, .ref q_firstIn, .ref q_doubles, .int v_found, .ref q_goneOut])), (q_seconds, .inl (cI, 360, .inl v_seconds)), (q_order, .inl (cI, 6, .inl v_order))] → va_S A s.heap H locs → ∀ ls : Array Slot, lv_has ls 4 [(0, .ref q_0), (1, .int l_1), (3, .int l_3)] → W p l e R s m args below meth c H locs 0 0 Q (F0 m 2 ls [])
def wp_XD_insertEntry_2 (post : (Nat → Int32) → Prop) (v_seconds : Nat → Int32) : Nat → Int32 → Int32 → (Nat → Int32) → Prop
  | 0 => fun _ _ _ => False
  | n_2 + 1 => fun l_1 l_3 v_order => ((l_3 ≤ 0 → (vp_in l_3 6 ∧ (∀ f_3 : Nat → Int32, f_3 = upd v_order l_3.toNatClampNeg l_1 → post f_3))) ∧ (¬ (l_3 ≤ 0) → (vp_in (l_3 - (1 : Int32)) 6 ∧ (vp_in (v_order (l_3 - (1 : Int32)).toNatClampNeg) 360 ∧ (vp_in l_1 360 ∧ (((v_seconds (v_order (l_3 - (1 : Int32)).toNatClampNeg).toNatClampNeg) ≤ (v_seconds l_1.toNatClampNeg) → (vp_in l_3 6 ∧ (∀ f_9 : Nat → Int32, f_9 = upd v_order l_3.toNatClampNeg l_1 → post f_9))) ∧ (¬ ((v_seconds (v_order (l_3 - (1 : Int32)).toNatClampNeg).toNatClampNeg) ≤ (v_seconds l_1.toNatClampNeg)) → (vp_in (l_3 - (1 : Int32)) 6 ∧ (vp_in l_3 6 ∧ (∀ f_12 : Nat → Int32, f_12 = upd v_order l_3.toNatClampNeg (v_order (l_3 - (1 : Int32)).toNatClampNeg) → (∀ x_13 : Int32, x_13 = l_3 + (-1 : Int32) → (wp_XD_insertEntry_2 post v_seconds n_2) l_1 x_13 f_12)))))))))))
set_option maxHeartbeats 4000000 in
set_option maxRecDepth 100000 in
theorem t_XD_insertEntry_2 {p : Program} {l : Launch} {e : Env} {s : State} {m : MethodId} {args : Array Value} {below : List Frame} {meth : Method} {c : Code} {dC : Nat → ClassId} {dI : Nat → Nat → Nat} {cI cJ cZ : ClassId} {A : Nat → Prop} {q_0 : Nat} {q_seconds : Nat} {q_order : Nat} {q_firstIn : Nat} {q_doubles : Nat} {q_goneOut : Nat} {v_seconds : Nat → Int32} {v_found : Int32} {post : (Nat → Int32) → Prop} (C0 : cxM b_XD_insertEntry 4 none R_XD l dC dI cI cJ cZ A p s m args meth c) : ∀ (n_2 : Nat) (l_1 : Int32) (l_3 : Int32) (v_order : Nat → Int32), wp_XD_insertEntry_2 post v_seconds n_2 l_1 l_3 v_order → gl_XD_insertEntry_2 p l e s m args below meth c ({ frames := 0, cells := 0, slots := 0, locals := 0 } : Room) A (Qv below args s A dC dI cI cJ cZ ({ frames := 0, cells := 0, slots := 0, locals := 0 } : Room) post (fun u : (Nat → Int32) => [(q_0, .inr (6, [.ref q_seconds, .ref q_order, .ref q_firstIn, .ref q_doubles, .int v_found, .ref q_goneOut])), (q_seconds, .inl (cI, 360, .inl v_seconds)), (q_order, .inl (cI, 6, .inl u))])) dC dI cI cJ cZ q_0 q_seconds q_order q_firstIn q_doubles q_goneOut v_seconds v_found l_1 l_3 v_order := by
  obtain ⟨hl9, hx, hb, hml, hr, hown, hts, hlocks, hK, hZ, hA, hNS⟩ := id C0
  intro n_2
  induction n_2 with
  | zero => intro _ _ _ hw; exact hw.elim
  | succ n_2 ih =>
    intro l_1 l_3 v_order hw H locs hP hD hS ls hl
    refine lv_iload_n hx hb d_XD_insertEntry_2 rfl (lv_at hl 2 rfl) ?_
    refine lv_if_le (tgt := 48) hx hb d_XD_insertEntry_3 (by decide) (fun c_1 => ?_) (fun c_1 => ?_)
    · have hw := hw.1 c_1
      refine lv_aload_n hx hb d_XD_insertEntry_48 rfl (lv_at hl 0 rfl) ?_
      refine va_get (D := (dC, dI)) (ci := 6) (v := .ref q_order) (C := R_XD) (T := F_XD) (N := 6) hx hb hts i_XD hown hK hP 0 rfl rfl 1 (by decide) (hts _ k_65) (fun _ h9 => h9) rfl d_XD_insertEntry_49 ?_
      refine lv_iload_n hx hb d_XD_insertEntry_52 rfl (lv_at hl 2 rfl) ?_
      refine lv_iload_n hx hb d_XD_insertEntry_53 rfl (lv_at hl 1 rfl) ?_
      obtain ⟨h_2, hw⟩ := hw
      refine va_iast hx hb hK hP hD hS 2 0 rfl rfl h_2 d_XD_insertEntry_54 (fun H locs hP hD hS => ?_)
      obtain ⟨f_3, ef_3⟩ : ∃ g : Nat → Int32, g = upd v_order l_3.toNatClampNeg l_1 := ⟨_, rfl⟩
      have hw := hw f_3 ef_3
      have hP : va_P (dC, dI) classes [(q_0, .inr (6, [.ref q_seconds, .ref q_order, .ref q_firstIn, .ref q_doubles, .int v_found, .ref q_goneOut])), (q_seconds, .inl (cI, 360, .inl v_seconds)), (q_order, .inl (cI, 6, .inl f_3))] H := by rw [ef_3]; exact hP
      have hD : va_D A [(q_0, .inr (6, [.ref q_seconds, .ref q_order, .ref q_firstIn, .ref q_doubles, .int v_found, .ref q_goneOut])), (q_seconds, .inl (cI, 360, .inl v_seconds)), (q_order, .inl (cI, 6, .inl f_3))] := by rw [ef_3]; exact hD
      exact rt_v (u := f_3) C0 hw hP hD hS (by decide) (by decide) d_XD_insertEntry_55
    · have hw := hw.2 c_1
      refine lv_aload_n hx hb d_XD_insertEntry_6 rfl (lv_at hl 0 rfl) ?_
      refine va_get (D := (dC, dI)) (ci := 6) (v := .ref q_seconds) (C := R_XD) (T := F_XD) (N := 6) hx hb hts i_XD hown hK hP 0 rfl rfl 0 (by decide) (hts _ k_64) (fun _ h9 => h9) rfl d_XD_insertEntry_7 ?_
      refine lv_aload_n hx hb d_XD_insertEntry_10 rfl (lv_at hl 0 rfl) ?_
      refine va_get (D := (dC, dI)) (ci := 6) (v := .ref q_order) (C := R_XD) (T := F_XD) (N := 6) hx hb hts i_XD hown hK hP 0 rfl rfl 1 (by decide) (hts _ k_65) (fun _ h9 => h9) rfl d_XD_insertEntry_11 ?_
      refine lv_iload_n hx hb d_XD_insertEntry_14 rfl (lv_at hl 2 rfl) ?_
      refine lv_iconst (v := (1 : Int32)) hx hb d_XD_insertEntry_15 (by decide) ?_
      refine lv_isub hx hb d_XD_insertEntry_16 ?_
      obtain ⟨h_4, hw⟩ := hw
      refine va_iald hx hb hK hP 2 0 rfl rfl h_4 d_XD_insertEntry_17 ?_
      obtain ⟨h_5, hw⟩ := hw
      refine va_iald hx hb hK hP 1 0 rfl rfl h_5 d_XD_insertEntry_18 ?_
      refine lv_aload_n hx hb d_XD_insertEntry_19 rfl (lv_at hl 0 rfl) ?_
      refine va_get (D := (dC, dI)) (ci := 6) (v := .ref q_seconds) (C := R_XD) (T := F_XD) (N := 6) hx hb hts i_XD hown hK hP 0 rfl rfl 0 (by decide) (hts _ k_64) (fun _ h9 => h9) rfl d_XD_insertEntry_20 ?_
      refine lv_iload_n hx hb d_XD_insertEntry_23 rfl (lv_at hl 1 rfl) ?_
      obtain ⟨h_6, hw⟩ := hw
      refine va_iald hx hb hK hP 1 0 rfl rfl h_6 d_XD_insertEntry_24 ?_
      refine lv_icmp_le (tgt := 48) hx hb d_XD_insertEntry_25 (by decide) (fun c_7 => ?_) (fun c_7 => ?_)
      · have hw := hw.1 c_7
        refine lv_aload_n hx hb d_XD_insertEntry_48 rfl (lv_at hl 0 rfl) ?_
        refine va_get (D := (dC, dI)) (ci := 6) (v := .ref q_order) (C := R_XD) (T := F_XD) (N := 6) hx hb hts i_XD hown hK hP 0 rfl rfl 1 (by decide) (hts _ k_65) (fun _ h9 => h9) rfl d_XD_insertEntry_49 ?_
        refine lv_iload_n hx hb d_XD_insertEntry_52 rfl (lv_at hl 2 rfl) ?_
        refine lv_iload_n hx hb d_XD_insertEntry_53 rfl (lv_at hl 1 rfl) ?_
        obtain ⟨h_8, hw⟩ := hw
        refine va_iast hx hb hK hP hD hS 2 0 rfl rfl h_8 d_XD_insertEntry_54 (fun H locs hP hD hS => ?_)
        obtain ⟨f_9, ef_9⟩ : ∃ g : Nat → Int32, g = upd v_order l_3.toNatClampNeg l_1 := ⟨_, rfl⟩
        have hw := hw f_9 ef_9
        have hP : va_P (dC, dI) classes [(q_0, .inr (6, [.ref q_seconds, .ref q_order, .ref q_firstIn, .ref q_doubles, .int v_found, .ref q_goneOut])), (q_seconds, .inl (cI, 360, .inl v_seconds)), (q_order, .inl (cI, 6, .inl f_9))] H := by rw [ef_9]; exact hP
        have hD : va_D A [(q_0, .inr (6, [.ref q_seconds, .ref q_order, .ref q_firstIn, .ref q_doubles, .int v_found, .ref q_goneOut])), (q_seconds, .inl (cI, 360, .inl v_seconds)), (q_order, .inl (cI, 6, .inl f_9))] := by rw [ef_9]; exact hD
        exact rt_v (u := f_9) C0 hw hP hD hS (by decide) (by decide) d_XD_insertEntry_55
      · have hw := hw.2 c_7
        refine lv_aload_n hx hb d_XD_insertEntry_28 rfl (lv_at hl 0 rfl) ?_
        refine va_get (D := (dC, dI)) (ci := 6) (v := .ref q_order) (C := R_XD) (T := F_XD) (N := 6) hx hb hts i_XD hown hK hP 0 rfl rfl 1 (by decide) (hts _ k_65) (fun _ h9 => h9) rfl d_XD_insertEntry_29 ?_
        refine lv_iload_n hx hb d_XD_insertEntry_32 rfl (lv_at hl 2 rfl) ?_
        refine lv_aload_n hx hb d_XD_insertEntry_33 rfl (lv_at hl 0 rfl) ?_
        refine va_get (D := (dC, dI)) (ci := 6) (v := .ref q_order) (C := R_XD) (T := F_XD) (N := 6) hx hb hts i_XD hown hK hP 0 rfl rfl 1 (by decide) (hts _ k_65) (fun _ h9 => h9) rfl d_XD_insertEntry_34 ?_
        refine lv_iload_n hx hb d_XD_insertEntry_37 rfl (lv_at hl 2 rfl) ?_
        refine lv_iconst (v := (1 : Int32)) hx hb d_XD_insertEntry_38 (by decide) ?_
        refine lv_isub hx hb d_XD_insertEntry_39 ?_
        obtain ⟨h_10, hw⟩ := hw
        refine va_iald hx hb hK hP 2 0 rfl rfl h_10 d_XD_insertEntry_40 ?_
        obtain ⟨h_11, hw⟩ := hw
        refine va_iast hx hb hK hP hD hS 2 0 rfl rfl h_11 d_XD_insertEntry_41 (fun H locs hP hD hS => ?_)
        obtain ⟨f_12, ef_12⟩ : ∃ g : Nat → Int32, g = upd v_order l_3.toNatClampNeg (v_order (l_3 - (1 : Int32)).toNatClampNeg) := ⟨_, rfl⟩
        have hw := hw f_12 ef_12
        have hP : va_P (dC, dI) classes [(q_0, .inr (6, [.ref q_seconds, .ref q_order, .ref q_firstIn, .ref q_doubles, .int v_found, .ref q_goneOut])), (q_seconds, .inl (cI, 360, .inl v_seconds)), (q_order, .inl (cI, 6, .inl f_12))] H := by rw [ef_12]; exact hP
        have hD : va_D A [(q_0, .inr (6, [.ref q_seconds, .ref q_order, .ref q_firstIn, .ref q_doubles, .int v_found, .ref q_goneOut])), (q_seconds, .inl (cI, 360, .inl v_seconds)), (q_order, .inl (cI, 6, .inl f_12))] := by rw [ef_12]; exact hD
        obtain ⟨x_13, ex_13⟩ : ∃ y : Int32, y = l_3 + (-1 : Int32) := ⟨_, rfl⟩
        have hw := hw x_13 ex_13
        refine lv_iinc (v := x_13) (lv' := [(3, .int x_13), (0, .ref q_0), (1, .int l_1)]) hx hb d_XD_insertEntry_42 hl (k := 2) rfl (by rw [ex_13]; rfl) (by decide) rfl (fun ls hl => ?_)
        refine lv_goto (tgt := 2) hx hb d_XD_insertEntry_45 (by decide) ?_
        exact ih l_1 x_13 f_12 hw _ _ hP hD hS _ (lv_sub hl [1, 2, 0] rfl)
def wp_XD_insertEntry (post : (Nat → Int32) → Prop) (a_1 : Int32) (a_2 : Int32) (v_seconds : Nat → Int32) (v_order : Nat → Int32) : Prop := ∃ n_2, wp_XD_insertEntry_2 post v_seconds n_2 a_1 a_2 v_order
set_option maxHeartbeats 4000000 in
set_option maxRecDepth 100000 in
theorem c_XD_insertEntry (l : Launch) (hl9 : l.stackTraces = false) (dC : Nat → ClassId) (dI : Nat → Nat → Nat) (cI cJ cZ : ClassId) (q_0 q_seconds q_order q_firstIn q_doubles q_goneOut : Nat) (a_1 : Int32) (a_2 : Int32) (v_seconds : Nat → Int32) (v_order : Nat → Int32) (v_found : Int32) (post : (Nat → Int32) → Prop) (hw : wp_XD_insertEntry post a_1 a_2 v_seconds v_order) : Kv l y_XD_insertEntry b_XD_insertEntry 4 none ({ frames := 0, cells := 0, slots := 0, locals := 0 } : Room) dC dI cI cJ cZ [.ref q_0, .int a_1, .int a_2] [(q_0, .inr (6, [.ref q_seconds, .ref q_order, .ref q_firstIn, .ref q_doubles, .int v_found, .ref q_goneOut])), (q_seconds, .inl (cI, 360, .inl v_seconds)), (q_order, .inl (cI, 6, .inl v_order))] post (fun u : (Nat → Int32) => [(q_0, .inr (6, [.ref q_seconds, .ref q_order, .ref q_firstIn, .ref q_doubles, .int v_found, .ref q_goneOut])), (q_seconds, .inl (cI, 360, .inl v_seconds)), (q_order, .inl (cI, 6, .inl u))]) := by
  refine mkv hl9 (own := R_XD) rfl (by decide) ?_
  intro p e s m args below meth c A C0 hnm eav hP hD
  obtain ⟨-, hx, hb, hml, hr, hown, hts, hlocks, hK, hZ, hA, hNS⟩ := id C0
  subst eav
  have hS : va_S A s.heap s.heap [] := va_S.rf
  have hl := lv_entry ([.ref q_0, .int a_1, .int a_2]) (n := 4) (Nat.le_of_ble_eq_true rfl)
  rw [lg_entry_eq]
  generalize (lg_sl ([.ref q_0, .int a_1, .int a_2]) ++ List.replicate (4 - (lg_sl ([.ref q_0, .int a_1, .int a_2])).length) Slot.unset).toArray = ls at hl ⊢
  have hl : lv_has ls 4 [(0, .ref q_0), (1, .int a_1), (2, .int a_2)] := hl
  unfold wp_XD_insertEntry at hw
  refine lv_iload_n hx hb d_XD_insertEntry_0 rfl (lv_at hl 2 rfl) ?_
  refine lv_istore_n (lv' := [(3, .int a_2), (0, .ref q_0), (1, .int a_1), (2, .int a_2)]) hx hb d_XD_insertEntry_1 rfl hl (by decide) rfl (fun ls hl => ?_)
  obtain ⟨n_2, hw⟩ := hw
  exact t_XD_insertEntry_2 (post := post) C0 n_2 a_1 a_2 v_order hw _ _ hP hD hS _ (lv_sub hl [1, 2, 0] rfl)
theorem d_XD_sortEntries_0 : decode b_XD_sortEntries 0 = .ok (.iconst 0, 1) := by decide +kernel
theorem d_XD_sortEntries_1 : decode b_XD_sortEntries 1 = .ok (.istore_n 2, 1) := by decide +kernel
theorem d_XD_sortEntries_2 : decode b_XD_sortEntries 2 = .ok (.iconst 0, 1) := by decide +kernel
theorem d_XD_sortEntries_3 : decode b_XD_sortEntries 3 = .ok (.istore_n 3, 1) := by decide +kernel
theorem d_XD_sortEntries_4 : decode b_XD_sortEntries 4 = .ok (.iload_n 3, 1) := by decide +kernel
theorem d_XD_sortEntries_5 : decode b_XD_sortEntries 5 = .ok (.bipush 6, 2) := by decide +kernel
theorem d_XD_sortEntries_7 : decode b_XD_sortEntries 7 = .ok (.if_icmp .ge 32, 3) := by decide +kernel
theorem d_XD_sortEntries_10 : decode b_XD_sortEntries 10 = .ok (.aload_n 0, 1) := by decide +kernel
theorem d_XD_sortEntries_11 : decode b_XD_sortEntries 11 = .ok (.iload_n 3, 1) := by decide +kernel
theorem d_XD_sortEntries_12 : decode b_XD_sortEntries 12 = .ok (.iload_n 1, 1) := by decide +kernel
theorem d_XD_sortEntries_13 : decode b_XD_sortEntries 13 = .ok (.invokevirtual 33, 3) := by decide +kernel
theorem d_XD_sortEntries_16 : decode b_XD_sortEntries 16 = .ok (.ifCond .eq 17, 3) := by decide +kernel
theorem d_XD_sortEntries_19 : decode b_XD_sortEntries 19 = .ok (.aload_n 0, 1) := by decide +kernel
theorem d_XD_sortEntries_20 : decode b_XD_sortEntries 20 = .ok (.iload_n 1, 1) := by decide +kernel
theorem d_XD_sortEntries_21 : decode b_XD_sortEntries 21 = .ok (.bipush 6, 2) := by decide +kernel
theorem d_XD_sortEntries_23 : decode b_XD_sortEntries 23 = .ok (.imul, 1) := by decide +kernel
theorem d_XD_sortEntries_24 : decode b_XD_sortEntries 24 = .ok (.iload_n 3, 1) := by decide +kernel
theorem d_XD_sortEntries_25 : decode b_XD_sortEntries 25 = .ok (.iadd, 1) := by decide +kernel
theorem d_XD_sortEntries_26 : decode b_XD_sortEntries 26 = .ok (.iload_n 2, 1) := by decide +kernel
theorem d_XD_sortEntries_27 : decode b_XD_sortEntries 27 = .ok (.invokevirtual 45, 3) := by decide +kernel
theorem d_XD_sortEntries_30 : decode b_XD_sortEntries 30 = .ok (.iinc 2 1, 3) := by decide +kernel
theorem d_XD_sortEntries_33 : decode b_XD_sortEntries 33 = .ok (.iinc 3 1, 3) := by decide +kernel
theorem d_XD_sortEntries_36 : decode b_XD_sortEntries 36 = .ok (.goto (-32), 3) := by decide +kernel
theorem d_XD_sortEntries_39 : decode b_XD_sortEntries 39 = .ok (.iload_n 2, 1) := by decide +kernel
theorem d_XD_sortEntries_40 : decode b_XD_sortEntries 40 = .ok (.ireturn, 1) := by decide +kernel
def gl_XD_sortEntries_4 (p : Program) (l : Launch) (e : Env) (s : State) (m : MethodId) (args : Array Value) (below : List Frame) (meth : Method) (c : Code) (R : Room) (A : Nat → Prop) (Q : State → Prop) (dC : Nat → ClassId) (dI : Nat → Nat → Nat) (cI cJ cZ : ClassId) (q_0 q_seconds q_order q_firstIn q_doubles q_goneOut : Nat) (v_seconds : Nat → Int32) (v_found : Int32) (l_1 : Int32) (l_2 : Int32) (l_3 : Int32) (v_order : Nat → Int32) : Prop :=
  ∀ (H : Heap) (locs : List Loc), va_P (dC, dI) classes [(q_0, .inr (6, [.ref q_seconds, .ref q_order, .ref q_firstIn, .ref q_doubles, .int v_found, .ref q_goneOut])), (q_seconds, .inl (cI, 360, .inl v_seconds)), (q_order, .inl (cI, 6, .inl v_order))] H → va_D A [(q_0, .inr (6, [.ref q_seconds, .ref q_order, .ref q_firstIn, .ref q_doubles, .int v_found, .ref q_goneOut])), (q_seconds, .inl (cI, 360, .inl v_seconds)), (q_order, .inl (cI, 6, .inl v_order))] → va_S A s.heap H locs → ∀ ls : Array Slot, lv_has ls 4 [(0, .ref q_0), (1, .int l_1), (2, .int l_2), (3, .int l_3)] → W p l e R s m args below meth c H locs 0 0 Q (F0 m 4 ls [])
def wp_XD_sortEntries_4 (post : Int32 → (Nat → Int32) → Prop) (v_seconds : Nat → Int32) : Nat → Int32 → Int32 → Int32 → (Nat → Int32) → Prop
  | 0 => fun _ _ _ _ => False
  | n_4 + 1 => fun l_1 l_2 l_3 v_order => (((6 : Int32) ≤ l_3 → post l_2 v_order) ∧ (¬ ((6 : Int32) ≤ l_3) → wp_XD_hasLetIn (fun r_2 _ => ((r_2 = 0 → (∀ x_4 : Int32, x_4 = l_3 + (1 : Int32) → (wp_XD_sortEntries_4 post v_seconds n_4) l_1 l_2 x_4 v_order)) ∧ (¬ (r_2 = 0) → wp_XD_insertEntry (fun f_5 => (∀ x_6 : Int32, x_6 = l_2 + (1 : Int32) → (∀ x_7 : Int32, x_7 = l_3 + (1 : Int32) → (wp_XD_sortEntries_4 post v_seconds n_4) l_1 x_6 x_7 f_5))) ((l_1 * (6 : Int32)) + l_3) l_2 v_seconds v_order))) l_3 l_1 v_seconds))
set_option maxHeartbeats 4000000 in
set_option maxRecDepth 100000 in
theorem t_XD_sortEntries_4 {p : Program} {l : Launch} {e : Env} {s : State} {m : MethodId} {args : Array Value} {below : List Frame} {meth : Method} {c : Code} {dC : Nat → ClassId} {dI : Nat → Nat → Nat} {cI cJ cZ : ClassId} {A : Nat → Prop} {q_0 : Nat} {q_seconds : Nat} {q_order : Nat} {q_firstIn : Nat} {q_doubles : Nat} {q_goneOut : Nat} {v_seconds : Nat → Int32} {v_found : Int32} {post : Int32 → (Nat → Int32) → Prop} (C0 : cxM b_XD_sortEntries 4 (some .int) R_XD l dC dI cI cJ cZ A p s m args meth c) : ∀ (n_4 : Nat) (l_1 : Int32) (l_2 : Int32) (l_3 : Int32) (v_order : Nat → Int32), wp_XD_sortEntries_4 post v_seconds n_4 l_1 l_2 l_3 v_order → gl_XD_sortEntries_4 p l e s m args below meth c ({ frames := 1, cells := 0, slots := 0, locals := 23 } : Room) A (Qi below args s A dC dI cI cJ cZ ({ frames := 1, cells := 0, slots := 0, locals := 23 } : Room) post (fun u : (Nat → Int32) => [(q_0, .inr (6, [.ref q_seconds, .ref q_order, .ref q_firstIn, .ref q_doubles, .int v_found, .ref q_goneOut])), (q_seconds, .inl (cI, 360, .inl v_seconds)), (q_order, .inl (cI, 6, .inl u))])) dC dI cI cJ cZ q_0 q_seconds q_order q_firstIn q_doubles q_goneOut v_seconds v_found l_1 l_2 l_3 v_order := by
  obtain ⟨hl9, hx, hb, hml, hr, hown, hts, hlocks, hK, hZ, hA, hNS⟩ := id C0
  intro n_4
  induction n_4 with
  | zero => intro _ _ _ _ hw; exact hw.elim
  | succ n_4 ih =>
    intro l_1 l_2 l_3 v_order hw H locs hP hD hS ls hl
    refine lv_iload_n hx hb d_XD_sortEntries_4 rfl (lv_at hl 3 rfl) ?_
    refine lv_bipush (v := (6 : Int32)) hx hb d_XD_sortEntries_5 (by decide) ?_
    refine lv_icmp_ge (tgt := 39) hx hb d_XD_sortEntries_7 (by decide) (fun c_1 => ?_) (fun c_1 => ?_)
    · have hw := hw.1 c_1
      refine lv_iload_n hx hb d_XD_sortEntries_39 rfl (lv_at hl 2 rfl) ?_
      exact rt_i (u := v_order) C0 hw hP hD hS (by decide) (by decide) d_XD_sortEntries_40
    · have hw := hw.2 c_1
      refine lv_aload_n hx hb d_XD_sortEntries_10 rfl (lv_at hl 0 rfl) ?_
      refine lv_iload_n hx hb d_XD_sortEntries_11 rfl (lv_at hl 3 rfl) ?_
      refine lv_iload_n hx hb d_XD_sortEntries_12 rfl (lv_at hl 1 rfl) ?_
      refine jn_i C0 hP hD hS [0, 1] [2] (ru_V C0 (As := [.int l_3, .int l_1]) (rest := []) (c_XD_hasLetIn l hl9 dC dI cI cJ cZ q_0 q_seconds q_order q_firstIn q_doubles q_goneOut l_3 l_1 v_seconds v_found _ hw _) k_152 k_153 k_154 k_155 k_62 (n9 := 2) (by decide +kernel) rfl (ci := 6) rfl rfl ⟨Nat.le_of_ble_eq_true rfl, Nat.le_of_ble_eq_true rfl⟩ hP hD hS [0, 1] rfl (by decide) hl.1 rfl (Nat.le_of_ble_eq_true rfl) d_XD_sortEntries_13 ⟨Nat.le_of_ble_eq_true rfl, Nat.le_of_ble_eq_true rfl⟩) rfl rfl (by decide) (by decide) (fun r_2 u H locs hw hP hD hS => ?_)
      try dsimp only at hw
      have hP : va_P (dC, dI) classes [(q_order, .inl (cI, 6, .inl v_order)), (q_0, .inr (6, [.ref q_seconds, .ref q_order, .ref q_firstIn, .ref q_doubles, .int v_found, .ref q_goneOut])), (q_seconds, .inl (cI, 360, .inl v_seconds))] H := hP
      have hD : va_D A [(q_order, .inl (cI, 6, .inl v_order)), (q_0, .inr (6, [.ref q_seconds, .ref q_order, .ref q_firstIn, .ref q_doubles, .int v_found, .ref q_goneOut])), (q_seconds, .inl (cI, 360, .inl v_seconds))] := hD
      refine lv_if_eq (tgt := 33) hx hb d_XD_sortEntries_16 (by decide) (fun c_3 => ?_) (fun c_3 => ?_)
      · have hw := hw.1 c_3
        obtain ⟨x_4, ex_4⟩ : ∃ y : Int32, y = l_3 + (1 : Int32) := ⟨_, rfl⟩
        have hw := hw x_4 ex_4
        refine lv_iinc (v := x_4) (lv' := [(3, .int x_4), (0, .ref q_0), (1, .int l_1), (2, .int l_2)]) hx hb d_XD_sortEntries_33 hl (k := 3) rfl (by rw [ex_4]; rfl) (by decide) rfl (fun ls hl => ?_)
        refine lv_goto (tgt := 4) hx hb d_XD_sortEntries_36 (by decide) ?_
        exact ih l_1 l_2 x_4 v_order hw _ _ (hP.sub [1, 2, 0] rfl) (hD.sub [1, 2, 0] (by decide) rfl) hS _ (lv_sub hl [1, 2, 3, 0] rfl)
      · have hw := hw.2 c_3
        refine lv_aload_n hx hb d_XD_sortEntries_19 rfl (lv_at hl 0 rfl) ?_
        refine lv_iload_n hx hb d_XD_sortEntries_20 rfl (lv_at hl 1 rfl) ?_
        refine lv_bipush (v := (6 : Int32)) hx hb d_XD_sortEntries_21 (by decide) ?_
        refine lv_imul hx hb d_XD_sortEntries_23 ?_
        refine lv_iload_n hx hb d_XD_sortEntries_24 rfl (lv_at hl 3 rfl) ?_
        refine lv_iadd hx hb d_XD_sortEntries_25 ?_
        refine lv_iload_n hx hb d_XD_sortEntries_26 rfl (lv_at hl 2 rfl) ?_
        refine jn_v C0 hP hD hS [1, 2, 0] [] (ru_V C0 (As := [.int ((l_1 * (6 : Int32)) + l_3), .int l_2]) (rest := []) (c_XD_insertEntry l hl9 dC dI cI cJ cZ q_0 q_seconds q_order q_firstIn q_doubles q_goneOut ((l_1 * (6 : Int32)) + l_3) l_2 v_seconds v_order v_found _ hw _) k_268 k_269 k_270 k_271 k_62 (n9 := 2) (by decide +kernel) rfl (ci := 6) rfl rfl ⟨Nat.le_of_ble_eq_true rfl, Nat.le_of_ble_eq_true rfl⟩ hP hD hS [1, 2, 0] rfl (by decide) hl.1 rfl (Nat.le_of_ble_eq_true rfl) d_XD_sortEntries_27 ⟨Nat.le_of_ble_eq_true rfl, Nat.le_of_ble_eq_true rfl⟩) rfl rfl (by decide) (by decide) (fun u H locs hw hP hD hS => ?_)
        obtain ⟨f_5, rfl⟩ : ∃ z9, z9 = u := ⟨_, rfl⟩
        try dsimp only at hw
        have hP : va_P (dC, dI) classes [(q_0, .inr (6, [.ref q_seconds, .ref q_order, .ref q_firstIn, .ref q_doubles, .int v_found, .ref q_goneOut])), (q_seconds, .inl (cI, 360, .inl v_seconds)), (q_order, .inl (cI, 6, .inl f_5))] H := hP
        have hD : va_D A [(q_0, .inr (6, [.ref q_seconds, .ref q_order, .ref q_firstIn, .ref q_doubles, .int v_found, .ref q_goneOut])), (q_seconds, .inl (cI, 360, .inl v_seconds)), (q_order, .inl (cI, 6, .inl f_5))] := hD
        obtain ⟨x_6, ex_6⟩ : ∃ y : Int32, y = l_2 + (1 : Int32) := ⟨_, rfl⟩
        have hw := hw x_6 ex_6
        refine lv_iinc (v := x_6) (lv' := [(2, .int x_6), (0, .ref q_0), (1, .int l_1), (3, .int l_3)]) hx hb d_XD_sortEntries_30 hl (k := 2) rfl (by rw [ex_6]; rfl) (by decide) rfl (fun ls hl => ?_)
        obtain ⟨x_7, ex_7⟩ : ∃ y : Int32, y = l_3 + (1 : Int32) := ⟨_, rfl⟩
        have hw := hw x_7 ex_7
        refine lv_iinc (v := x_7) (lv' := [(3, .int x_7), (2, .int x_6), (0, .ref q_0), (1, .int l_1)]) hx hb d_XD_sortEntries_33 hl (k := 3) rfl (by rw [ex_7]; rfl) (by decide) rfl (fun ls hl => ?_)
        refine lv_goto (tgt := 4) hx hb d_XD_sortEntries_36 (by decide) ?_
        exact ih l_1 x_6 x_7 f_5 hw _ _ hP hD hS _ (lv_sub hl [2, 3, 1, 0] rfl)
def wp_XD_sortEntries (post : Int32 → (Nat → Int32) → Prop) (a_1 : Int32) (v_seconds : Nat → Int32) (v_order : Nat → Int32) : Prop := ∃ n_4, wp_XD_sortEntries_4 post v_seconds n_4 a_1 (0 : Int32) (0 : Int32) v_order
set_option maxHeartbeats 4000000 in
set_option maxRecDepth 100000 in
theorem c_XD_sortEntries (l : Launch) (hl9 : l.stackTraces = false) (dC : Nat → ClassId) (dI : Nat → Nat → Nat) (cI cJ cZ : ClassId) (q_0 q_seconds q_order q_firstIn q_doubles q_goneOut : Nat) (a_1 : Int32) (v_seconds : Nat → Int32) (v_order : Nat → Int32) (v_found : Int32) (post : Int32 → (Nat → Int32) → Prop) (hw : wp_XD_sortEntries post a_1 v_seconds v_order) : Ki l y_XD_sortEntries b_XD_sortEntries 4 (some .int) ({ frames := 1, cells := 0, slots := 0, locals := 23 } : Room) dC dI cI cJ cZ [.ref q_0, .int a_1] [(q_0, .inr (6, [.ref q_seconds, .ref q_order, .ref q_firstIn, .ref q_doubles, .int v_found, .ref q_goneOut])), (q_seconds, .inl (cI, 360, .inl v_seconds)), (q_order, .inl (cI, 6, .inl v_order))] post (fun u : (Nat → Int32) => [(q_0, .inr (6, [.ref q_seconds, .ref q_order, .ref q_firstIn, .ref q_doubles, .int v_found, .ref q_goneOut])), (q_seconds, .inl (cI, 360, .inl v_seconds)), (q_order, .inl (cI, 6, .inl u))]) := by
  refine mki hl9 (own := R_XD) rfl (by decide) ?_
  intro p e s m args below meth c A C0 hnm eav hP hD
  obtain ⟨-, hx, hb, hml, hr, hown, hts, hlocks, hK, hZ, hA, hNS⟩ := id C0
  subst eav
  have hS : va_S A s.heap s.heap [] := va_S.rf
  have hl := lv_entry ([.ref q_0, .int a_1]) (n := 4) (Nat.le_of_ble_eq_true rfl)
  rw [lg_entry_eq]
  generalize (lg_sl ([.ref q_0, .int a_1]) ++ List.replicate (4 - (lg_sl ([.ref q_0, .int a_1])).length) Slot.unset).toArray = ls at hl ⊢
  have hl : lv_has ls 4 [(0, .ref q_0), (1, .int a_1)] := hl
  unfold wp_XD_sortEntries at hw
  refine lv_iconst (v := (0 : Int32)) hx hb d_XD_sortEntries_0 (by decide) ?_
  refine lv_istore_n (lv' := [(2, .int (0 : Int32)), (0, .ref q_0), (1, .int a_1)]) hx hb d_XD_sortEntries_1 rfl hl (by decide) rfl (fun ls hl => ?_)
  refine lv_iconst (v := (0 : Int32)) hx hb d_XD_sortEntries_2 (by decide) ?_
  refine lv_istore_n (lv' := [(3, .int (0 : Int32)), (2, .int (0 : Int32)), (0, .ref q_0), (1, .int a_1)]) hx hb d_XD_sortEntries_3 rfl hl (by decide) rfl (fun ls hl => ?_)
  obtain ⟨n_4, hw⟩ := hw
  exact t_XD_sortEntries_4 (post := post) C0 n_4 a_1 (0 : Int32) (0 : Int32) v_order hw _ _ hP hD hS _ (lv_sub hl [2, 3, 1, 0] rfl)
theorem d_XD_joinAll_0 : decode b_XD_joinAll 0 = .ok (.aload_n 0, 1) := by decide +kernel
theorem d_XD_joinAll_1 : decode b_XD_joinAll 1 = .ok (.iconst 0, 1) := by decide +kernel
theorem d_XD_joinAll_2 : decode b_XD_joinAll 2 = .ok (.putfield 37, 3) := by decide +kernel
theorem d_XD_joinAll_5 : decode b_XD_joinAll 5 = .ok (.iconst 0, 1) := by decide +kernel
theorem d_XD_joinAll_6 : decode b_XD_joinAll 6 = .ok (.istore_n 1, 1) := by decide +kernel
theorem d_XD_joinAll_7 : decode b_XD_joinAll 7 = .ok (.iload_n 1, 1) := by decide +kernel
theorem d_XD_joinAll_8 : decode b_XD_joinAll 8 = .ok (.bipush 60, 2) := by decide +kernel
theorem d_XD_joinAll_10 : decode b_XD_joinAll 10 = .ok (.if_icmp .ge 74, 3) := by decide +kernel
theorem d_XD_joinAll_13 : decode b_XD_joinAll 13 = .ok (.aload_n 0, 1) := by decide +kernel
theorem d_XD_joinAll_14 : decode b_XD_joinAll 14 = .ok (.iload_n 1, 1) := by decide +kernel
theorem d_XD_joinAll_15 : decode b_XD_joinAll 15 = .ok (.invokevirtual 41, 3) := by decide +kernel
theorem d_XD_joinAll_18 : decode b_XD_joinAll 18 = .ok (.istore_n 2, 1) := by decide +kernel
theorem d_XD_joinAll_19 : decode b_XD_joinAll 19 = .ok (.iload_n 2, 1) := by decide +kernel
theorem d_XD_joinAll_20 : decode b_XD_joinAll 20 = .ok (.ifCond .le 20, 3) := by decide +kernel
theorem d_XD_joinAll_23 : decode b_XD_joinAll 23 = .ok (.aload_n 0, 1) := by decide +kernel
theorem d_XD_joinAll_24 : decode b_XD_joinAll 24 = .ok (.getfield 18, 3) := by decide +kernel
theorem d_XD_joinAll_27 : decode b_XD_joinAll 27 = .ok (.iload_n 1, 1) := by decide +kernel
theorem d_XD_joinAll_28 : decode b_XD_joinAll 28 = .ok (.aload_n 0, 1) := by decide +kernel
theorem d_XD_joinAll_29 : decode b_XD_joinAll 29 = .ok (.getfield 9, 3) := by decide +kernel
theorem d_XD_joinAll_32 : decode b_XD_joinAll 32 = .ok (.aload_n 0, 1) := by decide +kernel
theorem d_XD_joinAll_33 : decode b_XD_joinAll 33 = .ok (.getfield 15, 3) := by decide +kernel
theorem d_XD_joinAll_36 : decode b_XD_joinAll 36 = .ok (.iconst 0, 1) := by decide +kernel
theorem d_XD_joinAll_37 : decode b_XD_joinAll 37 = .ok (.iaload, 1) := by decide +kernel
theorem d_XD_joinAll_38 : decode b_XD_joinAll 38 = .ok (.iaload, 1) := by decide +kernel
theorem d_XD_joinAll_39 : decode b_XD_joinAll 39 = .ok (.iastore, 1) := by decide +kernel
theorem d_XD_joinAll_40 : decode b_XD_joinAll 40 = .ok (.iconst 1, 1) := by decide +kernel
theorem d_XD_joinAll_41 : decode b_XD_joinAll 41 = .ok (.istore_n 3, 1) := by decide +kernel
theorem d_XD_joinAll_42 : decode b_XD_joinAll 42 = .ok (.iload_n 3, 1) := by decide +kernel
theorem d_XD_joinAll_43 : decode b_XD_joinAll 43 = .ok (.iload_n 2, 1) := by decide +kernel
theorem d_XD_joinAll_44 : decode b_XD_joinAll 44 = .ok (.if_icmp .ge 34, 3) := by decide +kernel
theorem d_XD_joinAll_47 : decode b_XD_joinAll 47 = .ok (.aload_n 0, 1) := by decide +kernel
theorem d_XD_joinAll_48 : decode b_XD_joinAll 48 = .ok (.getfield 21, 3) := by decide +kernel
theorem d_XD_joinAll_51 : decode b_XD_joinAll 51 = .ok (.aload_n 0, 1) := by decide +kernel
theorem d_XD_joinAll_52 : decode b_XD_joinAll 52 = .ok (.getfield 37, 3) := by decide +kernel
theorem d_XD_joinAll_55 : decode b_XD_joinAll 55 = .ok (.aload_n 0, 1) := by decide +kernel
theorem d_XD_joinAll_56 : decode b_XD_joinAll 56 = .ok (.getfield 15, 3) := by decide +kernel
theorem d_XD_joinAll_59 : decode b_XD_joinAll 59 = .ok (.iload_n 3, 1) := by decide +kernel
theorem d_XD_joinAll_60 : decode b_XD_joinAll 60 = .ok (.iaload, 1) := by decide +kernel
theorem d_XD_joinAll_61 : decode b_XD_joinAll 61 = .ok (.iastore, 1) := by decide +kernel
theorem d_XD_joinAll_62 : decode b_XD_joinAll 62 = .ok (.aload_n 0, 1) := by decide +kernel
theorem d_XD_joinAll_63 : decode b_XD_joinAll 63 = .ok (.dup, 1) := by decide +kernel
theorem d_XD_joinAll_64 : decode b_XD_joinAll 64 = .ok (.getfield 37, 3) := by decide +kernel
theorem d_XD_joinAll_67 : decode b_XD_joinAll 67 = .ok (.iconst 1, 1) := by decide +kernel
theorem d_XD_joinAll_68 : decode b_XD_joinAll 68 = .ok (.iadd, 1) := by decide +kernel
theorem d_XD_joinAll_69 : decode b_XD_joinAll 69 = .ok (.putfield 37, 3) := by decide +kernel
theorem d_XD_joinAll_72 : decode b_XD_joinAll 72 = .ok (.iinc 3 1, 3) := by decide +kernel
theorem d_XD_joinAll_75 : decode b_XD_joinAll 75 = .ok (.goto (-33), 3) := by decide +kernel
theorem d_XD_joinAll_78 : decode b_XD_joinAll 78 = .ok (.iinc 1 1, 3) := by decide +kernel
theorem d_XD_joinAll_81 : decode b_XD_joinAll 81 = .ok (.goto (-74), 3) := by decide +kernel
theorem d_XD_joinAll_84 : decode b_XD_joinAll 84 = .ok (.aload_n 0, 1) := by decide +kernel
theorem d_XD_joinAll_85 : decode b_XD_joinAll 85 = .ok (.getfield 37, 3) := by decide +kernel
theorem d_XD_joinAll_88 : decode b_XD_joinAll 88 = .ok (.ireturn, 1) := by decide +kernel
def gl_XD_joinAll_42 (p : Program) (l : Launch) (e : Env) (s : State) (m : MethodId) (args : Array Value) (below : List Frame) (meth : Method) (c : Code) (R : Room) (A : Nat → Prop) (Q : State → Prop) (dC : Nat → ClassId) (dI : Nat → Nat → Nat) (cI cJ cZ : ClassId) (q_0 q_seconds q_order q_firstIn q_doubles q_goneOut : Nat) (v_seconds : Nat → Int32) (l_1 : Int32) (l_2 : Int32) (l_3 : Int32) (v_order : Nat → Int32) (v_firstIn : Nat → Int32) (v_doubles : Nat → Int32) (v_found : Int32) : Prop :=
  ∀ (H : Heap) (locs : List Loc), va_P (dC, dI) classes [(q_0, .inr (6, [.ref q_seconds, .ref q_order, .ref q_firstIn, .ref q_doubles, .int v_found, .ref q_goneOut])), (q_seconds, .inl (cI, 360, .inl v_seconds)), (q_order, .inl (cI, 6, .inl v_order)), (q_firstIn, .inl (cI, 60, .inl v_firstIn)), (q_doubles, .inl (cI, 300, .inl v_doubles))] H → va_D A [(q_0, .inr (6, [.ref q_seconds, .ref q_order, .ref q_firstIn, .ref q_doubles, .int v_found, .ref q_goneOut])), (q_seconds, .inl (cI, 360, .inl v_seconds)), (q_order, .inl (cI, 6, .inl v_order)), (q_firstIn, .inl (cI, 60, .inl v_firstIn)), (q_doubles, .inl (cI, 300, .inl v_doubles))] → va_S A s.heap H locs → ∀ ls : Array Slot, lv_has ls 4 [(0, .ref q_0), (1, .int l_1), (2, .int l_2), (3, .int l_3)] → W p l e R s m args below meth c H locs 0 0 Q (F0 m 42 ls [])
def gl_XD_joinAll_7 (p : Program) (l : Launch) (e : Env) (s : State) (m : MethodId) (args : Array Value) (below : List Frame) (meth : Method) (c : Code) (R : Room) (A : Nat → Prop) (Q : State → Prop) (dC : Nat → ClassId) (dI : Nat → Nat → Nat) (cI cJ cZ : ClassId) (q_0 q_seconds q_order q_firstIn q_doubles q_goneOut : Nat) (v_seconds : Nat → Int32) (l_1 : Int32) (v_order : Nat → Int32) (v_firstIn : Nat → Int32) (v_doubles : Nat → Int32) (v_found : Int32) : Prop :=
  ∀ (H : Heap) (locs : List Loc), va_P (dC, dI) classes [(q_0, .inr (6, [.ref q_seconds, .ref q_order, .ref q_firstIn, .ref q_doubles, .int v_found, .ref q_goneOut])), (q_seconds, .inl (cI, 360, .inl v_seconds)), (q_order, .inl (cI, 6, .inl v_order)), (q_firstIn, .inl (cI, 60, .inl v_firstIn)), (q_doubles, .inl (cI, 300, .inl v_doubles))] H → va_D A [(q_0, .inr (6, [.ref q_seconds, .ref q_order, .ref q_firstIn, .ref q_doubles, .int v_found, .ref q_goneOut])), (q_seconds, .inl (cI, 360, .inl v_seconds)), (q_order, .inl (cI, 6, .inl v_order)), (q_firstIn, .inl (cI, 60, .inl v_firstIn)), (q_doubles, .inl (cI, 300, .inl v_doubles))] → va_S A s.heap H locs → ∀ ls : Array Slot, lv_has ls 4 [(0, .ref q_0), (1, .int l_1)] → W p l e R s m args below meth c H locs 0 0 Q (F0 m 7 ls [])
def wp_XD_joinAll_42 (post : Int32 → ((Nat → Int32) × (Nat → Int32) × (Nat → Int32) × (Int32)) → Prop) (v_seconds : Nat → Int32) (k_7 : Int32 → (Nat → Int32) → (Nat → Int32) → (Nat → Int32) → Int32 → Prop) : Nat → Int32 → Int32 → Int32 → (Nat → Int32) → (Nat → Int32) → (Nat → Int32) → Int32 → Prop
  | 0 => fun _ _ _ _ _ _ _ => False
  | n_42 + 1 => fun l_1 l_2 l_3 v_order v_firstIn v_doubles v_found => ((l_2 ≤ l_3 → (∀ x_9 : Int32, x_9 = l_1 + (1 : Int32) → k_7 x_9 v_order v_firstIn v_doubles v_found)) ∧ (¬ (l_2 ≤ l_3) → (vp_in l_3 6 ∧ (vp_in v_found 300 ∧ (∀ f_12 : Nat → Int32, f_12 = upd v_doubles v_found.toNatClampNeg (v_order l_3.toNatClampNeg) → (∀ x_13 : Int32, x_13 = v_found + (1 : Int32) → (∀ x_14 : Int32, x_14 = l_3 + (1 : Int32) → (wp_XD_joinAll_42 post v_seconds k_7 n_42) l_1 l_2 x_14 v_order v_firstIn f_12 x_13)))))))
set_option maxHeartbeats 4000000 in
set_option maxRecDepth 100000 in
theorem t_XD_joinAll_42 {p : Program} {l : Launch} {e : Env} {s : State} {m : MethodId} {args : Array Value} {below : List Frame} {meth : Method} {c : Code} {dC : Nat → ClassId} {dI : Nat → Nat → Nat} {cI cJ cZ : ClassId} {A : Nat → Prop} {q_0 : Nat} {q_seconds : Nat} {q_order : Nat} {q_firstIn : Nat} {q_doubles : Nat} {q_goneOut : Nat} {v_seconds : Nat → Int32} {post : Int32 → ((Nat → Int32) × (Nat → Int32) × (Nat → Int32) × (Int32)) → Prop} (C0 : cxM b_XD_joinAll 4 (some .int) R_XD l dC dI cI cJ cZ A p s m args meth c) {k_7 : Int32 → (Nat → Int32) → (Nat → Int32) → (Nat → Int32) → Int32 → Prop} (hk_7 : ∀ (l_1 : Int32) (v_order : Nat → Int32) (v_firstIn : Nat → Int32) (v_doubles : Nat → Int32) (v_found : Int32), k_7 l_1 v_order v_firstIn v_doubles v_found → gl_XD_joinAll_7 p l e s m args below meth c ({ frames := 2, cells := 0, slots := 0, locals := 46 } : Room) A (Qi below args s A dC dI cI cJ cZ ({ frames := 2, cells := 0, slots := 0, locals := 46 } : Room) post (fun u : (Nat → Int32) × (Nat → Int32) × (Nat → Int32) × (Int32) => [(q_0, .inr (6, [.ref q_seconds, .ref q_order, .ref q_firstIn, .ref q_doubles, .int u.2.2.2, .ref q_goneOut])), (q_seconds, .inl (cI, 360, .inl v_seconds)), (q_order, .inl (cI, 6, .inl u.1)), (q_firstIn, .inl (cI, 60, .inl u.2.1)), (q_doubles, .inl (cI, 300, .inl u.2.2.1))])) dC dI cI cJ cZ q_0 q_seconds q_order q_firstIn q_doubles q_goneOut v_seconds l_1 v_order v_firstIn v_doubles v_found) : ∀ (n_42 : Nat) (l_1 : Int32) (l_2 : Int32) (l_3 : Int32) (v_order : Nat → Int32) (v_firstIn : Nat → Int32) (v_doubles : Nat → Int32) (v_found : Int32), wp_XD_joinAll_42 post v_seconds k_7 n_42 l_1 l_2 l_3 v_order v_firstIn v_doubles v_found → gl_XD_joinAll_42 p l e s m args below meth c ({ frames := 2, cells := 0, slots := 0, locals := 46 } : Room) A (Qi below args s A dC dI cI cJ cZ ({ frames := 2, cells := 0, slots := 0, locals := 46 } : Room) post (fun u : (Nat → Int32) × (Nat → Int32) × (Nat → Int32) × (Int32) => [(q_0, .inr (6, [.ref q_seconds, .ref q_order, .ref q_firstIn, .ref q_doubles, .int u.2.2.2, .ref q_goneOut])), (q_seconds, .inl (cI, 360, .inl v_seconds)), (q_order, .inl (cI, 6, .inl u.1)), (q_firstIn, .inl (cI, 60, .inl u.2.1)), (q_doubles, .inl (cI, 300, .inl u.2.2.1))])) dC dI cI cJ cZ q_0 q_seconds q_order q_firstIn q_doubles q_goneOut v_seconds l_1 l_2 l_3 v_order v_firstIn v_doubles v_found := by
  obtain ⟨hl9, hx, hb, hml, hr, hown, hts, hlocks, hK, hZ, hA, hNS⟩ := id C0
  intro n_42
  induction n_42 with
  | zero => intro _ _ _ _ _ _ _ hw; exact hw.elim
  | succ n_42 ih =>
    intro l_1 l_2 l_3 v_order v_firstIn v_doubles v_found hw H locs hP hD hS ls hl
    refine lv_iload_n hx hb d_XD_joinAll_42 rfl (lv_at hl 3 rfl) ?_
    refine lv_iload_n hx hb d_XD_joinAll_43 rfl (lv_at hl 2 rfl) ?_
    refine lv_icmp_ge (tgt := 78) hx hb d_XD_joinAll_44 (by decide) (fun c_8 => ?_) (fun c_8 => ?_)
    · have hw := hw.1 c_8
      obtain ⟨x_9, ex_9⟩ : ∃ y : Int32, y = l_1 + (1 : Int32) := ⟨_, rfl⟩
      have hw := hw x_9 ex_9
      refine lv_iinc (v := x_9) (lv' := [(1, .int x_9), (0, .ref q_0), (2, .int l_2), (3, .int l_3)]) hx hb d_XD_joinAll_78 hl (k := 1) rfl (by rw [ex_9]; rfl) (by decide) rfl (fun ls hl => ?_)
      refine lv_goto (tgt := 7) hx hb d_XD_joinAll_81 (by decide) ?_
      exact hk_7 x_9 v_order v_firstIn v_doubles v_found hw _ _ hP hD hS _ (lv_sub hl [1, 0] rfl)
    · have hw := hw.2 c_8
      refine lv_aload_n hx hb d_XD_joinAll_47 rfl (lv_at hl 0 rfl) ?_
      refine va_get (D := (dC, dI)) (ci := 6) (v := .ref q_doubles) (C := R_XD) (T := F_XD) (N := 6) hx hb hts i_XD hown hK hP 0 rfl rfl 3 (by decide) (hts _ k_67) (fun _ h9 => h9) rfl d_XD_joinAll_48 ?_
      refine lv_aload_n hx hb d_XD_joinAll_51 rfl (lv_at hl 0 rfl) ?_
      refine va_get (D := (dC, dI)) (ci := 6) (v := .int v_found) (C := R_XD) (T := F_XD) (N := 6) hx hb hts i_XD hown hK hP 0 rfl rfl 4 (by decide) (hts _ k_267) (fun _ h9 => h9) rfl d_XD_joinAll_52 ?_
      refine lv_aload_n hx hb d_XD_joinAll_55 rfl (lv_at hl 0 rfl) ?_
      refine va_get (D := (dC, dI)) (ci := 6) (v := .ref q_order) (C := R_XD) (T := F_XD) (N := 6) hx hb hts i_XD hown hK hP 0 rfl rfl 1 (by decide) (hts _ k_65) (fun _ h9 => h9) rfl d_XD_joinAll_56 ?_
      refine lv_iload_n hx hb d_XD_joinAll_59 rfl (lv_at hl 3 rfl) ?_
      obtain ⟨h_10, hw⟩ := hw
      refine va_iald hx hb hK hP 2 0 rfl rfl h_10 d_XD_joinAll_60 ?_
      obtain ⟨h_11, hw⟩ := hw
      refine va_iast hx hb hK hP hD hS 4 0 rfl rfl h_11 d_XD_joinAll_61 (fun H locs hP hD hS => ?_)
      obtain ⟨f_12, ef_12⟩ : ∃ g : Nat → Int32, g = upd v_doubles v_found.toNatClampNeg (v_order l_3.toNatClampNeg) := ⟨_, rfl⟩
      have hw := hw f_12 ef_12
      have hP : va_P (dC, dI) classes [(q_0, .inr (6, [.ref q_seconds, .ref q_order, .ref q_firstIn, .ref q_doubles, .int v_found, .ref q_goneOut])), (q_seconds, .inl (cI, 360, .inl v_seconds)), (q_order, .inl (cI, 6, .inl v_order)), (q_firstIn, .inl (cI, 60, .inl v_firstIn)), (q_doubles, .inl (cI, 300, .inl f_12))] H := by rw [ef_12]; exact hP
      have hD : va_D A [(q_0, .inr (6, [.ref q_seconds, .ref q_order, .ref q_firstIn, .ref q_doubles, .int v_found, .ref q_goneOut])), (q_seconds, .inl (cI, 360, .inl v_seconds)), (q_order, .inl (cI, 6, .inl v_order)), (q_firstIn, .inl (cI, 60, .inl v_firstIn)), (q_doubles, .inl (cI, 300, .inl f_12))] := by rw [ef_12]; exact hD
      refine lv_aload_n hx hb d_XD_joinAll_62 rfl (lv_at hl 0 rfl) ?_
      refine lv_dup hx hb d_XD_joinAll_63 rfl ?_
      refine va_get (D := (dC, dI)) (ci := 6) (v := .int v_found) (C := R_XD) (T := F_XD) (N := 6) hx hb hts i_XD hown hK hP 0 rfl rfl 4 (by decide) (hts _ k_267) (fun _ h9 => h9) rfl d_XD_joinAll_64 ?_
      refine lv_iconst (v := (1 : Int32)) hx hb d_XD_joinAll_67 (by decide) ?_
      refine lv_iadd hx hb d_XD_joinAll_68 ?_
      refine lv_topi (fun x_13 ex_13 => ?_)
      have hw := hw x_13 ex_13
      refine va_put (D := (dC, dI)) (ci := 6) (v := .int x_13) (ty := .int) (C := R_XD) (T := F_XD) (N := 6) hx hb hts i_XD t_XD t_XD_ok n_XD hown hK hP hD hS 0 rfl rfl 4 (by decide) (hts _ k_267) (fun _ h9 => h9) rfl (by decide +kernel) rfl rfl (Nat.le_of_ble_eq_true rfl) d_XD_joinAll_69 (fun H locs hP hD hS => ?_)
      have hP : va_P (dC, dI) classes [(q_0, .inr (6, [.ref q_seconds, .ref q_order, .ref q_firstIn, .ref q_doubles, .int x_13, .ref q_goneOut])), (q_seconds, .inl (cI, 360, .inl v_seconds)), (q_order, .inl (cI, 6, .inl v_order)), (q_firstIn, .inl (cI, 60, .inl v_firstIn)), (q_doubles, .inl (cI, 300, .inl f_12))] H := hP
      have hD : va_D A [(q_0, .inr (6, [.ref q_seconds, .ref q_order, .ref q_firstIn, .ref q_doubles, .int x_13, .ref q_goneOut])), (q_seconds, .inl (cI, 360, .inl v_seconds)), (q_order, .inl (cI, 6, .inl v_order)), (q_firstIn, .inl (cI, 60, .inl v_firstIn)), (q_doubles, .inl (cI, 300, .inl f_12))] := hD
      obtain ⟨x_14, ex_14⟩ : ∃ y : Int32, y = l_3 + (1 : Int32) := ⟨_, rfl⟩
      have hw := hw x_14 ex_14
      refine lv_iinc (v := x_14) (lv' := [(3, .int x_14), (0, .ref q_0), (1, .int l_1), (2, .int l_2)]) hx hb d_XD_joinAll_72 hl (k := 3) rfl (by rw [ex_14]; rfl) (by decide) rfl (fun ls hl => ?_)
      refine lv_goto (tgt := 42) hx hb d_XD_joinAll_75 (by decide) ?_
      exact ih l_1 l_2 x_14 v_order v_firstIn f_12 x_13 hw _ _ hP hD hS _ (lv_sub hl [1, 2, 3, 0] rfl)
def wp_XD_joinAll_7 (post : Int32 → ((Nat → Int32) × (Nat → Int32) × (Nat → Int32) × (Int32)) → Prop) (v_seconds : Nat → Int32) : Nat → Int32 → (Nat → Int32) → (Nat → Int32) → (Nat → Int32) → Int32 → Prop
  | 0 => fun _ _ _ _ _ => False
  | n_7 + 1 => fun l_1 v_order v_firstIn v_doubles v_found => (((60 : Int32) ≤ l_1 → post v_found (v_order, v_firstIn, v_doubles, v_found)) ∧ (¬ ((60 : Int32) ≤ l_1) → wp_XD_sortEntries (fun r_2 f_3 => ((r_2 ≤ 0 → ∃ n_42, wp_XD_joinAll_42 post v_seconds (wp_XD_joinAll_7 post v_seconds n_7) n_42 l_1 r_2 (1 : Int32) f_3 v_firstIn v_doubles v_found) ∧ (¬ (r_2 ≤ 0) → (vp_in (f_3 (0 : Int32).toNatClampNeg) 360 ∧ (vp_in l_1 60 ∧ (∀ f_7 : Nat → Int32, f_7 = upd v_firstIn l_1.toNatClampNeg (v_seconds (f_3 (0 : Int32).toNatClampNeg).toNatClampNeg) → ∃ n_42, wp_XD_joinAll_42 post v_seconds (wp_XD_joinAll_7 post v_seconds n_7) n_42 l_1 r_2 (1 : Int32) f_3 f_7 v_doubles v_found)))))) l_1 v_seconds v_order))
set_option maxHeartbeats 4000000 in
set_option maxRecDepth 100000 in
theorem t_XD_joinAll_7 {p : Program} {l : Launch} {e : Env} {s : State} {m : MethodId} {args : Array Value} {below : List Frame} {meth : Method} {c : Code} {dC : Nat → ClassId} {dI : Nat → Nat → Nat} {cI cJ cZ : ClassId} {A : Nat → Prop} {q_0 : Nat} {q_seconds : Nat} {q_order : Nat} {q_firstIn : Nat} {q_doubles : Nat} {q_goneOut : Nat} {v_seconds : Nat → Int32} {post : Int32 → ((Nat → Int32) × (Nat → Int32) × (Nat → Int32) × (Int32)) → Prop} (C0 : cxM b_XD_joinAll 4 (some .int) R_XD l dC dI cI cJ cZ A p s m args meth c) : ∀ (n_7 : Nat) (l_1 : Int32) (v_order : Nat → Int32) (v_firstIn : Nat → Int32) (v_doubles : Nat → Int32) (v_found : Int32), wp_XD_joinAll_7 post v_seconds n_7 l_1 v_order v_firstIn v_doubles v_found → gl_XD_joinAll_7 p l e s m args below meth c ({ frames := 2, cells := 0, slots := 0, locals := 46 } : Room) A (Qi below args s A dC dI cI cJ cZ ({ frames := 2, cells := 0, slots := 0, locals := 46 } : Room) post (fun u : (Nat → Int32) × (Nat → Int32) × (Nat → Int32) × (Int32) => [(q_0, .inr (6, [.ref q_seconds, .ref q_order, .ref q_firstIn, .ref q_doubles, .int u.2.2.2, .ref q_goneOut])), (q_seconds, .inl (cI, 360, .inl v_seconds)), (q_order, .inl (cI, 6, .inl u.1)), (q_firstIn, .inl (cI, 60, .inl u.2.1)), (q_doubles, .inl (cI, 300, .inl u.2.2.1))])) dC dI cI cJ cZ q_0 q_seconds q_order q_firstIn q_doubles q_goneOut v_seconds l_1 v_order v_firstIn v_doubles v_found := by
  obtain ⟨hl9, hx, hb, hml, hr, hown, hts, hlocks, hK, hZ, hA, hNS⟩ := id C0
  intro n_7
  induction n_7 with
  | zero => intro _ _ _ _ _ hw; exact hw.elim
  | succ n_7 ih =>
    intro l_1 v_order v_firstIn v_doubles v_found hw H locs hP hD hS ls hl
    refine lv_iload_n hx hb d_XD_joinAll_7 rfl (lv_at hl 1 rfl) ?_
    refine lv_bipush (v := (60 : Int32)) hx hb d_XD_joinAll_8 (by decide) ?_
    refine lv_icmp_ge (tgt := 84) hx hb d_XD_joinAll_10 (by decide) (fun c_1 => ?_) (fun c_1 => ?_)
    · have hw := hw.1 c_1
      refine lv_aload_n hx hb d_XD_joinAll_84 rfl (lv_at hl 0 rfl) ?_
      refine va_get (D := (dC, dI)) (ci := 6) (v := .int v_found) (C := R_XD) (T := F_XD) (N := 6) hx hb hts i_XD hown hK hP 0 rfl rfl 4 (by decide) (hts _ k_267) (fun _ h9 => h9) rfl d_XD_joinAll_85 ?_
      exact rt_i (u := (v_order, v_firstIn, v_doubles, v_found)) C0 hw hP hD hS (by decide) (by decide) d_XD_joinAll_88
    · have hw := hw.2 c_1
      refine lv_aload_n hx hb d_XD_joinAll_13 rfl (lv_at hl 0 rfl) ?_
      refine lv_iload_n hx hb d_XD_joinAll_14 rfl (lv_at hl 1 rfl) ?_
      refine jn_i C0 hP hD hS [0, 1, 2] [3, 4] (ru_V C0 (As := [.int l_1]) (rest := []) (c_XD_sortEntries l hl9 dC dI cI cJ cZ q_0 q_seconds q_order q_firstIn q_doubles q_goneOut l_1 v_seconds v_order v_found _ hw _) k_272 k_273 k_274 k_275 k_62 (n9 := 1) (by decide +kernel) rfl (ci := 6) rfl rfl ⟨Nat.le_of_ble_eq_true rfl, Nat.le_of_ble_eq_true rfl⟩ hP hD hS [0, 1, 2] rfl (by decide) hl.1 rfl (Nat.le_of_ble_eq_true rfl) d_XD_joinAll_15 ⟨Nat.le_of_ble_eq_true rfl, Nat.le_of_ble_eq_true rfl⟩) rfl rfl (by decide) (by decide) (fun r_2 u H locs hw hP hD hS => ?_)
      obtain ⟨f_3, rfl⟩ : ∃ z9, z9 = u := ⟨_, rfl⟩
      try dsimp only at hw
      have hP : va_P (dC, dI) classes [(q_firstIn, .inl (cI, 60, .inl v_firstIn)), (q_doubles, .inl (cI, 300, .inl v_doubles)), (q_0, .inr (6, [.ref q_seconds, .ref q_order, .ref q_firstIn, .ref q_doubles, .int v_found, .ref q_goneOut])), (q_seconds, .inl (cI, 360, .inl v_seconds)), (q_order, .inl (cI, 6, .inl f_3))] H := hP
      have hD : va_D A [(q_firstIn, .inl (cI, 60, .inl v_firstIn)), (q_doubles, .inl (cI, 300, .inl v_doubles)), (q_0, .inr (6, [.ref q_seconds, .ref q_order, .ref q_firstIn, .ref q_doubles, .int v_found, .ref q_goneOut])), (q_seconds, .inl (cI, 360, .inl v_seconds)), (q_order, .inl (cI, 6, .inl f_3))] := hD
      refine lv_istore_n (lv' := [(2, .int r_2), (0, .ref q_0), (1, .int l_1)]) hx hb d_XD_joinAll_18 rfl hl (by decide) rfl (fun ls hl => ?_)
      refine lv_iload_n hx hb d_XD_joinAll_19 rfl (lv_at hl 0 rfl) ?_
      refine lv_if_le (tgt := 40) hx hb d_XD_joinAll_20 (by decide) (fun c_4 => ?_) (fun c_4 => ?_)
      · have hw := hw.1 c_4
        refine lv_iconst (v := (1 : Int32)) hx hb d_XD_joinAll_40 (by decide) ?_
        refine lv_istore_n (lv' := [(3, .int (1 : Int32)), (2, .int r_2), (0, .ref q_0), (1, .int l_1)]) hx hb d_XD_joinAll_41 rfl hl (by decide) rfl (fun ls hl => ?_)
        obtain ⟨n_42, hw⟩ := hw
        exact t_XD_joinAll_42 (post := post) C0 ih n_42 l_1 r_2 (1 : Int32) f_3 v_firstIn v_doubles v_found hw _ _ (hP.sub [2, 3, 4, 0, 1] rfl) (hD.sub [2, 3, 4, 0, 1] (by decide) rfl) hS _ (lv_sub hl [2, 3, 1, 0] rfl)
      · have hw := hw.2 c_4
        refine lv_aload_n hx hb d_XD_joinAll_23 rfl (lv_at hl 1 rfl) ?_
        refine va_get (D := (dC, dI)) (ci := 6) (v := .ref q_firstIn) (C := R_XD) (T := F_XD) (N := 6) hx hb hts i_XD hown hK hP 2 rfl rfl 2 (by decide) (hts _ k_66) (fun _ h9 => h9) rfl d_XD_joinAll_24 ?_
        refine lv_iload_n hx hb d_XD_joinAll_27 rfl (lv_at hl 2 rfl) ?_
        refine lv_aload_n hx hb d_XD_joinAll_28 rfl (lv_at hl 1 rfl) ?_
        refine va_get (D := (dC, dI)) (ci := 6) (v := .ref q_seconds) (C := R_XD) (T := F_XD) (N := 6) hx hb hts i_XD hown hK hP 2 rfl rfl 0 (by decide) (hts _ k_64) (fun _ h9 => h9) rfl d_XD_joinAll_29 ?_
        refine lv_aload_n hx hb d_XD_joinAll_32 rfl (lv_at hl 1 rfl) ?_
        refine va_get (D := (dC, dI)) (ci := 6) (v := .ref q_order) (C := R_XD) (T := F_XD) (N := 6) hx hb hts i_XD hown hK hP 2 rfl rfl 1 (by decide) (hts _ k_65) (fun _ h9 => h9) rfl d_XD_joinAll_33 ?_
        refine lv_iconst (v := (0 : Int32)) hx hb d_XD_joinAll_36 (by decide) ?_
        refine va_iald hx hb hK hP 4 0 rfl rfl (show vp_in (0 : Int32) 6 from (by decide : ¬ ((0 : Int32) < 0 ∨ 6 ≤ (0 : Int32).toNatClampNeg))) d_XD_joinAll_37 ?_
        obtain ⟨h_5, hw⟩ := hw
        refine va_iald hx hb hK hP 3 0 rfl rfl h_5 d_XD_joinAll_38 ?_
        obtain ⟨h_6, hw⟩ := hw
        refine va_iast hx hb hK hP hD hS 0 0 rfl rfl h_6 d_XD_joinAll_39 (fun H locs hP hD hS => ?_)
        obtain ⟨f_7, ef_7⟩ : ∃ g : Nat → Int32, g = upd v_firstIn l_1.toNatClampNeg (v_seconds (f_3 (0 : Int32).toNatClampNeg).toNatClampNeg) := ⟨_, rfl⟩
        have hw := hw f_7 ef_7
        have hP : va_P (dC, dI) classes [(q_firstIn, .inl (cI, 60, .inl f_7)), (q_doubles, .inl (cI, 300, .inl v_doubles)), (q_0, .inr (6, [.ref q_seconds, .ref q_order, .ref q_firstIn, .ref q_doubles, .int v_found, .ref q_goneOut])), (q_seconds, .inl (cI, 360, .inl v_seconds)), (q_order, .inl (cI, 6, .inl f_3))] H := by rw [ef_7]; exact hP
        have hD : va_D A [(q_firstIn, .inl (cI, 60, .inl f_7)), (q_doubles, .inl (cI, 300, .inl v_doubles)), (q_0, .inr (6, [.ref q_seconds, .ref q_order, .ref q_firstIn, .ref q_doubles, .int v_found, .ref q_goneOut])), (q_seconds, .inl (cI, 360, .inl v_seconds)), (q_order, .inl (cI, 6, .inl f_3))] := by rw [ef_7]; exact hD
        refine lv_iconst (v := (1 : Int32)) hx hb d_XD_joinAll_40 (by decide) ?_
        refine lv_istore_n (lv' := [(3, .int (1 : Int32)), (2, .int r_2), (0, .ref q_0), (1, .int l_1)]) hx hb d_XD_joinAll_41 rfl hl (by decide) rfl (fun ls hl => ?_)
        obtain ⟨n_42, hw⟩ := hw
        exact t_XD_joinAll_42 (post := post) C0 ih n_42 l_1 r_2 (1 : Int32) f_3 f_7 v_doubles v_found hw _ _ (hP.sub [2, 3, 4, 0, 1] rfl) (hD.sub [2, 3, 4, 0, 1] (by decide) rfl) hS _ (lv_sub hl [2, 3, 1, 0] rfl)
def wp_XD_joinAll (post : Int32 → ((Nat → Int32) × (Nat → Int32) × (Nat → Int32) × (Int32)) → Prop) (v_seconds : Nat → Int32) (v_order : Nat → Int32) (v_firstIn : Nat → Int32) (v_doubles : Nat → Int32) (v_found : Int32) : Prop := ∃ n_7, wp_XD_joinAll_7 post v_seconds n_7 (0 : Int32) v_order v_firstIn v_doubles (0 : Int32)
set_option maxHeartbeats 4000000 in
set_option maxRecDepth 100000 in
theorem c_XD_joinAll (l : Launch) (hl9 : l.stackTraces = false) (dC : Nat → ClassId) (dI : Nat → Nat → Nat) (cI cJ cZ : ClassId) (q_0 q_seconds q_order q_firstIn q_doubles q_goneOut : Nat) (v_seconds : Nat → Int32) (v_order : Nat → Int32) (v_firstIn : Nat → Int32) (v_doubles : Nat → Int32) (v_found : Int32) (post : Int32 → ((Nat → Int32) × (Nat → Int32) × (Nat → Int32) × (Int32)) → Prop) (hw : wp_XD_joinAll post v_seconds v_order v_firstIn v_doubles v_found) : Ki l y_XD_joinAll b_XD_joinAll 4 (some .int) ({ frames := 2, cells := 0, slots := 0, locals := 46 } : Room) dC dI cI cJ cZ [.ref q_0] [(q_0, .inr (6, [.ref q_seconds, .ref q_order, .ref q_firstIn, .ref q_doubles, .int v_found, .ref q_goneOut])), (q_seconds, .inl (cI, 360, .inl v_seconds)), (q_order, .inl (cI, 6, .inl v_order)), (q_firstIn, .inl (cI, 60, .inl v_firstIn)), (q_doubles, .inl (cI, 300, .inl v_doubles))] post (fun u : (Nat → Int32) × (Nat → Int32) × (Nat → Int32) × (Int32) => [(q_0, .inr (6, [.ref q_seconds, .ref q_order, .ref q_firstIn, .ref q_doubles, .int u.2.2.2, .ref q_goneOut])), (q_seconds, .inl (cI, 360, .inl v_seconds)), (q_order, .inl (cI, 6, .inl u.1)), (q_firstIn, .inl (cI, 60, .inl u.2.1)), (q_doubles, .inl (cI, 300, .inl u.2.2.1))]) := by
  refine mki hl9 (own := R_XD) rfl (by decide) ?_
  intro p e s m args below meth c A C0 hnm eav hP hD
  obtain ⟨-, hx, hb, hml, hr, hown, hts, hlocks, hK, hZ, hA, hNS⟩ := id C0
  subst eav
  have hS : va_S A s.heap s.heap [] := va_S.rf
  have hl := lv_entry ([.ref q_0]) (n := 4) (Nat.le_of_ble_eq_true rfl)
  rw [lg_entry_eq]
  generalize (lg_sl ([.ref q_0]) ++ List.replicate (4 - (lg_sl ([.ref q_0])).length) Slot.unset).toArray = ls at hl ⊢
  have hl : lv_has ls 4 [(0, .ref q_0)] := hl
  unfold wp_XD_joinAll at hw
  refine lv_aload_n hx hb d_XD_joinAll_0 rfl (lv_at hl 0 rfl) ?_
  refine lv_iconst (v := (0 : Int32)) hx hb d_XD_joinAll_1 (by decide) ?_
  refine va_put (D := (dC, dI)) (ci := 6) (v := .int (0 : Int32)) (ty := .int) (C := R_XD) (T := F_XD) (N := 6) hx hb hts i_XD t_XD t_XD_ok n_XD hown hK hP hD hS 0 rfl rfl 4 (by decide) (hts _ k_267) (fun _ h9 => h9) rfl (by decide +kernel) rfl rfl (Nat.le_of_ble_eq_true rfl) d_XD_joinAll_2 (fun H locs hP hD hS => ?_)
  have hP : va_P (dC, dI) classes [(q_0, .inr (6, [.ref q_seconds, .ref q_order, .ref q_firstIn, .ref q_doubles, .int (0 : Int32), .ref q_goneOut])), (q_seconds, .inl (cI, 360, .inl v_seconds)), (q_order, .inl (cI, 6, .inl v_order)), (q_firstIn, .inl (cI, 60, .inl v_firstIn)), (q_doubles, .inl (cI, 300, .inl v_doubles))] H := hP
  have hD : va_D A [(q_0, .inr (6, [.ref q_seconds, .ref q_order, .ref q_firstIn, .ref q_doubles, .int (0 : Int32), .ref q_goneOut])), (q_seconds, .inl (cI, 360, .inl v_seconds)), (q_order, .inl (cI, 6, .inl v_order)), (q_firstIn, .inl (cI, 60, .inl v_firstIn)), (q_doubles, .inl (cI, 300, .inl v_doubles))] := hD
  refine lv_iconst (v := (0 : Int32)) hx hb d_XD_joinAll_5 (by decide) ?_
  refine lv_istore_n (lv' := [(1, .int (0 : Int32)), (0, .ref q_0)]) hx hb d_XD_joinAll_6 rfl hl (by decide) rfl (fun ls hl => ?_)
  obtain ⟨n_7, hw⟩ := hw
  exact t_XD_joinAll_7 (post := post) C0 n_7 (0 : Int32) v_order v_firstIn v_doubles (0 : Int32) hw _ _ hP hD hS _ (lv_sub hl [1, 0] rfl)
theorem d_XD_ticketOf_0 : decode b_XD_ticketOf 0 = .ok (.iload_n 0, 1) := by decide +kernel
theorem d_XD_ticketOf_1 : decode b_XD_ticketOf 1 = .ok (.bipush 6, 2) := by decide +kernel
theorem d_XD_ticketOf_3 : decode b_XD_ticketOf 3 = .ok (.idiv, 1) := by decide +kernel
theorem d_XD_ticketOf_4 : decode b_XD_ticketOf 4 = .ok (.ireturn, 1) := by decide +kernel
def wp_XD_ticketOf (post : Int32 → Unit → Prop) (a_0 : Int32) : Prop := post (a_0 / (6 : Int32)) ()
set_option maxHeartbeats 4000000 in
set_option maxRecDepth 100000 in
theorem c_XD_ticketOf (l : Launch) (hl9 : l.stackTraces = false) (dC : Nat → ClassId) (dI : Nat → Nat → Nat) (cI cJ cZ : ClassId) (a_0 : Int32) (post : Int32 → Unit → Prop) (hw : wp_XD_ticketOf post a_0) : Ki l y_XD_ticketOf b_XD_ticketOf 1 (some .int) ({ frames := 0, cells := 0, slots := 0, locals := 0 } : Room) dC dI cI cJ cZ [.int a_0] [] post (fun u : Unit => []) := by
  refine mki hl9 (own := R_XD) rfl (by decide) ?_
  intro p e s m args below meth c A C0 hnm eav hP hD
  obtain ⟨-, hx, hb, hml, hr, hown, hts, hlocks, hK, hZ, hA, hNS⟩ := id C0
  subst eav
  have hS : va_S A s.heap s.heap [] := va_S.rf
  have hl := lv_entry ([.int a_0]) (n := 1) (Nat.le_of_ble_eq_true rfl)
  rw [lg_entry_eq]
  generalize (lg_sl ([.int a_0]) ++ List.replicate (1 - (lg_sl ([.int a_0])).length) Slot.unset).toArray = ls at hl ⊢
  have hl : lv_has ls 1 [(0, .int a_0)] := hl
  unfold wp_XD_ticketOf at hw
  refine lv_iload_n hx hb d_XD_ticketOf_0 rfl (lv_at hl 0 rfl) ?_
  refine lv_bipush (v := (6 : Int32)) hx hb d_XD_ticketOf_1 (by decide) ?_
  refine lv_idiv hx hb d_XD_ticketOf_3 (by decide) ?_
  exact rt_i (u := ()) C0 hw hP hD hS (by decide) (by decide) d_XD_ticketOf_4
theorem d_XD_readerOf_0 : decode b_XD_readerOf 0 = .ok (.iload_n 0, 1) := by decide +kernel
theorem d_XD_readerOf_1 : decode b_XD_readerOf 1 = .ok (.bipush 6, 2) := by decide +kernel
theorem d_XD_readerOf_3 : decode b_XD_readerOf 3 = .ok (.irem, 1) := by decide +kernel
theorem d_XD_readerOf_4 : decode b_XD_readerOf 4 = .ok (.ireturn, 1) := by decide +kernel
def wp_XD_readerOf (post : Int32 → Unit → Prop) (a_0 : Int32) : Prop := post (a_0 - a_0 / (6 : Int32) * (6 : Int32)) ()
set_option maxHeartbeats 4000000 in
set_option maxRecDepth 100000 in
theorem c_XD_readerOf (l : Launch) (hl9 : l.stackTraces = false) (dC : Nat → ClassId) (dI : Nat → Nat → Nat) (cI cJ cZ : ClassId) (a_0 : Int32) (post : Int32 → Unit → Prop) (hw : wp_XD_readerOf post a_0) : Ki l y_XD_readerOf b_XD_readerOf 1 (some .int) ({ frames := 0, cells := 0, slots := 0, locals := 0 } : Room) dC dI cI cJ cZ [.int a_0] [] post (fun u : Unit => []) := by
  refine mki hl9 (own := R_XD) rfl (by decide) ?_
  intro p e s m args below meth c A C0 hnm eav hP hD
  obtain ⟨-, hx, hb, hml, hr, hown, hts, hlocks, hK, hZ, hA, hNS⟩ := id C0
  subst eav
  have hS : va_S A s.heap s.heap [] := va_S.rf
  have hl := lv_entry ([.int a_0]) (n := 1) (Nat.le_of_ble_eq_true rfl)
  rw [lg_entry_eq]
  generalize (lg_sl ([.int a_0]) ++ List.replicate (1 - (lg_sl ([.int a_0])).length) Slot.unset).toArray = ls at hl ⊢
  have hl : lv_has ls 1 [(0, .int a_0)] := hl
  unfold wp_XD_readerOf at hw
  refine lv_iload_n hx hb d_XD_readerOf_0 rfl (lv_at hl 0 rfl) ?_
  refine lv_bipush (v := (6 : Int32)) hx hb d_XD_readerOf_1 (by decide) ?_
  refine lv_irem hx hb d_XD_readerOf_3 (by decide) ?_
  exact rt_i (u := ()) C0 hw hP hD hS (by decide) (by decide) d_XD_readerOf_4
theorem d_XD_isIn_0 : decode b_XD_isIn 0 = .ok (.aload_n 0, 1) := by decide +kernel
theorem d_XD_isIn_1 : decode b_XD_isIn 1 = .ok (.getfield 18, 3) := by decide +kernel
theorem d_XD_isIn_4 : decode b_XD_isIn 4 = .ok (.iload_n 1, 1) := by decide +kernel
theorem d_XD_isIn_5 : decode b_XD_isIn 5 = .ok (.iaload, 1) := by decide +kernel
theorem d_XD_isIn_6 : decode b_XD_isIn 6 = .ok (.iconst (-1), 1) := by decide +kernel
theorem d_XD_isIn_7 : decode b_XD_isIn 7 = .ok (.if_icmp .eq 17, 3) := by decide +kernel
theorem d_XD_isIn_10 : decode b_XD_isIn 10 = .ok (.aload_n 0, 1) := by decide +kernel
theorem d_XD_isIn_11 : decode b_XD_isIn 11 = .ok (.getfield 18, 3) := by decide +kernel
theorem d_XD_isIn_14 : decode b_XD_isIn 14 = .ok (.iload_n 1, 1) := by decide +kernel
theorem d_XD_isIn_15 : decode b_XD_isIn 15 = .ok (.iaload, 1) := by decide +kernel
theorem d_XD_isIn_16 : decode b_XD_isIn 16 = .ok (.iload_n 2, 1) := by decide +kernel
theorem d_XD_isIn_17 : decode b_XD_isIn 17 = .ok (.if_icmp .gt 7, 3) := by decide +kernel
theorem d_XD_isIn_20 : decode b_XD_isIn 20 = .ok (.iconst 1, 1) := by decide +kernel
theorem d_XD_isIn_21 : decode b_XD_isIn 21 = .ok (.goto 4, 3) := by decide +kernel
theorem d_XD_isIn_24 : decode b_XD_isIn 24 = .ok (.iconst 0, 1) := by decide +kernel
theorem d_XD_isIn_25 : decode b_XD_isIn 25 = .ok (.ireturn, 1) := by decide +kernel
def wp_XD_isIn (post : Int32 → Unit → Prop) (a_1 : Int32) (a_2 : Int32) (v_firstIn : Nat → Int32) : Prop := (vp_in a_1 60 ∧ (((v_firstIn a_1.toNatClampNeg) = (-1 : Int32) → post (0 : Int32) ()) ∧ (¬ ((v_firstIn a_1.toNatClampNeg) = (-1 : Int32)) → (vp_in a_1 60 ∧ ((a_2 < (v_firstIn a_1.toNatClampNeg) → post (0 : Int32) ()) ∧ (¬ (a_2 < (v_firstIn a_1.toNatClampNeg)) → post (1 : Int32) ()))))))
set_option maxHeartbeats 4000000 in
set_option maxRecDepth 100000 in
theorem c_XD_isIn (l : Launch) (hl9 : l.stackTraces = false) (dC : Nat → ClassId) (dI : Nat → Nat → Nat) (cI cJ cZ : ClassId) (q_0 q_firstIn q_seconds q_order q_doubles q_goneOut : Nat) (a_1 : Int32) (a_2 : Int32) (v_firstIn : Nat → Int32) (v_found : Int32) (post : Int32 → Unit → Prop) (hw : wp_XD_isIn post a_1 a_2 v_firstIn) : Ki l y_XD_isIn b_XD_isIn 3 (some .boolean) ({ frames := 0, cells := 0, slots := 0, locals := 0 } : Room) dC dI cI cJ cZ [.ref q_0, .int a_1, .int a_2] [(q_0, .inr (6, [.ref q_seconds, .ref q_order, .ref q_firstIn, .ref q_doubles, .int v_found, .ref q_goneOut])), (q_firstIn, .inl (cI, 60, .inl v_firstIn))] post (fun u : Unit => [(q_0, .inr (6, [.ref q_seconds, .ref q_order, .ref q_firstIn, .ref q_doubles, .int v_found, .ref q_goneOut])), (q_firstIn, .inl (cI, 60, .inl v_firstIn))]) := by
  refine mki hl9 (own := R_XD) rfl (by decide) ?_
  intro p e s m args below meth c A C0 hnm eav hP hD
  obtain ⟨-, hx, hb, hml, hr, hown, hts, hlocks, hK, hZ, hA, hNS⟩ := id C0
  subst eav
  have hS : va_S A s.heap s.heap [] := va_S.rf
  have hl := lv_entry ([.ref q_0, .int a_1, .int a_2]) (n := 3) (Nat.le_of_ble_eq_true rfl)
  rw [lg_entry_eq]
  generalize (lg_sl ([.ref q_0, .int a_1, .int a_2]) ++ List.replicate (3 - (lg_sl ([.ref q_0, .int a_1, .int a_2])).length) Slot.unset).toArray = ls at hl ⊢
  have hl : lv_has ls 3 [(0, .ref q_0), (1, .int a_1), (2, .int a_2)] := hl
  unfold wp_XD_isIn at hw
  refine lv_aload_n hx hb d_XD_isIn_0 rfl (lv_at hl 0 rfl) ?_
  refine va_get (D := (dC, dI)) (ci := 6) (v := .ref q_firstIn) (C := R_XD) (T := F_XD) (N := 6) hx hb hts i_XD hown hK hP 0 rfl rfl 2 (by decide) (hts _ k_66) (fun _ h9 => h9) rfl d_XD_isIn_1 ?_
  refine lv_iload_n hx hb d_XD_isIn_4 rfl (lv_at hl 1 rfl) ?_
  obtain ⟨h_1, hw⟩ := hw
  refine va_iald hx hb hK hP 1 0 rfl rfl h_1 d_XD_isIn_5 ?_
  refine lv_iconst (v := (-1 : Int32)) hx hb d_XD_isIn_6 (by decide) ?_
  refine lv_icmp_eq (tgt := 24) hx hb d_XD_isIn_7 (by decide) (fun c_2 => ?_) (fun c_2 => ?_)
  · have hw := hw.1 c_2
    refine lv_iconst (v := (0 : Int32)) hx hb d_XD_isIn_24 (by decide) ?_
    exact rt_z (u := ()) C0 (by decide) hw hP hD hS (by decide) (by decide) d_XD_isIn_25
  · have hw := hw.2 c_2
    refine lv_aload_n hx hb d_XD_isIn_10 rfl (lv_at hl 0 rfl) ?_
    refine va_get (D := (dC, dI)) (ci := 6) (v := .ref q_firstIn) (C := R_XD) (T := F_XD) (N := 6) hx hb hts i_XD hown hK hP 0 rfl rfl 2 (by decide) (hts _ k_66) (fun _ h9 => h9) rfl d_XD_isIn_11 ?_
    refine lv_iload_n hx hb d_XD_isIn_14 rfl (lv_at hl 1 rfl) ?_
    obtain ⟨h_3, hw⟩ := hw
    refine va_iald hx hb hK hP 1 0 rfl rfl h_3 d_XD_isIn_15 ?_
    refine lv_iload_n hx hb d_XD_isIn_16 rfl (lv_at hl 2 rfl) ?_
    refine lv_icmp_gt (tgt := 24) hx hb d_XD_isIn_17 (by decide) (fun c_4 => ?_) (fun c_4 => ?_)
    · have hw := hw.1 c_4
      refine lv_iconst (v := (0 : Int32)) hx hb d_XD_isIn_24 (by decide) ?_
      exact rt_z (u := ()) C0 (by decide) hw hP hD hS (by decide) (by decide) d_XD_isIn_25
    · have hw := hw.2 c_4
      refine lv_iconst (v := (1 : Int32)) hx hb d_XD_isIn_20 (by decide) ?_
      refine lv_goto (tgt := 25) hx hb d_XD_isIn_21 (by decide) ?_
      exact rt_z (u := ()) C0 (by decide) hw hP hD hS (by decide) (by decide) d_XD_isIn_25
theorem d_XD_letOut_0 : decode b_XD_letOut 0 = .ok (.aload_n 0, 1) := by decide +kernel
theorem d_XD_letOut_1 : decode b_XD_letOut 1 = .ok (.iload_n 1, 1) := by decide +kernel
theorem d_XD_letOut_2 : decode b_XD_letOut 2 = .ok (.iload_n 2, 1) := by decide +kernel
theorem d_XD_letOut_3 : decode b_XD_letOut 3 = .ok (.invokevirtual 49, 3) := by decide +kernel
theorem d_XD_letOut_6 : decode b_XD_letOut 6 = .ok (.ifCond .eq 13, 3) := by decide +kernel
theorem d_XD_letOut_9 : decode b_XD_letOut 9 = .ok (.aload_n 0, 1) := by decide +kernel
theorem d_XD_letOut_10 : decode b_XD_letOut 10 = .ok (.getfield 24, 3) := by decide +kernel
theorem d_XD_letOut_13 : decode b_XD_letOut 13 = .ok (.iload_n 1, 1) := by decide +kernel
theorem d_XD_letOut_14 : decode b_XD_letOut 14 = .ok (.iaload, 1) := by decide +kernel
theorem d_XD_letOut_15 : decode b_XD_letOut 15 = .ok (.iconst (-1), 1) := by decide +kernel
theorem d_XD_letOut_16 : decode b_XD_letOut 16 = .ok (.if_icmp .eq 5, 3) := by decide +kernel
theorem d_XD_letOut_19 : decode b_XD_letOut 19 = .ok (.iconst 0, 1) := by decide +kernel
theorem d_XD_letOut_20 : decode b_XD_letOut 20 = .ok (.ireturn, 1) := by decide +kernel
theorem d_XD_letOut_21 : decode b_XD_letOut 21 = .ok (.aload_n 0, 1) := by decide +kernel
theorem d_XD_letOut_22 : decode b_XD_letOut 22 = .ok (.getfield 24, 3) := by decide +kernel
theorem d_XD_letOut_25 : decode b_XD_letOut 25 = .ok (.iload_n 1, 1) := by decide +kernel
theorem d_XD_letOut_26 : decode b_XD_letOut 26 = .ok (.iload_n 2, 1) := by decide +kernel
theorem d_XD_letOut_27 : decode b_XD_letOut 27 = .ok (.iastore, 1) := by decide +kernel
theorem d_XD_letOut_28 : decode b_XD_letOut 28 = .ok (.iconst 1, 1) := by decide +kernel
theorem d_XD_letOut_29 : decode b_XD_letOut 29 = .ok (.ireturn, 1) := by decide +kernel
def wp_XD_letOut (post : Int32 → (Nat → Int32) → Prop) (a_1 : Int32) (a_2 : Int32) (v_firstIn : Nat → Int32) (v_goneOut : Nat → Int32) : Prop := wp_XD_isIn (fun r_1 _ => ((r_1 = 0 → post (0 : Int32) v_goneOut) ∧ (¬ (r_1 = 0) → (vp_in a_1 60 ∧ (((v_goneOut a_1.toNatClampNeg) = (-1 : Int32) → (vp_in a_1 60 ∧ (∀ f_6 : Nat → Int32, f_6 = upd v_goneOut a_1.toNatClampNeg a_2 → post (1 : Int32) f_6))) ∧ (¬ ((v_goneOut a_1.toNatClampNeg) = (-1 : Int32)) → post (0 : Int32) v_goneOut)))))) a_1 a_2 v_firstIn
set_option maxHeartbeats 4000000 in
set_option maxRecDepth 100000 in
theorem c_XD_letOut (l : Launch) (hl9 : l.stackTraces = false) (dC : Nat → ClassId) (dI : Nat → Nat → Nat) (cI cJ cZ : ClassId) (q_0 q_firstIn q_goneOut q_seconds q_order q_doubles : Nat) (a_1 : Int32) (a_2 : Int32) (v_firstIn : Nat → Int32) (v_found : Int32) (v_goneOut : Nat → Int32) (post : Int32 → (Nat → Int32) → Prop) (hw : wp_XD_letOut post a_1 a_2 v_firstIn v_goneOut) : Ki l y_XD_letOut b_XD_letOut 3 (some .boolean) ({ frames := 1, cells := 0, slots := 0, locals := 22 } : Room) dC dI cI cJ cZ [.ref q_0, .int a_1, .int a_2] [(q_0, .inr (6, [.ref q_seconds, .ref q_order, .ref q_firstIn, .ref q_doubles, .int v_found, .ref q_goneOut])), (q_firstIn, .inl (cI, 60, .inl v_firstIn)), (q_goneOut, .inl (cI, 60, .inl v_goneOut))] post (fun u : (Nat → Int32) => [(q_0, .inr (6, [.ref q_seconds, .ref q_order, .ref q_firstIn, .ref q_doubles, .int v_found, .ref q_goneOut])), (q_firstIn, .inl (cI, 60, .inl v_firstIn)), (q_goneOut, .inl (cI, 60, .inl u))]) := by
  refine mki hl9 (own := R_XD) rfl (by decide) ?_
  intro p e s m args below meth c A C0 hnm eav hP hD
  obtain ⟨-, hx, hb, hml, hr, hown, hts, hlocks, hK, hZ, hA, hNS⟩ := id C0
  subst eav
  have hS : va_S A s.heap s.heap [] := va_S.rf
  have hl := lv_entry ([.ref q_0, .int a_1, .int a_2]) (n := 3) (Nat.le_of_ble_eq_true rfl)
  rw [lg_entry_eq]
  generalize (lg_sl ([.ref q_0, .int a_1, .int a_2]) ++ List.replicate (3 - (lg_sl ([.ref q_0, .int a_1, .int a_2])).length) Slot.unset).toArray = ls at hl ⊢
  have hl : lv_has ls 3 [(0, .ref q_0), (1, .int a_1), (2, .int a_2)] := hl
  unfold wp_XD_letOut at hw
  refine lv_aload_n hx hb d_XD_letOut_0 rfl (lv_at hl 0 rfl) ?_
  refine lv_iload_n hx hb d_XD_letOut_1 rfl (lv_at hl 1 rfl) ?_
  refine lv_iload_n hx hb d_XD_letOut_2 rfl (lv_at hl 2 rfl) ?_
  refine jn_i C0 hP hD hS [0, 1] [2] (ru_V C0 (As := [.int a_1, .int a_2]) (rest := []) (c_XD_isIn l hl9 dC dI cI cJ cZ q_0 q_firstIn q_seconds q_order q_doubles q_goneOut a_1 a_2 v_firstIn v_found _ hw _) k_286 k_287 k_288 k_289 k_62 (n9 := 2) (by decide +kernel) rfl (ci := 6) rfl rfl ⟨Nat.le_of_ble_eq_true rfl, Nat.le_of_ble_eq_true rfl⟩ hP hD hS [0, 1] rfl (by decide) hl.1 rfl (Nat.le_of_ble_eq_true rfl) d_XD_letOut_3 ⟨Nat.le_of_ble_eq_true rfl, Nat.le_of_ble_eq_true rfl⟩) rfl rfl (by decide) (by decide) (fun r_1 u H locs hw hP hD hS => ?_)
  try dsimp only at hw
  have hP : va_P (dC, dI) classes [(q_goneOut, .inl (cI, 60, .inl v_goneOut)), (q_0, .inr (6, [.ref q_seconds, .ref q_order, .ref q_firstIn, .ref q_doubles, .int v_found, .ref q_goneOut])), (q_firstIn, .inl (cI, 60, .inl v_firstIn))] H := hP
  have hD : va_D A [(q_goneOut, .inl (cI, 60, .inl v_goneOut)), (q_0, .inr (6, [.ref q_seconds, .ref q_order, .ref q_firstIn, .ref q_doubles, .int v_found, .ref q_goneOut])), (q_firstIn, .inl (cI, 60, .inl v_firstIn))] := hD
  refine lv_if_eq (tgt := 19) hx hb d_XD_letOut_6 (by decide) (fun c_2 => ?_) (fun c_2 => ?_)
  · have hw := hw.1 c_2
    refine lv_iconst (v := (0 : Int32)) hx hb d_XD_letOut_19 (by decide) ?_
    exact rt_z (u := v_goneOut) C0 (by decide) hw (hP.sub [1, 2, 0] rfl) (hD.sub [1, 2, 0] (by decide) rfl) hS (by decide) (by decide) d_XD_letOut_20
  · have hw := hw.2 c_2
    refine lv_aload_n hx hb d_XD_letOut_9 rfl (lv_at hl 0 rfl) ?_
    refine va_get (D := (dC, dI)) (ci := 6) (v := .ref q_goneOut) (C := R_XD) (T := F_XD) (N := 6) hx hb hts i_XD hown hK hP 1 rfl rfl 5 (by decide) (hts _ k_68) (fun _ h9 => h9) rfl d_XD_letOut_10 ?_
    refine lv_iload_n hx hb d_XD_letOut_13 rfl (lv_at hl 1 rfl) ?_
    obtain ⟨h_3, hw⟩ := hw
    refine va_iald hx hb hK hP 0 0 rfl rfl h_3 d_XD_letOut_14 ?_
    refine lv_iconst (v := (-1 : Int32)) hx hb d_XD_letOut_15 (by decide) ?_
    refine lv_icmp_eq (tgt := 21) hx hb d_XD_letOut_16 (by decide) (fun c_4 => ?_) (fun c_4 => ?_)
    · have hw := hw.1 c_4
      refine lv_aload_n hx hb d_XD_letOut_21 rfl (lv_at hl 0 rfl) ?_
      refine va_get (D := (dC, dI)) (ci := 6) (v := .ref q_goneOut) (C := R_XD) (T := F_XD) (N := 6) hx hb hts i_XD hown hK hP 1 rfl rfl 5 (by decide) (hts _ k_68) (fun _ h9 => h9) rfl d_XD_letOut_22 ?_
      refine lv_iload_n hx hb d_XD_letOut_25 rfl (lv_at hl 1 rfl) ?_
      refine lv_iload_n hx hb d_XD_letOut_26 rfl (lv_at hl 2 rfl) ?_
      obtain ⟨h_5, hw⟩ := hw
      refine va_iast hx hb hK hP hD hS 0 0 rfl rfl h_5 d_XD_letOut_27 (fun H locs hP hD hS => ?_)
      obtain ⟨f_6, ef_6⟩ : ∃ g : Nat → Int32, g = upd v_goneOut a_1.toNatClampNeg a_2 := ⟨_, rfl⟩
      have hw := hw f_6 ef_6
      have hP : va_P (dC, dI) classes [(q_goneOut, .inl (cI, 60, .inl f_6)), (q_0, .inr (6, [.ref q_seconds, .ref q_order, .ref q_firstIn, .ref q_doubles, .int v_found, .ref q_goneOut])), (q_firstIn, .inl (cI, 60, .inl v_firstIn))] H := by rw [ef_6]; exact hP
      have hD : va_D A [(q_goneOut, .inl (cI, 60, .inl f_6)), (q_0, .inr (6, [.ref q_seconds, .ref q_order, .ref q_firstIn, .ref q_doubles, .int v_found, .ref q_goneOut])), (q_firstIn, .inl (cI, 60, .inl v_firstIn))] := by rw [ef_6]; exact hD
      refine lv_iconst (v := (1 : Int32)) hx hb d_XD_letOut_28 (by decide) ?_
      exact rt_z (u := f_6) C0 (by decide) hw (hP.sub [1, 2, 0] rfl) (hD.sub [1, 2, 0] (by decide) rfl) hS (by decide) (by decide) d_XD_letOut_29
    · have hw := hw.2 c_4
      refine lv_iconst (v := (0 : Int32)) hx hb d_XD_letOut_19 (by decide) ?_
      exact rt_z (u := v_goneOut) C0 (by decide) hw (hP.sub [1, 2, 0] rfl) (hD.sub [1, 2, 0] (by decide) rfl) hS (by decide) (by decide) d_XD_letOut_20
theorem d_XD_holds_0 : decode b_XD_holds 0 = .ok (.aload_n 0, 1) := by decide +kernel
theorem d_XD_holds_1 : decode b_XD_holds 1 = .ok (.iload_n 1, 1) := by decide +kernel
theorem d_XD_holds_2 : decode b_XD_holds 2 = .ok (.iload_n 2, 1) := by decide +kernel
theorem d_XD_holds_3 : decode b_XD_holds 3 = .ok (.invokevirtual 49, 3) := by decide +kernel
theorem d_XD_holds_6 : decode b_XD_holds 6 = .ok (.ifCond .eq 27, 3) := by decide +kernel
theorem d_XD_holds_9 : decode b_XD_holds 9 = .ok (.aload_n 0, 1) := by decide +kernel
theorem d_XD_holds_10 : decode b_XD_holds 10 = .ok (.getfield 24, 3) := by decide +kernel
theorem d_XD_holds_13 : decode b_XD_holds 13 = .ok (.iload_n 1, 1) := by decide +kernel
theorem d_XD_holds_14 : decode b_XD_holds 14 = .ok (.iaload, 1) := by decide +kernel
theorem d_XD_holds_15 : decode b_XD_holds 15 = .ok (.iconst (-1), 1) := by decide +kernel
theorem d_XD_holds_16 : decode b_XD_holds 16 = .ok (.if_icmp .eq 13, 3) := by decide +kernel
theorem d_XD_holds_19 : decode b_XD_holds 19 = .ok (.aload_n 0, 1) := by decide +kernel
theorem d_XD_holds_20 : decode b_XD_holds 20 = .ok (.getfield 24, 3) := by decide +kernel
theorem d_XD_holds_23 : decode b_XD_holds 23 = .ok (.iload_n 1, 1) := by decide +kernel
theorem d_XD_holds_24 : decode b_XD_holds 24 = .ok (.iaload, 1) := by decide +kernel
theorem d_XD_holds_25 : decode b_XD_holds 25 = .ok (.iload_n 2, 1) := by decide +kernel
theorem d_XD_holds_26 : decode b_XD_holds 26 = .ok (.if_icmp .le 7, 3) := by decide +kernel
theorem d_XD_holds_29 : decode b_XD_holds 29 = .ok (.iconst 1, 1) := by decide +kernel
theorem d_XD_holds_30 : decode b_XD_holds 30 = .ok (.goto 4, 3) := by decide +kernel
theorem d_XD_holds_33 : decode b_XD_holds 33 = .ok (.iconst 0, 1) := by decide +kernel
theorem d_XD_holds_34 : decode b_XD_holds 34 = .ok (.ireturn, 1) := by decide +kernel
def wp_XD_holds (post : Int32 → Unit → Prop) (a_1 : Int32) (a_2 : Int32) (v_firstIn : Nat → Int32) (v_goneOut : Nat → Int32) : Prop := wp_XD_isIn (fun r_1 _ => ((r_1 = 0 → post (0 : Int32) ()) ∧ (¬ (r_1 = 0) → (vp_in a_1 60 ∧ (((v_goneOut a_1.toNatClampNeg) = (-1 : Int32) → post (1 : Int32) ()) ∧ (¬ ((v_goneOut a_1.toNatClampNeg) = (-1 : Int32)) → (vp_in a_1 60 ∧ (((v_goneOut a_1.toNatClampNeg) ≤ a_2 → post (0 : Int32) ()) ∧ (¬ ((v_goneOut a_1.toNatClampNeg) ≤ a_2) → post (1 : Int32) ()))))))))) a_1 a_2 v_firstIn
set_option maxHeartbeats 4000000 in
set_option maxRecDepth 100000 in
theorem c_XD_holds (l : Launch) (hl9 : l.stackTraces = false) (dC : Nat → ClassId) (dI : Nat → Nat → Nat) (cI cJ cZ : ClassId) (q_0 q_firstIn q_goneOut q_seconds q_order q_doubles : Nat) (a_1 : Int32) (a_2 : Int32) (v_firstIn : Nat → Int32) (v_found : Int32) (v_goneOut : Nat → Int32) (post : Int32 → Unit → Prop) (hw : wp_XD_holds post a_1 a_2 v_firstIn v_goneOut) : Ki l y_XD_holds b_XD_holds 3 (some .boolean) ({ frames := 1, cells := 0, slots := 0, locals := 22 } : Room) dC dI cI cJ cZ [.ref q_0, .int a_1, .int a_2] [(q_0, .inr (6, [.ref q_seconds, .ref q_order, .ref q_firstIn, .ref q_doubles, .int v_found, .ref q_goneOut])), (q_firstIn, .inl (cI, 60, .inl v_firstIn)), (q_goneOut, .inl (cI, 60, .inl v_goneOut))] post (fun u : Unit => [(q_0, .inr (6, [.ref q_seconds, .ref q_order, .ref q_firstIn, .ref q_doubles, .int v_found, .ref q_goneOut])), (q_firstIn, .inl (cI, 60, .inl v_firstIn)), (q_goneOut, .inl (cI, 60, .inl v_goneOut))]) := by
  refine mki hl9 (own := R_XD) rfl (by decide) ?_
  intro p e s m args below meth c A C0 hnm eav hP hD
  obtain ⟨-, hx, hb, hml, hr, hown, hts, hlocks, hK, hZ, hA, hNS⟩ := id C0
  subst eav
  have hS : va_S A s.heap s.heap [] := va_S.rf
  have hl := lv_entry ([.ref q_0, .int a_1, .int a_2]) (n := 3) (Nat.le_of_ble_eq_true rfl)
  rw [lg_entry_eq]
  generalize (lg_sl ([.ref q_0, .int a_1, .int a_2]) ++ List.replicate (3 - (lg_sl ([.ref q_0, .int a_1, .int a_2])).length) Slot.unset).toArray = ls at hl ⊢
  have hl : lv_has ls 3 [(0, .ref q_0), (1, .int a_1), (2, .int a_2)] := hl
  unfold wp_XD_holds at hw
  refine lv_aload_n hx hb d_XD_holds_0 rfl (lv_at hl 0 rfl) ?_
  refine lv_iload_n hx hb d_XD_holds_1 rfl (lv_at hl 1 rfl) ?_
  refine lv_iload_n hx hb d_XD_holds_2 rfl (lv_at hl 2 rfl) ?_
  refine jn_i C0 hP hD hS [0, 1] [2] (ru_V C0 (As := [.int a_1, .int a_2]) (rest := []) (c_XD_isIn l hl9 dC dI cI cJ cZ q_0 q_firstIn q_seconds q_order q_doubles q_goneOut a_1 a_2 v_firstIn v_found _ hw _) k_286 k_287 k_288 k_289 k_62 (n9 := 2) (by decide +kernel) rfl (ci := 6) rfl rfl ⟨Nat.le_of_ble_eq_true rfl, Nat.le_of_ble_eq_true rfl⟩ hP hD hS [0, 1] rfl (by decide) hl.1 rfl (Nat.le_of_ble_eq_true rfl) d_XD_holds_3 ⟨Nat.le_of_ble_eq_true rfl, Nat.le_of_ble_eq_true rfl⟩) rfl rfl (by decide) (by decide) (fun r_1 u H locs hw hP hD hS => ?_)
  try dsimp only at hw
  have hP : va_P (dC, dI) classes [(q_goneOut, .inl (cI, 60, .inl v_goneOut)), (q_0, .inr (6, [.ref q_seconds, .ref q_order, .ref q_firstIn, .ref q_doubles, .int v_found, .ref q_goneOut])), (q_firstIn, .inl (cI, 60, .inl v_firstIn))] H := hP
  have hD : va_D A [(q_goneOut, .inl (cI, 60, .inl v_goneOut)), (q_0, .inr (6, [.ref q_seconds, .ref q_order, .ref q_firstIn, .ref q_doubles, .int v_found, .ref q_goneOut])), (q_firstIn, .inl (cI, 60, .inl v_firstIn))] := hD
  refine lv_if_eq (tgt := 33) hx hb d_XD_holds_6 (by decide) (fun c_2 => ?_) (fun c_2 => ?_)
  · have hw := hw.1 c_2
    refine lv_iconst (v := (0 : Int32)) hx hb d_XD_holds_33 (by decide) ?_
    exact rt_z (u := ()) C0 (by decide) hw (hP.sub [1, 2, 0] rfl) (hD.sub [1, 2, 0] (by decide) rfl) hS (by decide) (by decide) d_XD_holds_34
  · have hw := hw.2 c_2
    refine lv_aload_n hx hb d_XD_holds_9 rfl (lv_at hl 0 rfl) ?_
    refine va_get (D := (dC, dI)) (ci := 6) (v := .ref q_goneOut) (C := R_XD) (T := F_XD) (N := 6) hx hb hts i_XD hown hK hP 1 rfl rfl 5 (by decide) (hts _ k_68) (fun _ h9 => h9) rfl d_XD_holds_10 ?_
    refine lv_iload_n hx hb d_XD_holds_13 rfl (lv_at hl 1 rfl) ?_
    obtain ⟨h_3, hw⟩ := hw
    refine va_iald hx hb hK hP 0 0 rfl rfl h_3 d_XD_holds_14 ?_
    refine lv_iconst (v := (-1 : Int32)) hx hb d_XD_holds_15 (by decide) ?_
    refine lv_icmp_eq (tgt := 29) hx hb d_XD_holds_16 (by decide) (fun c_4 => ?_) (fun c_4 => ?_)
    · have hw := hw.1 c_4
      refine lv_iconst (v := (1 : Int32)) hx hb d_XD_holds_29 (by decide) ?_
      refine lv_goto (tgt := 34) hx hb d_XD_holds_30 (by decide) ?_
      exact rt_z (u := ()) C0 (by decide) hw (hP.sub [1, 2, 0] rfl) (hD.sub [1, 2, 0] (by decide) rfl) hS (by decide) (by decide) d_XD_holds_34
    · have hw := hw.2 c_4
      refine lv_aload_n hx hb d_XD_holds_19 rfl (lv_at hl 0 rfl) ?_
      refine va_get (D := (dC, dI)) (ci := 6) (v := .ref q_goneOut) (C := R_XD) (T := F_XD) (N := 6) hx hb hts i_XD hown hK hP 1 rfl rfl 5 (by decide) (hts _ k_68) (fun _ h9 => h9) rfl d_XD_holds_20 ?_
      refine lv_iload_n hx hb d_XD_holds_23 rfl (lv_at hl 1 rfl) ?_
      obtain ⟨h_5, hw⟩ := hw
      refine va_iald hx hb hK hP 0 0 rfl rfl h_5 d_XD_holds_24 ?_
      refine lv_iload_n hx hb d_XD_holds_25 rfl (lv_at hl 2 rfl) ?_
      refine lv_icmp_le (tgt := 33) hx hb d_XD_holds_26 (by decide) (fun c_6 => ?_) (fun c_6 => ?_)
      · have hw := hw.1 c_6
        refine lv_iconst (v := (0 : Int32)) hx hb d_XD_holds_33 (by decide) ?_
        exact rt_z (u := ()) C0 (by decide) hw (hP.sub [1, 2, 0] rfl) (hD.sub [1, 2, 0] (by decide) rfl) hS (by decide) (by decide) d_XD_holds_34
      · have hw := hw.2 c_6
        refine lv_iconst (v := (1 : Int32)) hx hb d_XD_holds_29 (by decide) ?_
        refine lv_goto (tgt := 34) hx hb d_XD_holds_30 (by decide) ?_
        exact rt_z (u := ()) C0 (by decide) hw (hP.sub [1, 2, 0] rfl) (hD.sub [1, 2, 0] (by decide) rfl) hS (by decide) (by decide) d_XD_holds_34
