theorem k_398 : (.classLink R_X 62 "java/lang/IllegalArgumentException" : Cond) ∈ GB := mt2 153 rfl rfl
theorem k_399 : (.instantiable "java/lang/IllegalArgumentException" 6 : Cond) ∈ GB := mt2 154 rfl rfl
theorem k_400 : (.initialized "java/lang/IllegalArgumentException" : Cond) ∈ GB := mt1 14 rfl rfl
theorem k_401 : (.classLink R_X 55 "java/lang/IllegalStateException" : Cond) ∈ GB := mt2 85 rfl rfl
theorem k_402 : (.instantiable "java/lang/IllegalStateException" 6 : Cond) ∈ GB := mt2 86 rfl rfl
theorem k_403 : (.initialized "java/lang/IllegalStateException" : Cond) ∈ GB := mt1 13 rfl rfl
theorem k_404 : (.classLink R_X 96 "java/lang/IndexOutOfBoundsException" : Cond) ∈ GB := mt2 185 rfl rfl
theorem k_405 : (.instantiable "java/lang/IndexOutOfBoundsException" 6 : Cond) ∈ GB := mt2 186 rfl rfl
theorem k_406 : (.initialized "java/lang/IndexOutOfBoundsException" : Cond) ∈ GB := mt1 15 rfl rfl
theorem ta_0 : tha R_X 62 66 "java/lang/IllegalArgumentException" ["java/lang/RuntimeException", "java/lang/Exception"] := ⟨⟨by decide +kernel, by decide +kernel⟩, k_398, k_399, k_400, by decide +kernel⟩
theorem ta_1 : tha R_X 55 59 "java/lang/IllegalStateException" ["java/lang/RuntimeException", "java/lang/Exception"] := ⟨⟨by decide +kernel, by decide +kernel⟩, k_401, k_402, k_403, by decide +kernel⟩
theorem ta_2 : tha R_X 96 100 "java/lang/IndexOutOfBoundsException" ["java/lang/RuntimeException", "java/lang/Exception"] := ⟨⟨by decide +kernel, by decide +kernel⟩, k_404, k_405, k_406, by decide +kernel⟩
theorem d_X_init_0 : decode b_X_init 0 = .ok (.aload_n 0, 1) := by decide +kernel
theorem d_X_init_1 : decode b_X_init 1 = .ok (.invokespecial 1, 3) := by decide +kernel
theorem d_X_init_4 : decode b_X_init 4 = .ok (.aload_n 0, 1) := by decide +kernel
theorem d_X_init_5 : decode b_X_init 5 = .ok (.new 7, 3) := by decide +kernel
theorem d_X_init_8 : decode b_X_init 8 = .ok (.dup, 1) := by decide +kernel
theorem d_X_init_9 : decode b_X_init 9 = .ok (.invokespecial 9, 3) := by decide +kernel
theorem d_X_init_12 : decode b_X_init 12 = .ok (.putfield 10, 3) := by decide +kernel
theorem d_X_init_15 : decode b_X_init 15 = .ok (.aload_n 0, 1) := by decide +kernel
theorem d_X_init_16 : decode b_X_init 16 = .ok (.new 16, 3) := by decide +kernel
theorem d_X_init_19 : decode b_X_init 19 = .ok (.dup, 1) := by decide +kernel
theorem d_X_init_20 : decode b_X_init 20 = .ok (.invokespecial 18, 3) := by decide +kernel
theorem d_X_init_23 : decode b_X_init 23 = .ok (.putfield 19, 3) := by decide +kernel
theorem d_X_init_26 : decode b_X_init 26 = .ok (.aload_n 0, 1) := by decide +kernel
theorem d_X_init_27 : decode b_X_init 27 = .ok (.new 23, 3) := by decide +kernel
theorem d_X_init_30 : decode b_X_init 30 = .ok (.dup, 1) := by decide +kernel
theorem d_X_init_31 : decode b_X_init 31 = .ok (.invokespecial 25, 3) := by decide +kernel
theorem d_X_init_34 : decode b_X_init 34 = .ok (.putfield 26, 3) := by decide +kernel
theorem d_X_init_37 : decode b_X_init 37 = .ok (.aload_n 0, 1) := by decide +kernel
theorem d_X_init_38 : decode b_X_init 38 = .ok (.new 30, 3) := by decide +kernel
theorem d_X_init_41 : decode b_X_init 41 = .ok (.dup, 1) := by decide +kernel
theorem d_X_init_42 : decode b_X_init 42 = .ok (.invokespecial 32, 3) := by decide +kernel
theorem d_X_init_45 : decode b_X_init 45 = .ok (.putfield 33, 3) := by decide +kernel
theorem d_X_init_48 : decode b_X_init 48 = .ok (.aload_n 0, 1) := by decide +kernel
theorem d_X_init_49 : decode b_X_init 49 = .ok (.new 37, 3) := by decide +kernel
theorem d_X_init_52 : decode b_X_init 52 = .ok (.dup, 1) := by decide +kernel
theorem d_X_init_53 : decode b_X_init 53 = .ok (.invokespecial 39, 3) := by decide +kernel
theorem d_X_init_56 : decode b_X_init 56 = .ok (.putfield 40, 3) := by decide +kernel
theorem d_X_init_59 : decode b_X_init 59 = .ok (.aload_n 0, 1) := by decide +kernel
theorem d_X_init_60 : decode b_X_init 60 = .ok (.new 44, 3) := by decide +kernel
theorem d_X_init_63 : decode b_X_init 63 = .ok (.dup, 1) := by decide +kernel
theorem d_X_init_64 : decode b_X_init 64 = .ok (.invokespecial 46, 3) := by decide +kernel
theorem d_X_init_67 : decode b_X_init 67 = .ok (.putfield 47, 3) := by decide +kernel
theorem d_X_init_70 : decode b_X_init 70 = .ok (.return_, 1) := by decide +kernel
def wp_X_init (post : ((Nat) × (Nat) × (Nat) × (Nat) × (Nat) × (Nat) × (Nat) × (Nat) × (Nat) × (Nat) × (Nat) × (Nat) × (Nat) × (Nat) × (Nat) × (Nat) × (Nat) × (Nat) × (Nat) × (Nat) × (Nat) × (Nat) × (Nat) × (Nat) × (Nat) × (Nat) × (Nat) × (Nat) × (Nat) × (Nat) × (Nat → Int32) × (Nat → Int32) × (Nat → Int32) × (Nat → Int32) × (Nat → Int32) × (Int32) × (Nat → Int32) × (Nat → Int32) × (Nat → Int32) × (Nat → Int32) × (Int32) × (Nat → Int32) × (Nat → Int32) × (Nat → Int32) × (Nat → Int32) × (Int32) × (Int32) × (Nat → Int64) × (Nat → Int32) × (Int32) × (Nat → Int32) × (Nat → Int32) × (Int32) × (Nat → Int32) × (Nat → Int32) × (Int32) × (Int32) × (Int32) × (Int32) × (Int32) × (Nat → Int32) × (Nat → Int32) × (Nat → Int32) × (Nat → Int32) × (Int32) × (Nat → Int32)) → Prop) : Prop := (∀ q_1 : Nat, wp_XS_init (fun u => match u with | (q_8, q_9, q_10, q_11, q_12, f_2, f_3, f_4, f_5, f_6, x_7) => (∀ q_13 : Nat, wp_XT_init (fun u => match u with | (q_19, q_20, q_21, q_22, f_14, f_15, f_16, f_17, x_18) => (∀ q_23 : Nat, wp_XR_init (fun u => match u with | (q_30, q_31, q_32, q_33, f_24, f_25, f_26, f_27, x_28, x_29) => (∀ q_34 : Nat, wp_XC_init (fun u => match u with | (q_36, f_35) => (∀ q_37 : Nat, wp_XF_init (fun u => match u with | (q_50, q_51, q_52, q_53, q_54, f_38, x_39, f_40, f_41, x_42, f_43, f_44, x_45, x_46, x_47, x_48, x_49) => (∀ q_55 : Nat, wp_XD_init (fun u => match u with | (q_62, q_63, q_64, q_65, q_66, f_56, f_57, f_58, f_59, x_60, f_61) => post (q_1, q_8, q_9, q_10, q_11, q_12, q_13, q_19, q_20, q_21, q_22, q_23, q_30, q_31, q_32, q_33, q_34, q_36, q_37, q_50, q_51, q_52, q_53, q_54, q_55, q_62, q_63, q_64, q_65, q_66, f_2, f_3, f_4, f_5, f_6, x_7, f_14, f_15, f_16, f_17, x_18, f_24, f_25, f_26, f_27, x_28, x_29, f_35, f_38, x_39, f_40, f_41, x_42, f_43, f_44, x_45, x_46, x_47, x_48, x_49, f_56, f_57, f_58, f_59, x_60, f_61)))))))))))))
set_option maxHeartbeats 4000000 in
set_option maxRecDepth 100000 in
theorem c_X_init (l : Launch) (hl9 : l.stackTraces = false) (dC : Nat → ClassId) (dI : Nat → Nat → Nat) (cI cJ cZ : ClassId) (q_0 : Nat) (post : ((Nat) × (Nat) × (Nat) × (Nat) × (Nat) × (Nat) × (Nat) × (Nat) × (Nat) × (Nat) × (Nat) × (Nat) × (Nat) × (Nat) × (Nat) × (Nat) × (Nat) × (Nat) × (Nat) × (Nat) × (Nat) × (Nat) × (Nat) × (Nat) × (Nat) × (Nat) × (Nat) × (Nat) × (Nat) × (Nat) × (Nat → Int32) × (Nat → Int32) × (Nat → Int32) × (Nat → Int32) × (Nat → Int32) × (Int32) × (Nat → Int32) × (Nat → Int32) × (Nat → Int32) × (Nat → Int32) × (Int32) × (Nat → Int32) × (Nat → Int32) × (Nat → Int32) × (Nat → Int32) × (Int32) × (Int32) × (Nat → Int64) × (Nat → Int32) × (Int32) × (Nat → Int32) × (Nat → Int32) × (Int32) × (Nat → Int32) × (Nat → Int32) × (Int32) × (Int32) × (Int32) × (Int32) × (Int32) × (Nat → Int32) × (Nat → Int32) × (Nat → Int32) × (Nat → Int32) × (Int32) × (Nat → Int32)) → Prop) (hw : wp_X_init post) : Kv l y_X_init b_X_init 1 none ({ frames := 2, cells := 30, slots := 1427, locals := 43 } : Room) dC dI cI cJ cZ [.ref q_0] [(q_0, .inr (0, [.null, .null, .null, .null, .null, .null]))] post (fun u : (Nat) × (Nat) × (Nat) × (Nat) × (Nat) × (Nat) × (Nat) × (Nat) × (Nat) × (Nat) × (Nat) × (Nat) × (Nat) × (Nat) × (Nat) × (Nat) × (Nat) × (Nat) × (Nat) × (Nat) × (Nat) × (Nat) × (Nat) × (Nat) × (Nat) × (Nat) × (Nat) × (Nat) × (Nat) × (Nat) × (Nat → Int32) × (Nat → Int32) × (Nat → Int32) × (Nat → Int32) × (Nat → Int32) × (Int32) × (Nat → Int32) × (Nat → Int32) × (Nat → Int32) × (Nat → Int32) × (Int32) × (Nat → Int32) × (Nat → Int32) × (Nat → Int32) × (Nat → Int32) × (Int32) × (Int32) × (Nat → Int64) × (Nat → Int32) × (Int32) × (Nat → Int32) × (Nat → Int32) × (Int32) × (Nat → Int32) × (Nat → Int32) × (Int32) × (Int32) × (Int32) × (Int32) × (Int32) × (Nat → Int32) × (Nat → Int32) × (Nat → Int32) × (Nat → Int32) × (Int32) × (Nat → Int32) => [(q_0, .inr (0, [.ref u.1, .ref u.2.2.2.2.2.2.1, .ref u.2.2.2.2.2.2.2.2.2.2.2.1, .ref u.2.2.2.2.2.2.2.2.2.2.2.2.2.2.2.2.1, .ref u.2.2.2.2.2.2.2.2.2.2.2.2.2.2.2.2.2.2.1, .ref u.2.2.2.2.2.2.2.2.2.2.2.2.2.2.2.2.2.2.2.2.2.2.2.2.1])), (u.1, .inr (1, [.ref u.2.1, .ref u.2.2.1, .ref u.2.2.2.1, .ref u.2.2.2.2.1, .ref u.2.2.2.2.2.1, .int u.2.2.2.2.2.2.2.2.2.2.2.2.2.2.2.2.2.2.2.2.2.2.2.2.2.2.2.2.2.2.2.2.2.2.2.1])), (u.2.1, .inl (cI, 8, .inl u.2.2.2.2.2.2.2.2.2.2.2.2.2.2.2.2.2.2.2.2.2.2.2.2.2.2.2.2.2.2.1)), (u.2.2.1, .inl (cI, 8, .inl u.2.2.2.2.2.2.2.2.2.2.2.2.2.2.2.2.2.2.2.2.2.2.2.2.2.2.2.2.2.2.2.1)), (u.2.2.2.1, .inl (cI, 8, .inl u.2.2.2.2.2.2.2.2.2.2.2.2.2.2.2.2.2.2.2.2.2.2.2.2.2.2.2.2.2.2.2.2.1)), (u.2.2.2.2.1, .inl (cI, 8, .inl u.2.2.2.2.2.2.2.2.2.2.2.2.2.2.2.2.2.2.2.2.2.2.2.2.2.2.2.2.2.2.2.2.2.1)), (u.2.2.2.2.2.1, .inl (cI, 8, .inl u.2.2.2.2.2.2.2.2.2.2.2.2.2.2.2.2.2.2.2.2.2.2.2.2.2.2.2.2.2.2.2.2.2.2.1)), (u.2.2.2.2.2.2.1, .inr (2, [.ref u.2.2.2.2.2.2.2.1, .ref u.2.2.2.2.2.2.2.2.1, .ref u.2.2.2.2.2.2.2.2.2.1, .ref u.2.2.2.2.2.2.2.2.2.2.1, .int u.2.2.2.2.2.2.2.2.2.2.2.2.2.2.2.2.2.2.2.2.2.2.2.2.2.2.2.2.2.2.2.2.2.2.2.2.2.2.2.2.1])), (u.2.2.2.2.2.2.2.1, .inl (cI, 60, .inl u.2.2.2.2.2.2.2.2.2.2.2.2.2.2.2.2.2.2.2.2.2.2.2.2.2.2.2.2.2.2.2.2.2.2.2.2.1)), (u.2.2.2.2.2.2.2.2.1, .inl (cI, 60, .inl u.2.2.2.2.2.2.2.2.2.2.2.2.2.2.2.2.2.2.2.2.2.2.2.2.2.2.2.2.2.2.2.2.2.2.2.2.2.1)), (u.2.2.2.2.2.2.2.2.2.1, .inl (cI, 60, .inl u.2.2.2.2.2.2.2.2.2.2.2.2.2.2.2.2.2.2.2.2.2.2.2.2.2.2.2.2.2.2.2.2.2.2.2.2.2.2.1)), (u.2.2.2.2.2.2.2.2.2.2.1, .inl (cZ, 60, .inl u.2.2.2.2.2.2.2.2.2.2.2.2.2.2.2.2.2.2.2.2.2.2.2.2.2.2.2.2.2.2.2.2.2.2.2.2.2.2.2.1)), (u.2.2.2.2.2.2.2.2.2.2.2.1, .inr (3, [.ref u.2.2.2.2.2.2.2.2.2.2.2.2.1, .ref u.2.2.2.2.2.2.2.2.2.2.2.2.2.1, .ref u.2.2.2.2.2.2.2.2.2.2.2.2.2.2.1, .ref u.2.2.2.2.2.2.2.2.2.2.2.2.2.2.2.1, .int u.2.2.2.2.2.2.2.2.2.2.2.2.2.2.2.2.2.2.2.2.2.2.2.2.2.2.2.2.2.2.2.2.2.2.2.2.2.2.2.2.2.2.2.2.2.1, .int u.2.2.2.2.2.2.2.2.2.2.2.2.2.2.2.2.2.2.2.2.2.2.2.2.2.2.2.2.2.2.2.2.2.2.2.2.2.2.2.2.2.2.2.2.2.2.1])), (u.2.2.2.2.2.2.2.2.2.2.2.2.1, .inl (cI, 30, .inl u.2.2.2.2.2.2.2.2.2.2.2.2.2.2.2.2.2.2.2.2.2.2.2.2.2.2.2.2.2.2.2.2.2.2.2.2.2.2.2.2.2.1)), (u.2.2.2.2.2.2.2.2.2.2.2.2.2.1, .inl (cI, 30, .inl u.2.2.2.2.2.2.2.2.2.2.2.2.2.2.2.2.2.2.2.2.2.2.2.2.2.2.2.2.2.2.2.2.2.2.2.2.2.2.2.2.2.2.1)), (u.2.2.2.2.2.2.2.2.2.2.2.2.2.2.1, .inl (cI, 30, .inl u.2.2.2.2.2.2.2.2.2.2.2.2.2.2.2.2.2.2.2.2.2.2.2.2.2.2.2.2.2.2.2.2.2.2.2.2.2.2.2.2.2.2.2.1)), (u.2.2.2.2.2.2.2.2.2.2.2.2.2.2.2.1, .inl (cI, 30, .inl u.2.2.2.2.2.2.2.2.2.2.2.2.2.2.2.2.2.2.2.2.2.2.2.2.2.2.2.2.2.2.2.2.2.2.2.2.2.2.2.2.2.2.2.2.1)), (u.2.2.2.2.2.2.2.2.2.2.2.2.2.2.2.2.1, .inr (4, [.ref u.2.2.2.2.2.2.2.2.2.2.2.2.2.2.2.2.2.1])), (u.2.2.2.2.2.2.2.2.2.2.2.2.2.2.2.2.2.1, .inl (cJ, 115, .inr (.inl u.2.2.2.2.2.2.2.2.2.2.2.2.2.2.2.2.2.2.2.2.2.2.2.2.2.2.2.2.2.2.2.2.2.2.2.2.2.2.2.2.2.2.2.2.2.2.2.1))), (u.2.2.2.2.2.2.2.2.2.2.2.2.2.2.2.2.2.2.1, .inr (5, [.ref u.2.2.2.2.2.2.2.2.2.2.2.2.2.2.2.2.2.2.2.1, .int u.2.2.2.2.2.2.2.2.2.2.2.2.2.2.2.2.2.2.2.2.2.2.2.2.2.2.2.2.2.2.2.2.2.2.2.2.2.2.2.2.2.2.2.2.2.2.2.2.2.1, .ref u.2.2.2.2.2.2.2.2.2.2.2.2.2.2.2.2.2.2.2.2.1, .ref u.2.2.2.2.2.2.2.2.2.2.2.2.2.2.2.2.2.2.2.2.2.1, .int u.2.2.2.2.2.2.2.2.2.2.2.2.2.2.2.2.2.2.2.2.2.2.2.2.2.2.2.2.2.2.2.2.2.2.2.2.2.2.2.2.2.2.2.2.2.2.2.2.2.2.2.2.1, .ref u.2.2.2.2.2.2.2.2.2.2.2.2.2.2.2.2.2.2.2.2.2.2.1, .ref u.2.2.2.2.2.2.2.2.2.2.2.2.2.2.2.2.2.2.2.2.2.2.2.1, .int u.2.2.2.2.2.2.2.2.2.2.2.2.2.2.2.2.2.2.2.2.2.2.2.2.2.2.2.2.2.2.2.2.2.2.2.2.2.2.2.2.2.2.2.2.2.2.2.2.2.2.2.2.2.2.2.1, .int u.2.2.2.2.2.2.2.2.2.2.2.2.2.2.2.2.2.2.2.2.2.2.2.2.2.2.2.2.2.2.2.2.2.2.2.2.2.2.2.2.2.2.2.2.2.2.2.2.2.2.2.2.2.2.2.2.1, .int u.2.2.2.2.2.2.2.2.2.2.2.2.2.2.2.2.2.2.2.2.2.2.2.2.2.2.2.2.2.2.2.2.2.2.2.2.2.2.2.2.2.2.2.2.2.2.2.2.2.2.2.2.2.2.2.2.2.1, .int u.2.2.2.2.2.2.2.2.2.2.2.2.2.2.2.2.2.2.2.2.2.2.2.2.2.2.2.2.2.2.2.2.2.2.2.2.2.2.2.2.2.2.2.2.2.2.2.2.2.2.2.2.2.2.2.2.2.2.1, .int u.2.2.2.2.2.2.2.2.2.2.2.2.2.2.2.2.2.2.2.2.2.2.2.2.2.2.2.2.2.2.2.2.2.2.2.2.2.2.2.2.2.2.2.2.2.2.2.2.2.2.2.2.2.2.2.2.2.2.2.1])), (u.2.2.2.2.2.2.2.2.2.2.2.2.2.2.2.2.2.2.2.1, .inl (cI, 60, .inl u.2.2.2.2.2.2.2.2.2.2.2.2.2.2.2.2.2.2.2.2.2.2.2.2.2.2.2.2.2.2.2.2.2.2.2.2.2.2.2.2.2.2.2.2.2.2.2.2.1)), (u.2.2.2.2.2.2.2.2.2.2.2.2.2.2.2.2.2.2.2.2.1, .inl (cI, 5, .inl u.2.2.2.2.2.2.2.2.2.2.2.2.2.2.2.2.2.2.2.2.2.2.2.2.2.2.2.2.2.2.2.2.2.2.2.2.2.2.2.2.2.2.2.2.2.2.2.2.2.2.1)), (u.2.2.2.2.2.2.2.2.2.2.2.2.2.2.2.2.2.2.2.2.2.1, .inl (cI, 10, .inl u.2.2.2.2.2.2.2.2.2.2.2.2.2.2.2.2.2.2.2.2.2.2.2.2.2.2.2.2.2.2.2.2.2.2.2.2.2.2.2.2.2.2.2.2.2.2.2.2.2.2.2.1)), (u.2.2.2.2.2.2.2.2.2.2.2.2.2.2.2.2.2.2.2.2.2.2.1, .inl (cI, 5, .inl u.2.2.2.2.2.2.2.2.2.2.2.2.2.2.2.2.2.2.2.2.2.2.2.2.2.2.2.2.2.2.2.2.2.2.2.2.2.2.2.2.2.2.2.2.2.2.2.2.2.2.2.2.2.1)), (u.2.2.2.2.2.2.2.2.2.2.2.2.2.2.2.2.2.2.2.2.2.2.2.1, .inl (cI, 10, .inl u.2.2.2.2.2.2.2.2.2.2.2.2.2.2.2.2.2.2.2.2.2.2.2.2.2.2.2.2.2.2.2.2.2.2.2.2.2.2.2.2.2.2.2.2.2.2.2.2.2.2.2.2.2.2.1)), (u.2.2.2.2.2.2.2.2.2.2.2.2.2.2.2.2.2.2.2.2.2.2.2.2.1, .inr (6, [.ref u.2.2.2.2.2.2.2.2.2.2.2.2.2.2.2.2.2.2.2.2.2.2.2.2.2.1, .ref u.2.2.2.2.2.2.2.2.2.2.2.2.2.2.2.2.2.2.2.2.2.2.2.2.2.2.1, .ref u.2.2.2.2.2.2.2.2.2.2.2.2.2.2.2.2.2.2.2.2.2.2.2.2.2.2.2.1, .ref u.2.2.2.2.2.2.2.2.2.2.2.2.2.2.2.2.2.2.2.2.2.2.2.2.2.2.2.2.1, .int u.2.2.2.2.2.2.2.2.2.2.2.2.2.2.2.2.2.2.2.2.2.2.2.2.2.2.2.2.2.2.2.2.2.2.2.2.2.2.2.2.2.2.2.2.2.2.2.2.2.2.2.2.2.2.2.2.2.2.2.2.2.2.2.2.1, .ref u.2.2.2.2.2.2.2.2.2.2.2.2.2.2.2.2.2.2.2.2.2.2.2.2.2.2.2.2.2.1])), (u.2.2.2.2.2.2.2.2.2.2.2.2.2.2.2.2.2.2.2.2.2.2.2.2.2.1, .inl (cI, 360, .inl u.2.2.2.2.2.2.2.2.2.2.2.2.2.2.2.2.2.2.2.2.2.2.2.2.2.2.2.2.2.2.2.2.2.2.2.2.2.2.2.2.2.2.2.2.2.2.2.2.2.2.2.2.2.2.2.2.2.2.2.2.1)), (u.2.2.2.2.2.2.2.2.2.2.2.2.2.2.2.2.2.2.2.2.2.2.2.2.2.2.1, .inl (cI, 6, .inl u.2.2.2.2.2.2.2.2.2.2.2.2.2.2.2.2.2.2.2.2.2.2.2.2.2.2.2.2.2.2.2.2.2.2.2.2.2.2.2.2.2.2.2.2.2.2.2.2.2.2.2.2.2.2.2.2.2.2.2.2.2.1)), (u.2.2.2.2.2.2.2.2.2.2.2.2.2.2.2.2.2.2.2.2.2.2.2.2.2.2.2.1, .inl (cI, 60, .inl u.2.2.2.2.2.2.2.2.2.2.2.2.2.2.2.2.2.2.2.2.2.2.2.2.2.2.2.2.2.2.2.2.2.2.2.2.2.2.2.2.2.2.2.2.2.2.2.2.2.2.2.2.2.2.2.2.2.2.2.2.2.2.1)), (u.2.2.2.2.2.2.2.2.2.2.2.2.2.2.2.2.2.2.2.2.2.2.2.2.2.2.2.2.1, .inl (cI, 300, .inl u.2.2.2.2.2.2.2.2.2.2.2.2.2.2.2.2.2.2.2.2.2.2.2.2.2.2.2.2.2.2.2.2.2.2.2.2.2.2.2.2.2.2.2.2.2.2.2.2.2.2.2.2.2.2.2.2.2.2.2.2.2.2.2.1)), (u.2.2.2.2.2.2.2.2.2.2.2.2.2.2.2.2.2.2.2.2.2.2.2.2.2.2.2.2.2.1, .inl (cI, 60, .inl u.2.2.2.2.2.2.2.2.2.2.2.2.2.2.2.2.2.2.2.2.2.2.2.2.2.2.2.2.2.2.2.2.2.2.2.2.2.2.2.2.2.2.2.2.2.2.2.2.2.2.2.2.2.2.2.2.2.2.2.2.2.2.2.2.2))]) := by
  refine mkv hl9 (own := R_X) rfl (by decide) ?_
  intro p e s m args below meth c A C0 hnm eav hP hD
  obtain ⟨-, hx, hb, hml, hr, hown, hts, hlocks, hK, hZ, hA, hNS⟩ := id C0
  subst eav
  have hS : va_S A s.heap s.heap [] := va_S.rf
  have hl := lv_entry ([.ref q_0]) (n := 1) (Nat.le_of_ble_eq_true rfl)
  rw [lg_entry_eq]
  generalize (lg_sl ([.ref q_0]) ++ List.replicate (1 - (lg_sl ([.ref q_0])).length) Slot.unset).toArray = ls at hl ⊢
  have hl : lv_has ls 1 [(0, .ref q_0)] := hl
  unfold wp_X_init at hw
  refine lv_aload_n hx hb d_X_init_0 rfl (lv_at hl 0 rfl) ?_
  refine W.objInit hx hb hown (hts _ k_0) (hts _ k_1) (hts _ k_2) rfl (by rw [hml]; exact hl.1) rfl d_X_init_1 (Nat.le_of_ble_eq_true rfl) (Nat.le_of_ble_eq_true rfl) ?_
  refine W.eq (g2 := F0 m 4 _ []) rfl ?_
  refine lv_aload_n hx hb d_X_init_4 rfl (lv_at hl 0 rfl) ?_
  refine va_new (ci := 1) (fs := [.null, .null, .null, .null, .null, .int (0 : Int32)]) (C := R_XS) (T := F_XS) (N := 6) hx hb hts i_XS t_XS t_XS_ok hown (hts _ k_3) (hts _ k_4) (hts _ k_5) hK hP hD hS hA rfl (fun j hj => by rcases (show j = 0 ∨ j = 1 ∨ j = 2 ∨ j = 3 ∨ j = 4 ∨ j = 5 by omega) with rfl | rfl | rfl | rfl | rfl | rfl <;> rfl) (by decide) (by decide) d_X_init_5 (fun q_1 H hP hD hS => ?_)
  have hw := hw q_1
  have hP : va_P (dC, dI) classes [(q_0, .inr (0, [.null, .null, .null, .null, .null, .null])), (q_1, .inr (1, [.null, .null, .null, .null, .null, .int (0 : Int32)]))] H := hP
  have hD : va_D A [(q_0, .inr (0, [.null, .null, .null, .null, .null, .null])), (q_1, .inr (1, [.null, .null, .null, .null, .null, .int (0 : Int32)]))] := hD
  refine lv_dup hx hb d_X_init_8 rfl ?_
  refine jn_v C0 hP hD hS [1] [0] (ru_IN C0 (As := []) (rest := [.ref q_1, .ref q_0]) (c_XS_init l hl9 dC dI cI cJ cZ q_1 _ hw _) k_13 (zn hZ z_0) k_14 k_5 (n9 := 0) (by decide +kernel) rfl rfl ⟨Nat.le_of_ble_eq_true rfl, Nat.le_of_ble_eq_true rfl⟩ hP hD hS [1] rfl (by decide) hl.1 rfl (Nat.le_of_ble_eq_true rfl) d_X_init_9 ⟨Nat.le_of_ble_eq_true rfl, Nat.le_of_ble_eq_true rfl⟩) rfl rfl (by decide) (by decide) (fun u H locs hw hP hD hS => ?_)
  obtain ⟨q_8, q_9, q_10, q_11, q_12, f_2, f_3, f_4, f_5, f_6, x_7⟩ := u
  try dsimp only at hw
  have hP : va_P (dC, dI) classes [(q_0, .inr (0, [.null, .null, .null, .null, .null, .null])), (q_1, .inr (1, [.ref q_8, .ref q_9, .ref q_10, .ref q_11, .ref q_12, .int x_7])), (q_8, .inl (cI, 8, .inl f_2)), (q_9, .inl (cI, 8, .inl f_3)), (q_10, .inl (cI, 8, .inl f_4)), (q_11, .inl (cI, 8, .inl f_5)), (q_12, .inl (cI, 8, .inl f_6))] H := hP
  have hD : va_D A [(q_0, .inr (0, [.null, .null, .null, .null, .null, .null])), (q_1, .inr (1, [.ref q_8, .ref q_9, .ref q_10, .ref q_11, .ref q_12, .int x_7])), (q_8, .inl (cI, 8, .inl f_2)), (q_9, .inl (cI, 8, .inl f_3)), (q_10, .inl (cI, 8, .inl f_4)), (q_11, .inl (cI, 8, .inl f_5)), (q_12, .inl (cI, 8, .inl f_6))] := hD
  refine va_putF (D := (dC, dI)) (ci := 0) (v := .ref q_1) (ty := (.object "SlotTickets$Slots")) (C := R_X) (T := F_X) (N := 6) hx hb hts i_X t_X t_X_ok n_X hown hK hP hD hS 0 rfl rfl 0 (by decide) (hts _ k_15) (fun _ h9 => h9) rfl hnm rfl (by decide +kernel) rfl rfl (Nat.le_of_ble_eq_true rfl) d_X_init_12 (fun H locs hP hD hS => ?_)
  have hP : va_P (dC, dI) classes [(q_0, .inr (0, [.ref q_1, .null, .null, .null, .null, .null])), (q_1, .inr (1, [.ref q_8, .ref q_9, .ref q_10, .ref q_11, .ref q_12, .int x_7])), (q_8, .inl (cI, 8, .inl f_2)), (q_9, .inl (cI, 8, .inl f_3)), (q_10, .inl (cI, 8, .inl f_4)), (q_11, .inl (cI, 8, .inl f_5)), (q_12, .inl (cI, 8, .inl f_6))] H := hP
  have hD : va_D A [(q_0, .inr (0, [.ref q_1, .null, .null, .null, .null, .null])), (q_1, .inr (1, [.ref q_8, .ref q_9, .ref q_10, .ref q_11, .ref q_12, .int x_7])), (q_8, .inl (cI, 8, .inl f_2)), (q_9, .inl (cI, 8, .inl f_3)), (q_10, .inl (cI, 8, .inl f_4)), (q_11, .inl (cI, 8, .inl f_5)), (q_12, .inl (cI, 8, .inl f_6))] := hD
  refine lv_aload_n hx hb d_X_init_15 rfl (lv_at hl 0 rfl) ?_
  refine va_new (ci := 2) (fs := [.null, .null, .null, .null, .int (0 : Int32)]) (C := R_XT) (T := F_XT) (N := 5) hx hb hts i_XT t_XT t_XT_ok hown (hts _ k_16) (hts _ k_17) (hts _ k_18) hK hP hD hS hA rfl (fun j hj => by rcases (show j = 0 ∨ j = 1 ∨ j = 2 ∨ j = 3 ∨ j = 4 by omega) with rfl | rfl | rfl | rfl | rfl <;> rfl) (by decide) (by decide) d_X_init_16 (fun q_13 H hP hD hS => ?_)
  have hw := hw q_13
  have hP : va_P (dC, dI) classes [(q_0, .inr (0, [.ref q_1, .null, .null, .null, .null, .null])), (q_1, .inr (1, [.ref q_8, .ref q_9, .ref q_10, .ref q_11, .ref q_12, .int x_7])), (q_8, .inl (cI, 8, .inl f_2)), (q_9, .inl (cI, 8, .inl f_3)), (q_10, .inl (cI, 8, .inl f_4)), (q_11, .inl (cI, 8, .inl f_5)), (q_12, .inl (cI, 8, .inl f_6)), (q_13, .inr (2, [.null, .null, .null, .null, .int (0 : Int32)]))] H := hP
  have hD : va_D A [(q_0, .inr (0, [.ref q_1, .null, .null, .null, .null, .null])), (q_1, .inr (1, [.ref q_8, .ref q_9, .ref q_10, .ref q_11, .ref q_12, .int x_7])), (q_8, .inl (cI, 8, .inl f_2)), (q_9, .inl (cI, 8, .inl f_3)), (q_10, .inl (cI, 8, .inl f_4)), (q_11, .inl (cI, 8, .inl f_5)), (q_12, .inl (cI, 8, .inl f_6)), (q_13, .inr (2, [.null, .null, .null, .null, .int (0 : Int32)]))] := hD
  refine lv_dup hx hb d_X_init_19 rfl ?_
  refine jn_v C0 hP hD hS [7] [0, 1, 2, 3, 4, 5, 6] (ru_IN C0 (As := []) (rest := [.ref q_13, .ref q_0]) (c_XT_init l hl9 dC dI cI cJ cZ q_13 _ hw _) k_25 (zn hZ z_1) k_26 k_18 (n9 := 0) (by decide +kernel) rfl rfl ⟨Nat.le_of_ble_eq_true rfl, Nat.le_of_ble_eq_true rfl⟩ hP hD hS [7] rfl (by decide) hl.1 rfl (Nat.le_of_ble_eq_true rfl) d_X_init_20 ⟨Nat.le_of_ble_eq_true rfl, Nat.le_of_ble_eq_true rfl⟩) rfl rfl (by decide) (by decide) (fun u H locs hw hP hD hS => ?_)
  obtain ⟨q_19, q_20, q_21, q_22, f_14, f_15, f_16, f_17, x_18⟩ := u
  try dsimp only at hw
  have hP : va_P (dC, dI) classes [(q_0, .inr (0, [.ref q_1, .null, .null, .null, .null, .null])), (q_1, .inr (1, [.ref q_8, .ref q_9, .ref q_10, .ref q_11, .ref q_12, .int x_7])), (q_8, .inl (cI, 8, .inl f_2)), (q_9, .inl (cI, 8, .inl f_3)), (q_10, .inl (cI, 8, .inl f_4)), (q_11, .inl (cI, 8, .inl f_5)), (q_12, .inl (cI, 8, .inl f_6)), (q_13, .inr (2, [.ref q_19, .ref q_20, .ref q_21, .ref q_22, .int x_18])), (q_19, .inl (cI, 60, .inl f_14)), (q_20, .inl (cI, 60, .inl f_15)), (q_21, .inl (cI, 60, .inl f_16)), (q_22, .inl (cZ, 60, .inl f_17))] H := hP
  have hD : va_D A [(q_0, .inr (0, [.ref q_1, .null, .null, .null, .null, .null])), (q_1, .inr (1, [.ref q_8, .ref q_9, .ref q_10, .ref q_11, .ref q_12, .int x_7])), (q_8, .inl (cI, 8, .inl f_2)), (q_9, .inl (cI, 8, .inl f_3)), (q_10, .inl (cI, 8, .inl f_4)), (q_11, .inl (cI, 8, .inl f_5)), (q_12, .inl (cI, 8, .inl f_6)), (q_13, .inr (2, [.ref q_19, .ref q_20, .ref q_21, .ref q_22, .int x_18])), (q_19, .inl (cI, 60, .inl f_14)), (q_20, .inl (cI, 60, .inl f_15)), (q_21, .inl (cI, 60, .inl f_16)), (q_22, .inl (cZ, 60, .inl f_17))] := hD
  refine va_putF (D := (dC, dI)) (ci := 0) (v := .ref q_13) (ty := (.object "SlotTickets$Tickets")) (C := R_X) (T := F_X) (N := 6) hx hb hts i_X t_X t_X_ok n_X hown hK hP hD hS 0 rfl rfl 1 (by decide) (hts _ k_27) (fun _ h9 => h9) rfl hnm rfl (by decide +kernel) rfl rfl (Nat.le_of_ble_eq_true rfl) d_X_init_23 (fun H locs hP hD hS => ?_)
  have hP : va_P (dC, dI) classes [(q_0, .inr (0, [.ref q_1, .ref q_13, .null, .null, .null, .null])), (q_1, .inr (1, [.ref q_8, .ref q_9, .ref q_10, .ref q_11, .ref q_12, .int x_7])), (q_8, .inl (cI, 8, .inl f_2)), (q_9, .inl (cI, 8, .inl f_3)), (q_10, .inl (cI, 8, .inl f_4)), (q_11, .inl (cI, 8, .inl f_5)), (q_12, .inl (cI, 8, .inl f_6)), (q_13, .inr (2, [.ref q_19, .ref q_20, .ref q_21, .ref q_22, .int x_18])), (q_19, .inl (cI, 60, .inl f_14)), (q_20, .inl (cI, 60, .inl f_15)), (q_21, .inl (cI, 60, .inl f_16)), (q_22, .inl (cZ, 60, .inl f_17))] H := hP
  have hD : va_D A [(q_0, .inr (0, [.ref q_1, .ref q_13, .null, .null, .null, .null])), (q_1, .inr (1, [.ref q_8, .ref q_9, .ref q_10, .ref q_11, .ref q_12, .int x_7])), (q_8, .inl (cI, 8, .inl f_2)), (q_9, .inl (cI, 8, .inl f_3)), (q_10, .inl (cI, 8, .inl f_4)), (q_11, .inl (cI, 8, .inl f_5)), (q_12, .inl (cI, 8, .inl f_6)), (q_13, .inr (2, [.ref q_19, .ref q_20, .ref q_21, .ref q_22, .int x_18])), (q_19, .inl (cI, 60, .inl f_14)), (q_20, .inl (cI, 60, .inl f_15)), (q_21, .inl (cI, 60, .inl f_16)), (q_22, .inl (cZ, 60, .inl f_17))] := hD
  refine lv_aload_n hx hb d_X_init_26 rfl (lv_at hl 0 rfl) ?_
  refine va_new (ci := 3) (fs := [.null, .null, .null, .null, .int (0 : Int32), .int (0 : Int32)]) (C := R_XR) (T := F_XR) (N := 6) hx hb hts i_XR t_XR t_XR_ok hown (hts _ k_28) (hts _ k_29) (hts _ k_30) hK hP hD hS hA rfl (fun j hj => by rcases (show j = 0 ∨ j = 1 ∨ j = 2 ∨ j = 3 ∨ j = 4 ∨ j = 5 by omega) with rfl | rfl | rfl | rfl | rfl | rfl <;> rfl) (by decide) (by decide) d_X_init_27 (fun q_23 H hP hD hS => ?_)
  have hw := hw q_23
  have hP : va_P (dC, dI) classes [(q_0, .inr (0, [.ref q_1, .ref q_13, .null, .null, .null, .null])), (q_1, .inr (1, [.ref q_8, .ref q_9, .ref q_10, .ref q_11, .ref q_12, .int x_7])), (q_8, .inl (cI, 8, .inl f_2)), (q_9, .inl (cI, 8, .inl f_3)), (q_10, .inl (cI, 8, .inl f_4)), (q_11, .inl (cI, 8, .inl f_5)), (q_12, .inl (cI, 8, .inl f_6)), (q_13, .inr (2, [.ref q_19, .ref q_20, .ref q_21, .ref q_22, .int x_18])), (q_19, .inl (cI, 60, .inl f_14)), (q_20, .inl (cI, 60, .inl f_15)), (q_21, .inl (cI, 60, .inl f_16)), (q_22, .inl (cZ, 60, .inl f_17)), (q_23, .inr (3, [.null, .null, .null, .null, .int (0 : Int32), .int (0 : Int32)]))] H := hP
  have hD : va_D A [(q_0, .inr (0, [.ref q_1, .ref q_13, .null, .null, .null, .null])), (q_1, .inr (1, [.ref q_8, .ref q_9, .ref q_10, .ref q_11, .ref q_12, .int x_7])), (q_8, .inl (cI, 8, .inl f_2)), (q_9, .inl (cI, 8, .inl f_3)), (q_10, .inl (cI, 8, .inl f_4)), (q_11, .inl (cI, 8, .inl f_5)), (q_12, .inl (cI, 8, .inl f_6)), (q_13, .inr (2, [.ref q_19, .ref q_20, .ref q_21, .ref q_22, .int x_18])), (q_19, .inl (cI, 60, .inl f_14)), (q_20, .inl (cI, 60, .inl f_15)), (q_21, .inl (cI, 60, .inl f_16)), (q_22, .inl (cZ, 60, .inl f_17)), (q_23, .inr (3, [.null, .null, .null, .null, .int (0 : Int32), .int (0 : Int32)]))] := hD
  refine lv_dup hx hb d_X_init_30 rfl ?_
  refine jn_v C0 hP hD hS [12] [0, 1, 2, 3, 4, 5, 6, 7, 8, 9, 10, 11] (ru_IN C0 (As := []) (rest := [.ref q_23, .ref q_0]) (c_XR_init l hl9 dC dI cI cJ cZ q_23 _ hw _) k_36 (zn hZ z_2) k_37 k_30 (n9 := 0) (by decide +kernel) rfl rfl ⟨Nat.le_of_ble_eq_true rfl, Nat.le_of_ble_eq_true rfl⟩ hP hD hS [12] rfl (by decide) hl.1 rfl (Nat.le_of_ble_eq_true rfl) d_X_init_31 ⟨Nat.le_of_ble_eq_true rfl, Nat.le_of_ble_eq_true rfl⟩) rfl rfl (by decide) (by decide) (fun u H locs hw hP hD hS => ?_)
  obtain ⟨q_30, q_31, q_32, q_33, f_24, f_25, f_26, f_27, x_28, x_29⟩ := u
  try dsimp only at hw
  have hP : va_P (dC, dI) classes [(q_0, .inr (0, [.ref q_1, .ref q_13, .null, .null, .null, .null])), (q_1, .inr (1, [.ref q_8, .ref q_9, .ref q_10, .ref q_11, .ref q_12, .int x_7])), (q_8, .inl (cI, 8, .inl f_2)), (q_9, .inl (cI, 8, .inl f_3)), (q_10, .inl (cI, 8, .inl f_4)), (q_11, .inl (cI, 8, .inl f_5)), (q_12, .inl (cI, 8, .inl f_6)), (q_13, .inr (2, [.ref q_19, .ref q_20, .ref q_21, .ref q_22, .int x_18])), (q_19, .inl (cI, 60, .inl f_14)), (q_20, .inl (cI, 60, .inl f_15)), (q_21, .inl (cI, 60, .inl f_16)), (q_22, .inl (cZ, 60, .inl f_17)), (q_23, .inr (3, [.ref q_30, .ref q_31, .ref q_32, .ref q_33, .int x_28, .int x_29])), (q_30, .inl (cI, 30, .inl f_24)), (q_31, .inl (cI, 30, .inl f_25)), (q_32, .inl (cI, 30, .inl f_26)), (q_33, .inl (cI, 30, .inl f_27))] H := hP
  have hD : va_D A [(q_0, .inr (0, [.ref q_1, .ref q_13, .null, .null, .null, .null])), (q_1, .inr (1, [.ref q_8, .ref q_9, .ref q_10, .ref q_11, .ref q_12, .int x_7])), (q_8, .inl (cI, 8, .inl f_2)), (q_9, .inl (cI, 8, .inl f_3)), (q_10, .inl (cI, 8, .inl f_4)), (q_11, .inl (cI, 8, .inl f_5)), (q_12, .inl (cI, 8, .inl f_6)), (q_13, .inr (2, [.ref q_19, .ref q_20, .ref q_21, .ref q_22, .int x_18])), (q_19, .inl (cI, 60, .inl f_14)), (q_20, .inl (cI, 60, .inl f_15)), (q_21, .inl (cI, 60, .inl f_16)), (q_22, .inl (cZ, 60, .inl f_17)), (q_23, .inr (3, [.ref q_30, .ref q_31, .ref q_32, .ref q_33, .int x_28, .int x_29])), (q_30, .inl (cI, 30, .inl f_24)), (q_31, .inl (cI, 30, .inl f_25)), (q_32, .inl (cI, 30, .inl f_26)), (q_33, .inl (cI, 30, .inl f_27))] := hD
  refine va_putF (D := (dC, dI)) (ci := 0) (v := .ref q_23) (ty := (.object "SlotTickets$Requests")) (C := R_X) (T := F_X) (N := 6) hx hb hts i_X t_X t_X_ok n_X hown hK hP hD hS 0 rfl rfl 2 (by decide) (hts _ k_38) (fun _ h9 => h9) rfl hnm rfl (by decide +kernel) rfl rfl (Nat.le_of_ble_eq_true rfl) d_X_init_34 (fun H locs hP hD hS => ?_)
  have hP : va_P (dC, dI) classes [(q_0, .inr (0, [.ref q_1, .ref q_13, .ref q_23, .null, .null, .null])), (q_1, .inr (1, [.ref q_8, .ref q_9, .ref q_10, .ref q_11, .ref q_12, .int x_7])), (q_8, .inl (cI, 8, .inl f_2)), (q_9, .inl (cI, 8, .inl f_3)), (q_10, .inl (cI, 8, .inl f_4)), (q_11, .inl (cI, 8, .inl f_5)), (q_12, .inl (cI, 8, .inl f_6)), (q_13, .inr (2, [.ref q_19, .ref q_20, .ref q_21, .ref q_22, .int x_18])), (q_19, .inl (cI, 60, .inl f_14)), (q_20, .inl (cI, 60, .inl f_15)), (q_21, .inl (cI, 60, .inl f_16)), (q_22, .inl (cZ, 60, .inl f_17)), (q_23, .inr (3, [.ref q_30, .ref q_31, .ref q_32, .ref q_33, .int x_28, .int x_29])), (q_30, .inl (cI, 30, .inl f_24)), (q_31, .inl (cI, 30, .inl f_25)), (q_32, .inl (cI, 30, .inl f_26)), (q_33, .inl (cI, 30, .inl f_27))] H := hP
  have hD : va_D A [(q_0, .inr (0, [.ref q_1, .ref q_13, .ref q_23, .null, .null, .null])), (q_1, .inr (1, [.ref q_8, .ref q_9, .ref q_10, .ref q_11, .ref q_12, .int x_7])), (q_8, .inl (cI, 8, .inl f_2)), (q_9, .inl (cI, 8, .inl f_3)), (q_10, .inl (cI, 8, .inl f_4)), (q_11, .inl (cI, 8, .inl f_5)), (q_12, .inl (cI, 8, .inl f_6)), (q_13, .inr (2, [.ref q_19, .ref q_20, .ref q_21, .ref q_22, .int x_18])), (q_19, .inl (cI, 60, .inl f_14)), (q_20, .inl (cI, 60, .inl f_15)), (q_21, .inl (cI, 60, .inl f_16)), (q_22, .inl (cZ, 60, .inl f_17)), (q_23, .inr (3, [.ref q_30, .ref q_31, .ref q_32, .ref q_33, .int x_28, .int x_29])), (q_30, .inl (cI, 30, .inl f_24)), (q_31, .inl (cI, 30, .inl f_25)), (q_32, .inl (cI, 30, .inl f_26)), (q_33, .inl (cI, 30, .inl f_27))] := hD
  refine lv_aload_n hx hb d_X_init_37 rfl (lv_at hl 0 rfl) ?_
  refine va_new (ci := 4) (fs := [.null]) (C := R_XC) (T := F_XC) (N := 1) hx hb hts i_XC t_XC t_XC_ok hown (hts _ k_39) (hts _ k_40) (hts _ k_41) hK hP hD hS hA rfl (fun j hj => by rcases (show j = 0 by omega) with rfl <;> rfl) (by decide) (by decide) d_X_init_38 (fun q_34 H hP hD hS => ?_)
  have hw := hw q_34
  have hP : va_P (dC, dI) classes [(q_0, .inr (0, [.ref q_1, .ref q_13, .ref q_23, .null, .null, .null])), (q_1, .inr (1, [.ref q_8, .ref q_9, .ref q_10, .ref q_11, .ref q_12, .int x_7])), (q_8, .inl (cI, 8, .inl f_2)), (q_9, .inl (cI, 8, .inl f_3)), (q_10, .inl (cI, 8, .inl f_4)), (q_11, .inl (cI, 8, .inl f_5)), (q_12, .inl (cI, 8, .inl f_6)), (q_13, .inr (2, [.ref q_19, .ref q_20, .ref q_21, .ref q_22, .int x_18])), (q_19, .inl (cI, 60, .inl f_14)), (q_20, .inl (cI, 60, .inl f_15)), (q_21, .inl (cI, 60, .inl f_16)), (q_22, .inl (cZ, 60, .inl f_17)), (q_23, .inr (3, [.ref q_30, .ref q_31, .ref q_32, .ref q_33, .int x_28, .int x_29])), (q_30, .inl (cI, 30, .inl f_24)), (q_31, .inl (cI, 30, .inl f_25)), (q_32, .inl (cI, 30, .inl f_26)), (q_33, .inl (cI, 30, .inl f_27)), (q_34, .inr (4, [.null]))] H := hP
  have hD : va_D A [(q_0, .inr (0, [.ref q_1, .ref q_13, .ref q_23, .null, .null, .null])), (q_1, .inr (1, [.ref q_8, .ref q_9, .ref q_10, .ref q_11, .ref q_12, .int x_7])), (q_8, .inl (cI, 8, .inl f_2)), (q_9, .inl (cI, 8, .inl f_3)), (q_10, .inl (cI, 8, .inl f_4)), (q_11, .inl (cI, 8, .inl f_5)), (q_12, .inl (cI, 8, .inl f_6)), (q_13, .inr (2, [.ref q_19, .ref q_20, .ref q_21, .ref q_22, .int x_18])), (q_19, .inl (cI, 60, .inl f_14)), (q_20, .inl (cI, 60, .inl f_15)), (q_21, .inl (cI, 60, .inl f_16)), (q_22, .inl (cZ, 60, .inl f_17)), (q_23, .inr (3, [.ref q_30, .ref q_31, .ref q_32, .ref q_33, .int x_28, .int x_29])), (q_30, .inl (cI, 30, .inl f_24)), (q_31, .inl (cI, 30, .inl f_25)), (q_32, .inl (cI, 30, .inl f_26)), (q_33, .inl (cI, 30, .inl f_27)), (q_34, .inr (4, [.null]))] := hD
  refine lv_dup hx hb d_X_init_41 rfl ?_
  refine jn_v C0 hP hD hS [17] [0, 1, 2, 3, 4, 5, 6, 7, 8, 9, 10, 11, 12, 13, 14, 15, 16] (ru_IN C0 (As := []) (rest := [.ref q_34, .ref q_0]) (c_XC_init l hl9 dC dI cI cJ cZ q_34 _ hw _) k_45 (zn hZ z_3) k_46 k_41 (n9 := 0) (by decide +kernel) rfl rfl ⟨Nat.le_of_ble_eq_true rfl, Nat.le_of_ble_eq_true rfl⟩ hP hD hS [17] rfl (by decide) hl.1 rfl (Nat.le_of_ble_eq_true rfl) d_X_init_42 ⟨Nat.le_of_ble_eq_true rfl, Nat.le_of_ble_eq_true rfl⟩) rfl rfl (by decide) (by decide) (fun u H locs hw hP hD hS => ?_)
  obtain ⟨q_36, f_35⟩ := u
  try dsimp only at hw
  have hP : va_P (dC, dI) classes [(q_0, .inr (0, [.ref q_1, .ref q_13, .ref q_23, .null, .null, .null])), (q_1, .inr (1, [.ref q_8, .ref q_9, .ref q_10, .ref q_11, .ref q_12, .int x_7])), (q_8, .inl (cI, 8, .inl f_2)), (q_9, .inl (cI, 8, .inl f_3)), (q_10, .inl (cI, 8, .inl f_4)), (q_11, .inl (cI, 8, .inl f_5)), (q_12, .inl (cI, 8, .inl f_6)), (q_13, .inr (2, [.ref q_19, .ref q_20, .ref q_21, .ref q_22, .int x_18])), (q_19, .inl (cI, 60, .inl f_14)), (q_20, .inl (cI, 60, .inl f_15)), (q_21, .inl (cI, 60, .inl f_16)), (q_22, .inl (cZ, 60, .inl f_17)), (q_23, .inr (3, [.ref q_30, .ref q_31, .ref q_32, .ref q_33, .int x_28, .int x_29])), (q_30, .inl (cI, 30, .inl f_24)), (q_31, .inl (cI, 30, .inl f_25)), (q_32, .inl (cI, 30, .inl f_26)), (q_33, .inl (cI, 30, .inl f_27)), (q_34, .inr (4, [.ref q_36])), (q_36, .inl (cJ, 115, .inr (.inl f_35)))] H := hP
  have hD : va_D A [(q_0, .inr (0, [.ref q_1, .ref q_13, .ref q_23, .null, .null, .null])), (q_1, .inr (1, [.ref q_8, .ref q_9, .ref q_10, .ref q_11, .ref q_12, .int x_7])), (q_8, .inl (cI, 8, .inl f_2)), (q_9, .inl (cI, 8, .inl f_3)), (q_10, .inl (cI, 8, .inl f_4)), (q_11, .inl (cI, 8, .inl f_5)), (q_12, .inl (cI, 8, .inl f_6)), (q_13, .inr (2, [.ref q_19, .ref q_20, .ref q_21, .ref q_22, .int x_18])), (q_19, .inl (cI, 60, .inl f_14)), (q_20, .inl (cI, 60, .inl f_15)), (q_21, .inl (cI, 60, .inl f_16)), (q_22, .inl (cZ, 60, .inl f_17)), (q_23, .inr (3, [.ref q_30, .ref q_31, .ref q_32, .ref q_33, .int x_28, .int x_29])), (q_30, .inl (cI, 30, .inl f_24)), (q_31, .inl (cI, 30, .inl f_25)), (q_32, .inl (cI, 30, .inl f_26)), (q_33, .inl (cI, 30, .inl f_27)), (q_34, .inr (4, [.ref q_36])), (q_36, .inl (cJ, 115, .inr (.inl f_35)))] := hD
  refine va_putF (D := (dC, dI)) (ci := 0) (v := .ref q_34) (ty := (.object "SlotTickets$Chances")) (C := R_X) (T := F_X) (N := 6) hx hb hts i_X t_X t_X_ok n_X hown hK hP hD hS 0 rfl rfl 3 (by decide) (hts _ k_47) (fun _ h9 => h9) rfl hnm rfl (by decide +kernel) rfl rfl (Nat.le_of_ble_eq_true rfl) d_X_init_45 (fun H locs hP hD hS => ?_)
  have hP : va_P (dC, dI) classes [(q_0, .inr (0, [.ref q_1, .ref q_13, .ref q_23, .ref q_34, .null, .null])), (q_1, .inr (1, [.ref q_8, .ref q_9, .ref q_10, .ref q_11, .ref q_12, .int x_7])), (q_8, .inl (cI, 8, .inl f_2)), (q_9, .inl (cI, 8, .inl f_3)), (q_10, .inl (cI, 8, .inl f_4)), (q_11, .inl (cI, 8, .inl f_5)), (q_12, .inl (cI, 8, .inl f_6)), (q_13, .inr (2, [.ref q_19, .ref q_20, .ref q_21, .ref q_22, .int x_18])), (q_19, .inl (cI, 60, .inl f_14)), (q_20, .inl (cI, 60, .inl f_15)), (q_21, .inl (cI, 60, .inl f_16)), (q_22, .inl (cZ, 60, .inl f_17)), (q_23, .inr (3, [.ref q_30, .ref q_31, .ref q_32, .ref q_33, .int x_28, .int x_29])), (q_30, .inl (cI, 30, .inl f_24)), (q_31, .inl (cI, 30, .inl f_25)), (q_32, .inl (cI, 30, .inl f_26)), (q_33, .inl (cI, 30, .inl f_27)), (q_34, .inr (4, [.ref q_36])), (q_36, .inl (cJ, 115, .inr (.inl f_35)))] H := hP
  have hD : va_D A [(q_0, .inr (0, [.ref q_1, .ref q_13, .ref q_23, .ref q_34, .null, .null])), (q_1, .inr (1, [.ref q_8, .ref q_9, .ref q_10, .ref q_11, .ref q_12, .int x_7])), (q_8, .inl (cI, 8, .inl f_2)), (q_9, .inl (cI, 8, .inl f_3)), (q_10, .inl (cI, 8, .inl f_4)), (q_11, .inl (cI, 8, .inl f_5)), (q_12, .inl (cI, 8, .inl f_6)), (q_13, .inr (2, [.ref q_19, .ref q_20, .ref q_21, .ref q_22, .int x_18])), (q_19, .inl (cI, 60, .inl f_14)), (q_20, .inl (cI, 60, .inl f_15)), (q_21, .inl (cI, 60, .inl f_16)), (q_22, .inl (cZ, 60, .inl f_17)), (q_23, .inr (3, [.ref q_30, .ref q_31, .ref q_32, .ref q_33, .int x_28, .int x_29])), (q_30, .inl (cI, 30, .inl f_24)), (q_31, .inl (cI, 30, .inl f_25)), (q_32, .inl (cI, 30, .inl f_26)), (q_33, .inl (cI, 30, .inl f_27)), (q_34, .inr (4, [.ref q_36])), (q_36, .inl (cJ, 115, .inr (.inl f_35)))] := hD
  refine lv_aload_n hx hb d_X_init_48 rfl (lv_at hl 0 rfl) ?_
  refine va_new (ci := 5) (fs := [.null, .int (0 : Int32), .null, .null, .int (0 : Int32), .null, .null, .int (0 : Int32), .int (0 : Int32), .int (0 : Int32), .int (0 : Int32), .int (0 : Int32)]) (C := R_XF) (T := F_XF) (N := 12) hx hb hts i_XF t_XF t_XF_ok hown (hts _ k_48) (hts _ k_49) (hts _ k_50) hK hP hD hS hA rfl (fun j hj => by rcases (show j = 0 ∨ j = 1 ∨ j = 2 ∨ j = 3 ∨ j = 4 ∨ j = 5 ∨ j = 6 ∨ j = 7 ∨ j = 8 ∨ j = 9 ∨ j = 10 ∨ j = 11 by omega) with rfl | rfl | rfl | rfl | rfl | rfl | rfl | rfl | rfl | rfl | rfl | rfl <;> rfl) (by decide) (by decide) d_X_init_49 (fun q_37 H hP hD hS => ?_)
  have hw := hw q_37
  have hP : va_P (dC, dI) classes [(q_0, .inr (0, [.ref q_1, .ref q_13, .ref q_23, .ref q_34, .null, .null])), (q_1, .inr (1, [.ref q_8, .ref q_9, .ref q_10, .ref q_11, .ref q_12, .int x_7])), (q_8, .inl (cI, 8, .inl f_2)), (q_9, .inl (cI, 8, .inl f_3)), (q_10, .inl (cI, 8, .inl f_4)), (q_11, .inl (cI, 8, .inl f_5)), (q_12, .inl (cI, 8, .inl f_6)), (q_13, .inr (2, [.ref q_19, .ref q_20, .ref q_21, .ref q_22, .int x_18])), (q_19, .inl (cI, 60, .inl f_14)), (q_20, .inl (cI, 60, .inl f_15)), (q_21, .inl (cI, 60, .inl f_16)), (q_22, .inl (cZ, 60, .inl f_17)), (q_23, .inr (3, [.ref q_30, .ref q_31, .ref q_32, .ref q_33, .int x_28, .int x_29])), (q_30, .inl (cI, 30, .inl f_24)), (q_31, .inl (cI, 30, .inl f_25)), (q_32, .inl (cI, 30, .inl f_26)), (q_33, .inl (cI, 30, .inl f_27)), (q_34, .inr (4, [.ref q_36])), (q_36, .inl (cJ, 115, .inr (.inl f_35))), (q_37, .inr (5, [.null, .int (0 : Int32), .null, .null, .int (0 : Int32), .null, .null, .int (0 : Int32), .int (0 : Int32), .int (0 : Int32), .int (0 : Int32), .int (0 : Int32)]))] H := hP
  have hD : va_D A [(q_0, .inr (0, [.ref q_1, .ref q_13, .ref q_23, .ref q_34, .null, .null])), (q_1, .inr (1, [.ref q_8, .ref q_9, .ref q_10, .ref q_11, .ref q_12, .int x_7])), (q_8, .inl (cI, 8, .inl f_2)), (q_9, .inl (cI, 8, .inl f_3)), (q_10, .inl (cI, 8, .inl f_4)), (q_11, .inl (cI, 8, .inl f_5)), (q_12, .inl (cI, 8, .inl f_6)), (q_13, .inr (2, [.ref q_19, .ref q_20, .ref q_21, .ref q_22, .int x_18])), (q_19, .inl (cI, 60, .inl f_14)), (q_20, .inl (cI, 60, .inl f_15)), (q_21, .inl (cI, 60, .inl f_16)), (q_22, .inl (cZ, 60, .inl f_17)), (q_23, .inr (3, [.ref q_30, .ref q_31, .ref q_32, .ref q_33, .int x_28, .int x_29])), (q_30, .inl (cI, 30, .inl f_24)), (q_31, .inl (cI, 30, .inl f_25)), (q_32, .inl (cI, 30, .inl f_26)), (q_33, .inl (cI, 30, .inl f_27)), (q_34, .inr (4, [.ref q_36])), (q_36, .inl (cJ, 115, .inr (.inl f_35))), (q_37, .inr (5, [.null, .int (0 : Int32), .null, .null, .int (0 : Int32), .null, .null, .int (0 : Int32), .int (0 : Int32), .int (0 : Int32), .int (0 : Int32), .int (0 : Int32)]))] := hD
  refine lv_dup hx hb d_X_init_52 rfl ?_
  refine jn_v C0 hP hD hS [19] [0, 1, 2, 3, 4, 5, 6, 7, 8, 9, 10, 11, 12, 13, 14, 15, 16, 17, 18] (ru_IN C0 (As := []) (rest := [.ref q_37, .ref q_0]) (c_XF_init l hl9 dC dI cI cJ cZ q_37 _ hw _) k_57 (zn hZ z_4) k_58 k_50 (n9 := 0) (by decide +kernel) rfl rfl ⟨Nat.le_of_ble_eq_true rfl, Nat.le_of_ble_eq_true rfl⟩ hP hD hS [19] rfl (by decide) hl.1 rfl (Nat.le_of_ble_eq_true rfl) d_X_init_53 ⟨Nat.le_of_ble_eq_true rfl, Nat.le_of_ble_eq_true rfl⟩) rfl rfl (by decide) (by decide) (fun u H locs hw hP hD hS => ?_)
  obtain ⟨q_50, q_51, q_52, q_53, q_54, f_38, x_39, f_40, f_41, x_42, f_43, f_44, x_45, x_46, x_47, x_48, x_49⟩ := u
  try dsimp only at hw
  have hP : va_P (dC, dI) classes [(q_0, .inr (0, [.ref q_1, .ref q_13, .ref q_23, .ref q_34, .null, .null])), (q_1, .inr (1, [.ref q_8, .ref q_9, .ref q_10, .ref q_11, .ref q_12, .int x_7])), (q_8, .inl (cI, 8, .inl f_2)), (q_9, .inl (cI, 8, .inl f_3)), (q_10, .inl (cI, 8, .inl f_4)), (q_11, .inl (cI, 8, .inl f_5)), (q_12, .inl (cI, 8, .inl f_6)), (q_13, .inr (2, [.ref q_19, .ref q_20, .ref q_21, .ref q_22, .int x_18])), (q_19, .inl (cI, 60, .inl f_14)), (q_20, .inl (cI, 60, .inl f_15)), (q_21, .inl (cI, 60, .inl f_16)), (q_22, .inl (cZ, 60, .inl f_17)), (q_23, .inr (3, [.ref q_30, .ref q_31, .ref q_32, .ref q_33, .int x_28, .int x_29])), (q_30, .inl (cI, 30, .inl f_24)), (q_31, .inl (cI, 30, .inl f_25)), (q_32, .inl (cI, 30, .inl f_26)), (q_33, .inl (cI, 30, .inl f_27)), (q_34, .inr (4, [.ref q_36])), (q_36, .inl (cJ, 115, .inr (.inl f_35))), (q_37, .inr (5, [.ref q_50, .int x_39, .ref q_51, .ref q_52, .int x_42, .ref q_53, .ref q_54, .int x_45, .int x_46, .int x_47, .int x_48, .int x_49])), (q_50, .inl (cI, 60, .inl f_38)), (q_51, .inl (cI, 5, .inl f_40)), (q_52, .inl (cI, 10, .inl f_41)), (q_53, .inl (cI, 5, .inl f_43)), (q_54, .inl (cI, 10, .inl f_44))] H := hP
  have hD : va_D A [(q_0, .inr (0, [.ref q_1, .ref q_13, .ref q_23, .ref q_34, .null, .null])), (q_1, .inr (1, [.ref q_8, .ref q_9, .ref q_10, .ref q_11, .ref q_12, .int x_7])), (q_8, .inl (cI, 8, .inl f_2)), (q_9, .inl (cI, 8, .inl f_3)), (q_10, .inl (cI, 8, .inl f_4)), (q_11, .inl (cI, 8, .inl f_5)), (q_12, .inl (cI, 8, .inl f_6)), (q_13, .inr (2, [.ref q_19, .ref q_20, .ref q_21, .ref q_22, .int x_18])), (q_19, .inl (cI, 60, .inl f_14)), (q_20, .inl (cI, 60, .inl f_15)), (q_21, .inl (cI, 60, .inl f_16)), (q_22, .inl (cZ, 60, .inl f_17)), (q_23, .inr (3, [.ref q_30, .ref q_31, .ref q_32, .ref q_33, .int x_28, .int x_29])), (q_30, .inl (cI, 30, .inl f_24)), (q_31, .inl (cI, 30, .inl f_25)), (q_32, .inl (cI, 30, .inl f_26)), (q_33, .inl (cI, 30, .inl f_27)), (q_34, .inr (4, [.ref q_36])), (q_36, .inl (cJ, 115, .inr (.inl f_35))), (q_37, .inr (5, [.ref q_50, .int x_39, .ref q_51, .ref q_52, .int x_42, .ref q_53, .ref q_54, .int x_45, .int x_46, .int x_47, .int x_48, .int x_49])), (q_50, .inl (cI, 60, .inl f_38)), (q_51, .inl (cI, 5, .inl f_40)), (q_52, .inl (cI, 10, .inl f_41)), (q_53, .inl (cI, 5, .inl f_43)), (q_54, .inl (cI, 10, .inl f_44))] := hD
  refine va_putF (D := (dC, dI)) (ci := 0) (v := .ref q_37) (ty := (.object "SlotTickets$Tariff")) (C := R_X) (T := F_X) (N := 6) hx hb hts i_X t_X t_X_ok n_X hown hK hP hD hS 0 rfl rfl 4 (by decide) (hts _ k_59) (fun _ h9 => h9) rfl hnm rfl (by decide +kernel) rfl rfl (Nat.le_of_ble_eq_true rfl) d_X_init_56 (fun H locs hP hD hS => ?_)
  have hP : va_P (dC, dI) classes [(q_0, .inr (0, [.ref q_1, .ref q_13, .ref q_23, .ref q_34, .ref q_37, .null])), (q_1, .inr (1, [.ref q_8, .ref q_9, .ref q_10, .ref q_11, .ref q_12, .int x_7])), (q_8, .inl (cI, 8, .inl f_2)), (q_9, .inl (cI, 8, .inl f_3)), (q_10, .inl (cI, 8, .inl f_4)), (q_11, .inl (cI, 8, .inl f_5)), (q_12, .inl (cI, 8, .inl f_6)), (q_13, .inr (2, [.ref q_19, .ref q_20, .ref q_21, .ref q_22, .int x_18])), (q_19, .inl (cI, 60, .inl f_14)), (q_20, .inl (cI, 60, .inl f_15)), (q_21, .inl (cI, 60, .inl f_16)), (q_22, .inl (cZ, 60, .inl f_17)), (q_23, .inr (3, [.ref q_30, .ref q_31, .ref q_32, .ref q_33, .int x_28, .int x_29])), (q_30, .inl (cI, 30, .inl f_24)), (q_31, .inl (cI, 30, .inl f_25)), (q_32, .inl (cI, 30, .inl f_26)), (q_33, .inl (cI, 30, .inl f_27)), (q_34, .inr (4, [.ref q_36])), (q_36, .inl (cJ, 115, .inr (.inl f_35))), (q_37, .inr (5, [.ref q_50, .int x_39, .ref q_51, .ref q_52, .int x_42, .ref q_53, .ref q_54, .int x_45, .int x_46, .int x_47, .int x_48, .int x_49])), (q_50, .inl (cI, 60, .inl f_38)), (q_51, .inl (cI, 5, .inl f_40)), (q_52, .inl (cI, 10, .inl f_41)), (q_53, .inl (cI, 5, .inl f_43)), (q_54, .inl (cI, 10, .inl f_44))] H := hP
  have hD : va_D A [(q_0, .inr (0, [.ref q_1, .ref q_13, .ref q_23, .ref q_34, .ref q_37, .null])), (q_1, .inr (1, [.ref q_8, .ref q_9, .ref q_10, .ref q_11, .ref q_12, .int x_7])), (q_8, .inl (cI, 8, .inl f_2)), (q_9, .inl (cI, 8, .inl f_3)), (q_10, .inl (cI, 8, .inl f_4)), (q_11, .inl (cI, 8, .inl f_5)), (q_12, .inl (cI, 8, .inl f_6)), (q_13, .inr (2, [.ref q_19, .ref q_20, .ref q_21, .ref q_22, .int x_18])), (q_19, .inl (cI, 60, .inl f_14)), (q_20, .inl (cI, 60, .inl f_15)), (q_21, .inl (cI, 60, .inl f_16)), (q_22, .inl (cZ, 60, .inl f_17)), (q_23, .inr (3, [.ref q_30, .ref q_31, .ref q_32, .ref q_33, .int x_28, .int x_29])), (q_30, .inl (cI, 30, .inl f_24)), (q_31, .inl (cI, 30, .inl f_25)), (q_32, .inl (cI, 30, .inl f_26)), (q_33, .inl (cI, 30, .inl f_27)), (q_34, .inr (4, [.ref q_36])), (q_36, .inl (cJ, 115, .inr (.inl f_35))), (q_37, .inr (5, [.ref q_50, .int x_39, .ref q_51, .ref q_52, .int x_42, .ref q_53, .ref q_54, .int x_45, .int x_46, .int x_47, .int x_48, .int x_49])), (q_50, .inl (cI, 60, .inl f_38)), (q_51, .inl (cI, 5, .inl f_40)), (q_52, .inl (cI, 10, .inl f_41)), (q_53, .inl (cI, 5, .inl f_43)), (q_54, .inl (cI, 10, .inl f_44))] := hD
  refine lv_aload_n hx hb d_X_init_59 rfl (lv_at hl 0 rfl) ?_
  refine va_new (ci := 6) (fs := [.null, .null, .null, .null, .int (0 : Int32), .null]) (C := R_XD) (T := F_XD) (N := 6) hx hb hts i_XD t_XD t_XD_ok hown (hts _ k_60) (hts _ k_61) (hts _ k_62) hK hP hD hS hA rfl (fun j hj => by rcases (show j = 0 ∨ j = 1 ∨ j = 2 ∨ j = 3 ∨ j = 4 ∨ j = 5 by omega) with rfl | rfl | rfl | rfl | rfl | rfl <;> rfl) (by decide) (by decide) d_X_init_60 (fun q_55 H hP hD hS => ?_)
  have hw := hw q_55
  have hP : va_P (dC, dI) classes [(q_0, .inr (0, [.ref q_1, .ref q_13, .ref q_23, .ref q_34, .ref q_37, .null])), (q_1, .inr (1, [.ref q_8, .ref q_9, .ref q_10, .ref q_11, .ref q_12, .int x_7])), (q_8, .inl (cI, 8, .inl f_2)), (q_9, .inl (cI, 8, .inl f_3)), (q_10, .inl (cI, 8, .inl f_4)), (q_11, .inl (cI, 8, .inl f_5)), (q_12, .inl (cI, 8, .inl f_6)), (q_13, .inr (2, [.ref q_19, .ref q_20, .ref q_21, .ref q_22, .int x_18])), (q_19, .inl (cI, 60, .inl f_14)), (q_20, .inl (cI, 60, .inl f_15)), (q_21, .inl (cI, 60, .inl f_16)), (q_22, .inl (cZ, 60, .inl f_17)), (q_23, .inr (3, [.ref q_30, .ref q_31, .ref q_32, .ref q_33, .int x_28, .int x_29])), (q_30, .inl (cI, 30, .inl f_24)), (q_31, .inl (cI, 30, .inl f_25)), (q_32, .inl (cI, 30, .inl f_26)), (q_33, .inl (cI, 30, .inl f_27)), (q_34, .inr (4, [.ref q_36])), (q_36, .inl (cJ, 115, .inr (.inl f_35))), (q_37, .inr (5, [.ref q_50, .int x_39, .ref q_51, .ref q_52, .int x_42, .ref q_53, .ref q_54, .int x_45, .int x_46, .int x_47, .int x_48, .int x_49])), (q_50, .inl (cI, 60, .inl f_38)), (q_51, .inl (cI, 5, .inl f_40)), (q_52, .inl (cI, 10, .inl f_41)), (q_53, .inl (cI, 5, .inl f_43)), (q_54, .inl (cI, 10, .inl f_44)), (q_55, .inr (6, [.null, .null, .null, .null, .int (0 : Int32), .null]))] H := hP
  have hD : va_D A [(q_0, .inr (0, [.ref q_1, .ref q_13, .ref q_23, .ref q_34, .ref q_37, .null])), (q_1, .inr (1, [.ref q_8, .ref q_9, .ref q_10, .ref q_11, .ref q_12, .int x_7])), (q_8, .inl (cI, 8, .inl f_2)), (q_9, .inl (cI, 8, .inl f_3)), (q_10, .inl (cI, 8, .inl f_4)), (q_11, .inl (cI, 8, .inl f_5)), (q_12, .inl (cI, 8, .inl f_6)), (q_13, .inr (2, [.ref q_19, .ref q_20, .ref q_21, .ref q_22, .int x_18])), (q_19, .inl (cI, 60, .inl f_14)), (q_20, .inl (cI, 60, .inl f_15)), (q_21, .inl (cI, 60, .inl f_16)), (q_22, .inl (cZ, 60, .inl f_17)), (q_23, .inr (3, [.ref q_30, .ref q_31, .ref q_32, .ref q_33, .int x_28, .int x_29])), (q_30, .inl (cI, 30, .inl f_24)), (q_31, .inl (cI, 30, .inl f_25)), (q_32, .inl (cI, 30, .inl f_26)), (q_33, .inl (cI, 30, .inl f_27)), (q_34, .inr (4, [.ref q_36])), (q_36, .inl (cJ, 115, .inr (.inl f_35))), (q_37, .inr (5, [.ref q_50, .int x_39, .ref q_51, .ref q_52, .int x_42, .ref q_53, .ref q_54, .int x_45, .int x_46, .int x_47, .int x_48, .int x_49])), (q_50, .inl (cI, 60, .inl f_38)), (q_51, .inl (cI, 5, .inl f_40)), (q_52, .inl (cI, 10, .inl f_41)), (q_53, .inl (cI, 5, .inl f_43)), (q_54, .inl (cI, 10, .inl f_44)), (q_55, .inr (6, [.null, .null, .null, .null, .int (0 : Int32), .null]))] := hD
  refine lv_dup hx hb d_X_init_63 rfl ?_
  refine jn_v C0 hP hD hS [25] [0, 1, 2, 3, 4, 5, 6, 7, 8, 9, 10, 11, 12, 13, 14, 15, 16, 17, 18, 19, 20, 21, 22, 23, 24] (ru_I C0 (As := []) (rest := [.ref q_55, .ref q_0]) (c_XD_init l hl9 dC dI cI cJ cZ q_55 _ hw _) k_73 k_74 k_75 k_62 (n9 := 0) (by decide +kernel) rfl rfl ⟨Nat.le_of_ble_eq_true rfl, Nat.le_of_ble_eq_true rfl⟩ hP hD hS [25] rfl (by decide) hl.1 rfl (Nat.le_of_ble_eq_true rfl) d_X_init_64 ⟨Nat.le_of_ble_eq_true rfl, Nat.le_of_ble_eq_true rfl⟩) rfl rfl (by decide) (by decide) (fun u H locs hw hP hD hS => ?_)
  obtain ⟨q_62, q_63, q_64, q_65, q_66, f_56, f_57, f_58, f_59, x_60, f_61⟩ := u
  try dsimp only at hw
  have hP : va_P (dC, dI) classes [(q_0, .inr (0, [.ref q_1, .ref q_13, .ref q_23, .ref q_34, .ref q_37, .null])), (q_1, .inr (1, [.ref q_8, .ref q_9, .ref q_10, .ref q_11, .ref q_12, .int x_7])), (q_8, .inl (cI, 8, .inl f_2)), (q_9, .inl (cI, 8, .inl f_3)), (q_10, .inl (cI, 8, .inl f_4)), (q_11, .inl (cI, 8, .inl f_5)), (q_12, .inl (cI, 8, .inl f_6)), (q_13, .inr (2, [.ref q_19, .ref q_20, .ref q_21, .ref q_22, .int x_18])), (q_19, .inl (cI, 60, .inl f_14)), (q_20, .inl (cI, 60, .inl f_15)), (q_21, .inl (cI, 60, .inl f_16)), (q_22, .inl (cZ, 60, .inl f_17)), (q_23, .inr (3, [.ref q_30, .ref q_31, .ref q_32, .ref q_33, .int x_28, .int x_29])), (q_30, .inl (cI, 30, .inl f_24)), (q_31, .inl (cI, 30, .inl f_25)), (q_32, .inl (cI, 30, .inl f_26)), (q_33, .inl (cI, 30, .inl f_27)), (q_34, .inr (4, [.ref q_36])), (q_36, .inl (cJ, 115, .inr (.inl f_35))), (q_37, .inr (5, [.ref q_50, .int x_39, .ref q_51, .ref q_52, .int x_42, .ref q_53, .ref q_54, .int x_45, .int x_46, .int x_47, .int x_48, .int x_49])), (q_50, .inl (cI, 60, .inl f_38)), (q_51, .inl (cI, 5, .inl f_40)), (q_52, .inl (cI, 10, .inl f_41)), (q_53, .inl (cI, 5, .inl f_43)), (q_54, .inl (cI, 10, .inl f_44)), (q_55, .inr (6, [.ref q_62, .ref q_63, .ref q_64, .ref q_65, .int x_60, .ref q_66])), (q_62, .inl (cI, 360, .inl f_56)), (q_63, .inl (cI, 6, .inl f_57)), (q_64, .inl (cI, 60, .inl f_58)), (q_65, .inl (cI, 300, .inl f_59)), (q_66, .inl (cI, 60, .inl f_61))] H := hP
  have hD : va_D A [(q_0, .inr (0, [.ref q_1, .ref q_13, .ref q_23, .ref q_34, .ref q_37, .null])), (q_1, .inr (1, [.ref q_8, .ref q_9, .ref q_10, .ref q_11, .ref q_12, .int x_7])), (q_8, .inl (cI, 8, .inl f_2)), (q_9, .inl (cI, 8, .inl f_3)), (q_10, .inl (cI, 8, .inl f_4)), (q_11, .inl (cI, 8, .inl f_5)), (q_12, .inl (cI, 8, .inl f_6)), (q_13, .inr (2, [.ref q_19, .ref q_20, .ref q_21, .ref q_22, .int x_18])), (q_19, .inl (cI, 60, .inl f_14)), (q_20, .inl (cI, 60, .inl f_15)), (q_21, .inl (cI, 60, .inl f_16)), (q_22, .inl (cZ, 60, .inl f_17)), (q_23, .inr (3, [.ref q_30, .ref q_31, .ref q_32, .ref q_33, .int x_28, .int x_29])), (q_30, .inl (cI, 30, .inl f_24)), (q_31, .inl (cI, 30, .inl f_25)), (q_32, .inl (cI, 30, .inl f_26)), (q_33, .inl (cI, 30, .inl f_27)), (q_34, .inr (4, [.ref q_36])), (q_36, .inl (cJ, 115, .inr (.inl f_35))), (q_37, .inr (5, [.ref q_50, .int x_39, .ref q_51, .ref q_52, .int x_42, .ref q_53, .ref q_54, .int x_45, .int x_46, .int x_47, .int x_48, .int x_49])), (q_50, .inl (cI, 60, .inl f_38)), (q_51, .inl (cI, 5, .inl f_40)), (q_52, .inl (cI, 10, .inl f_41)), (q_53, .inl (cI, 5, .inl f_43)), (q_54, .inl (cI, 10, .inl f_44)), (q_55, .inr (6, [.ref q_62, .ref q_63, .ref q_64, .ref q_65, .int x_60, .ref q_66])), (q_62, .inl (cI, 360, .inl f_56)), (q_63, .inl (cI, 6, .inl f_57)), (q_64, .inl (cI, 60, .inl f_58)), (q_65, .inl (cI, 300, .inl f_59)), (q_66, .inl (cI, 60, .inl f_61))] := hD
  refine va_putF (D := (dC, dI)) (ci := 0) (v := .ref q_55) (ty := (.object "SlotTickets$Doors")) (C := R_X) (T := F_X) (N := 6) hx hb hts i_X t_X t_X_ok n_X hown hK hP hD hS 0 rfl rfl 5 (by decide) (hts _ k_76) (fun _ h9 => h9) rfl hnm rfl (by decide +kernel) rfl rfl (Nat.le_of_ble_eq_true rfl) d_X_init_67 (fun H locs hP hD hS => ?_)
  have hP : va_P (dC, dI) classes [(q_0, .inr (0, [.ref q_1, .ref q_13, .ref q_23, .ref q_34, .ref q_37, .ref q_55])), (q_1, .inr (1, [.ref q_8, .ref q_9, .ref q_10, .ref q_11, .ref q_12, .int x_7])), (q_8, .inl (cI, 8, .inl f_2)), (q_9, .inl (cI, 8, .inl f_3)), (q_10, .inl (cI, 8, .inl f_4)), (q_11, .inl (cI, 8, .inl f_5)), (q_12, .inl (cI, 8, .inl f_6)), (q_13, .inr (2, [.ref q_19, .ref q_20, .ref q_21, .ref q_22, .int x_18])), (q_19, .inl (cI, 60, .inl f_14)), (q_20, .inl (cI, 60, .inl f_15)), (q_21, .inl (cI, 60, .inl f_16)), (q_22, .inl (cZ, 60, .inl f_17)), (q_23, .inr (3, [.ref q_30, .ref q_31, .ref q_32, .ref q_33, .int x_28, .int x_29])), (q_30, .inl (cI, 30, .inl f_24)), (q_31, .inl (cI, 30, .inl f_25)), (q_32, .inl (cI, 30, .inl f_26)), (q_33, .inl (cI, 30, .inl f_27)), (q_34, .inr (4, [.ref q_36])), (q_36, .inl (cJ, 115, .inr (.inl f_35))), (q_37, .inr (5, [.ref q_50, .int x_39, .ref q_51, .ref q_52, .int x_42, .ref q_53, .ref q_54, .int x_45, .int x_46, .int x_47, .int x_48, .int x_49])), (q_50, .inl (cI, 60, .inl f_38)), (q_51, .inl (cI, 5, .inl f_40)), (q_52, .inl (cI, 10, .inl f_41)), (q_53, .inl (cI, 5, .inl f_43)), (q_54, .inl (cI, 10, .inl f_44)), (q_55, .inr (6, [.ref q_62, .ref q_63, .ref q_64, .ref q_65, .int x_60, .ref q_66])), (q_62, .inl (cI, 360, .inl f_56)), (q_63, .inl (cI, 6, .inl f_57)), (q_64, .inl (cI, 60, .inl f_58)), (q_65, .inl (cI, 300, .inl f_59)), (q_66, .inl (cI, 60, .inl f_61))] H := hP
  have hD : va_D A [(q_0, .inr (0, [.ref q_1, .ref q_13, .ref q_23, .ref q_34, .ref q_37, .ref q_55])), (q_1, .inr (1, [.ref q_8, .ref q_9, .ref q_10, .ref q_11, .ref q_12, .int x_7])), (q_8, .inl (cI, 8, .inl f_2)), (q_9, .inl (cI, 8, .inl f_3)), (q_10, .inl (cI, 8, .inl f_4)), (q_11, .inl (cI, 8, .inl f_5)), (q_12, .inl (cI, 8, .inl f_6)), (q_13, .inr (2, [.ref q_19, .ref q_20, .ref q_21, .ref q_22, .int x_18])), (q_19, .inl (cI, 60, .inl f_14)), (q_20, .inl (cI, 60, .inl f_15)), (q_21, .inl (cI, 60, .inl f_16)), (q_22, .inl (cZ, 60, .inl f_17)), (q_23, .inr (3, [.ref q_30, .ref q_31, .ref q_32, .ref q_33, .int x_28, .int x_29])), (q_30, .inl (cI, 30, .inl f_24)), (q_31, .inl (cI, 30, .inl f_25)), (q_32, .inl (cI, 30, .inl f_26)), (q_33, .inl (cI, 30, .inl f_27)), (q_34, .inr (4, [.ref q_36])), (q_36, .inl (cJ, 115, .inr (.inl f_35))), (q_37, .inr (5, [.ref q_50, .int x_39, .ref q_51, .ref q_52, .int x_42, .ref q_53, .ref q_54, .int x_45, .int x_46, .int x_47, .int x_48, .int x_49])), (q_50, .inl (cI, 60, .inl f_38)), (q_51, .inl (cI, 5, .inl f_40)), (q_52, .inl (cI, 10, .inl f_41)), (q_53, .inl (cI, 5, .inl f_43)), (q_54, .inl (cI, 10, .inl f_44)), (q_55, .inr (6, [.ref q_62, .ref q_63, .ref q_64, .ref q_65, .int x_60, .ref q_66])), (q_62, .inl (cI, 360, .inl f_56)), (q_63, .inl (cI, 6, .inl f_57)), (q_64, .inl (cI, 60, .inl f_58)), (q_65, .inl (cI, 300, .inl f_59)), (q_66, .inl (cI, 60, .inl f_61))] := hD
  exact rt_v (u := (q_1, q_8, q_9, q_10, q_11, q_12, q_13, q_19, q_20, q_21, q_22, q_23, q_30, q_31, q_32, q_33, q_34, q_36, q_37, q_50, q_51, q_52, q_53, q_54, q_55, q_62, q_63, q_64, q_65, q_66, f_2, f_3, f_4, f_5, f_6, x_7, f_14, f_15, f_16, f_17, x_18, f_24, f_25, f_26, f_27, x_28, x_29, f_35, f_38, x_39, f_40, f_41, x_42, f_43, f_44, x_45, x_46, x_47, x_48, x_49, f_56, f_57, f_58, f_59, x_60, f_61)) C0 hw hP hD hS (by decide) (by decide) d_X_init_70
theorem d_X_slot_0 : decode b_X_slot 0 = .ok (.aload_n 0, 1) := by decide +kernel
theorem d_X_slot_1 : decode b_X_slot 1 = .ok (.getfield 10, 3) := by decide +kernel
theorem d_X_slot_4 : decode b_X_slot 4 = .ok (.getfield 51, 3) := by decide +kernel
theorem d_X_slot_7 : decode b_X_slot 7 = .ok (.bipush 8, 2) := by decide +kernel
theorem d_X_slot_9 : decode b_X_slot 9 = .ok (.if_icmp .lt 13, 3) := by decide +kernel
theorem d_X_slot_12 : decode b_X_slot 12 = .ok (.new 55, 3) := by decide +kernel
theorem d_X_slot_15 : decode b_X_slot 15 = .ok (.dup, 1) := by decide +kernel
theorem d_X_slot_16 : decode b_X_slot 16 = .ok (.ldc 57, 2) := by decide +kernel
theorem d_X_slot_18 : decode b_X_slot 18 = .ok (.invokespecial 59, 3) := by decide +kernel
theorem d_X_slot_21 : decode b_X_slot 21 = .ok (.athrow, 1) := by decide +kernel
theorem d_X_slot_22 : decode b_X_slot 22 = .ok (.iload_n 1, 1) := by decide +kernel
theorem d_X_slot_23 : decode b_X_slot 23 = .ok (.iconst 1, 1) := by decide +kernel
theorem d_X_slot_24 : decode b_X_slot 24 = .ok (.if_icmp .lt 9, 3) := by decide +kernel
theorem d_X_slot_27 : decode b_X_slot 27 = .ok (.iload_n 1, 1) := by decide +kernel
theorem d_X_slot_28 : decode b_X_slot 28 = .ok (.bipush 20, 2) := by decide +kernel
theorem d_X_slot_30 : decode b_X_slot 30 = .ok (.if_icmp .le 13, 3) := by decide +kernel
theorem d_X_slot_33 : decode b_X_slot 33 = .ok (.new 62, 3) := by decide +kernel
theorem d_X_slot_36 : decode b_X_slot 36 = .ok (.dup, 1) := by decide +kernel
theorem d_X_slot_37 : decode b_X_slot 37 = .ok (.ldc 64, 2) := by decide +kernel
theorem d_X_slot_39 : decode b_X_slot 39 = .ok (.invokespecial 66, 3) := by decide +kernel
theorem d_X_slot_42 : decode b_X_slot 42 = .ok (.athrow, 1) := by decide +kernel
theorem d_X_slot_43 : decode b_X_slot 43 = .ok (.aload_n 0, 1) := by decide +kernel
theorem d_X_slot_44 : decode b_X_slot 44 = .ok (.getfield 10, 3) := by decide +kernel
theorem d_X_slot_47 : decode b_X_slot 47 = .ok (.iload_n 1, 1) := by decide +kernel
theorem d_X_slot_48 : decode b_X_slot 48 = .ok (.invokevirtual 67, 3) := by decide +kernel
theorem d_X_slot_51 : decode b_X_slot 51 = .ok (.ireturn, 1) := by decide +kernel
def wp_X_slot (post : Int32 → ((Nat → Int32) × (Nat → Int32) × (Nat → Int32) × (Nat → Int32) × (Int32)) → Prop) (px : String → Prop) (a_1 : Int32) (v_slots_places : Nat → Int32) (v_slots_above : Nat → Int32) (v_slots_below : Nat → Int32) (v_slots_most : Nat → Int32) (v_slots_made : Int32) : Prop := ((v_slots_made < (8 : Int32) → ((a_1 < (1 : Int32) → px "java/lang/IllegalArgumentException") ∧ (¬ (a_1 < (1 : Int32)) → ((a_1 ≤ (20 : Int32) → wp_XS_open (fun r_4 u => match u with | (f_5, f_6, f_7, f_8, x_9) => post r_4 (f_5, f_6, f_7, f_8, x_9)) a_1 v_slots_places v_slots_above v_slots_below v_slots_most v_slots_made) ∧ (¬ (a_1 ≤ (20 : Int32)) → px "java/lang/IllegalArgumentException"))))) ∧ (¬ (v_slots_made < (8 : Int32)) → px "java/lang/IllegalStateException"))
set_option maxHeartbeats 4000000 in
set_option maxRecDepth 100000 in
theorem c_X_slot (l : Launch) (hl9 : l.stackTraces = false) (dC : Nat → ClassId) (dI : Nat → Nat → Nat) (cI cJ cZ : ClassId) (q_0 q_slots q_slots_places q_slots_above q_slots_below q_slots_most q_tickets q_requests q_chances q_tariff q_doors q_slots_sold : Nat) (a_1 : Int32) (v_slots_places : Nat → Int32) (v_slots_above : Nat → Int32) (v_slots_below : Nat → Int32) (v_slots_most : Nat → Int32) (v_slots_made : Int32) (post : Int32 → ((Nat → Int32) × (Nat → Int32) × (Nat → Int32) × (Nat → Int32) × (Int32)) → Prop) (px : String → Prop) (hw : wp_X_slot post px a_1 v_slots_places v_slots_above v_slots_below v_slots_most v_slots_made) : Kix l y_X_slot b_X_slot 2 (some .int) ({ frames := 6, cells := 1, slots := 6, locals := 82 } : Room) dC dI cI cJ cZ [.ref q_0, .int a_1] [(q_0, .inr (0, [.ref q_slots, .ref q_tickets, .ref q_requests, .ref q_chances, .ref q_tariff, .ref q_doors])), (q_slots, .inr (1, [.ref q_slots_places, .ref q_slots_above, .ref q_slots_below, .ref q_slots_most, .ref q_slots_sold, .int v_slots_made])), (q_slots_places, .inl (cI, 8, .inl v_slots_places)), (q_slots_above, .inl (cI, 8, .inl v_slots_above)), (q_slots_below, .inl (cI, 8, .inl v_slots_below)), (q_slots_most, .inl (cI, 8, .inl v_slots_most))] false px post (fun u : (Nat → Int32) × (Nat → Int32) × (Nat → Int32) × (Nat → Int32) × (Int32) => [(q_0, .inr (0, [.ref q_slots, .ref q_tickets, .ref q_requests, .ref q_chances, .ref q_tariff, .ref q_doors])), (q_slots, .inr (1, [.ref q_slots_places, .ref q_slots_above, .ref q_slots_below, .ref q_slots_most, .ref q_slots_sold, .int u.2.2.2.2])), (q_slots_places, .inl (cI, 8, .inl u.1)), (q_slots_above, .inl (cI, 8, .inl u.2.1)), (q_slots_below, .inl (cI, 8, .inl u.2.2.1)), (q_slots_most, .inl (cI, 8, .inl u.2.2.2.1))]) := by
  refine mkix hl9 (own := R_X) rfl (by decide) ?_
  intro p e s m args below meth c A fr C0 hEx hfr hAe hnm eav hP hD
  obtain rfl : A = fr := (hfr.trans hAe.symm).symm
  have hN : ∀ q ∈ ([] : List Loc), s.heap.size ≤ q.base := fun q h => by cases h
  have hP0 := hP
  have hD0 := hD
  obtain ⟨-, hx, hb, hml, hr, hown, hts, hlocks, hK, hZ, hA, hNS⟩ := id C0
  subst eav
  have hS : va_S A s.heap s.heap [] := va_S.rf
  have hl := lv_entry ([.ref q_0, .int a_1]) (n := 2) (Nat.le_of_ble_eq_true rfl)
  rw [lg_entry_eq]
  generalize (lg_sl ([.ref q_0, .int a_1]) ++ List.replicate (2 - (lg_sl ([.ref q_0, .int a_1])).length) Slot.unset).toArray = ls at hl ⊢
  have hl : lv_has ls 2 [(0, .ref q_0), (1, .int a_1)] := hl
  unfold wp_X_slot at hw
  refine lv_aload_n hx hb d_X_slot_0 rfl (lv_at hl 0 rfl) ?_
  refine va_get (D := (dC, dI)) (ci := 0) (v := .ref q_slots) (C := R_X) (T := F_X) (N := 6) hx hb hts i_X hown hK hP 0 rfl rfl 0 (by decide) (hts _ k_15) (fun _ h9 => h9) rfl d_X_slot_1 ?_
  refine va_getN (D := (dC, dI)) (ci := 1) (v := .int v_slots_made) (C := R_XS) (T := F_XS) (N := 6) hx hb hts i_XS hown hK hP 1 rfl rfl 5 (by decide) (va_Nw.use rfl (zn hZ z_5)) (fun _ h9 => h9) rfl d_X_slot_4 ?_
  refine lv_bipush (v := (8 : Int32)) hx hb d_X_slot_7 (by decide) ?_
  refine lv_icmp_lt (tgt := 22) hx hb d_X_slot_9 (by decide) (fun c_1 => ?_) (fun c_1 => ?_)
  · have hw := hw.1 c_1
    refine lv_iload_n hx hb d_X_slot_22 rfl (lv_at hl 1 rfl) ?_
    refine lv_iconst (v := (1 : Int32)) hx hb d_X_slot_23 (by decide) ?_
    refine lv_icmp_lt (tgt := 33) hx hb d_X_slot_24 (by decide) (fun c_2 => ?_) (fun c_2 => ?_)
    · have hw := hw.1 c_2
      exact thS_i C0 hEx ta_0 sb_0 hw hP0 hD0 hN hS.2.2 hl.1 (by decide) (by decide) (by decide) (by decide) d_X_slot_33 d_X_slot_36 d_X_slot_37 d_X_slot_39 d_X_slot_42
    · have hw := hw.2 c_2
      refine lv_iload_n hx hb d_X_slot_27 rfl (lv_at hl 1 rfl) ?_
      refine lv_bipush (v := (20 : Int32)) hx hb d_X_slot_28 (by decide) ?_
      refine lv_icmp_le (tgt := 43) hx hb d_X_slot_30 (by decide) (fun c_3 => ?_) (fun c_3 => ?_)
      · have hw := hw.1 c_3
        refine lv_aload_n hx hb d_X_slot_43 rfl (lv_at hl 0 rfl) ?_
        refine va_get (D := (dC, dI)) (ci := 0) (v := .ref q_slots) (C := R_X) (T := F_X) (N := 6) hx hb hts i_X hown hK hP 0 rfl rfl 0 (by decide) (hts _ k_15) (fun _ h9 => h9) rfl d_X_slot_44 ?_
        refine lv_iload_n hx hb d_X_slot_47 rfl (lv_at hl 1 rfl) ?_
        refine jn_i C0 hP hD hS [1, 2, 3, 4, 5] [0] (ru_V C0 (As := [.int a_1]) (rest := []) (c_XS_open l hl9 dC dI cI cJ cZ q_slots q_slots_places q_slots_above q_slots_below q_slots_most q_slots_sold a_1 v_slots_places v_slots_above v_slots_below v_slots_most v_slots_made _ hw _) k_78 k_79 k_80 k_81 k_5 (n9 := 1) (by decide +kernel) rfl (ci := 1) rfl rfl ⟨Nat.le_of_ble_eq_true rfl, Nat.le_of_ble_eq_true rfl⟩ hP hD hS [1, 2, 3, 4, 5] rfl (by decide) hl.1 rfl (Nat.le_of_ble_eq_true rfl) d_X_slot_48 ⟨Nat.le_of_ble_eq_true rfl, Nat.le_of_ble_eq_true rfl⟩) rfl rfl (by decide) (by decide) (fun r_4 u H locs hw hP hD hS => ?_)
        obtain ⟨f_5, f_6, f_7, f_8, x_9⟩ := u
        try dsimp only at hw
        have hP : va_P (dC, dI) classes [(q_0, .inr (0, [.ref q_slots, .ref q_tickets, .ref q_requests, .ref q_chances, .ref q_tariff, .ref q_doors])), (q_slots, .inr (1, [.ref q_slots_places, .ref q_slots_above, .ref q_slots_below, .ref q_slots_most, .ref q_slots_sold, .int x_9])), (q_slots_places, .inl (cI, 8, .inl f_5)), (q_slots_above, .inl (cI, 8, .inl f_6)), (q_slots_below, .inl (cI, 8, .inl f_7)), (q_slots_most, .inl (cI, 8, .inl f_8))] H := hP
        have hD : va_D A [(q_0, .inr (0, [.ref q_slots, .ref q_tickets, .ref q_requests, .ref q_chances, .ref q_tariff, .ref q_doors])), (q_slots, .inr (1, [.ref q_slots_places, .ref q_slots_above, .ref q_slots_below, .ref q_slots_most, .ref q_slots_sold, .int x_9])), (q_slots_places, .inl (cI, 8, .inl f_5)), (q_slots_above, .inl (cI, 8, .inl f_6)), (q_slots_below, .inl (cI, 8, .inl f_7)), (q_slots_most, .inl (cI, 8, .inl f_8))] := hD
        exact rx_i (u := (f_5, f_6, f_7, f_8, x_9)) C0 hw hP hD hS hS.2.2 (by decide) (by decide) d_X_slot_51
      · have hw := hw.2 c_3
        exact thS_i C0 hEx ta_0 sb_0 hw hP0 hD0 hN hS.2.2 hl.1 (by decide) (by decide) (by decide) (by decide) d_X_slot_33 d_X_slot_36 d_X_slot_37 d_X_slot_39 d_X_slot_42
  · have hw := hw.2 c_1
    exact thS_i C0 hEx ta_1 sb_1 hw hP0 hD0 hN hS.2.2 hl.1 (by decide) (by decide) (by decide) (by decide) d_X_slot_12 d_X_slot_15 d_X_slot_16 d_X_slot_18 d_X_slot_21
theorem d_X_needSlot_0 : decode b_X_needSlot 0 = .ok (.iload_n 1, 1) := by decide +kernel
theorem d_X_needSlot_1 : decode b_X_needSlot 1 = .ok (.ifCond .lt 14, 3) := by decide +kernel
theorem d_X_needSlot_4 : decode b_X_needSlot 4 = .ok (.iload_n 1, 1) := by decide +kernel
theorem d_X_needSlot_5 : decode b_X_needSlot 5 = .ok (.aload_n 0, 1) := by decide +kernel
theorem d_X_needSlot_6 : decode b_X_needSlot 6 = .ok (.getfield 10, 3) := by decide +kernel
theorem d_X_needSlot_9 : decode b_X_needSlot 9 = .ok (.getfield 51, 3) := by decide +kernel
theorem d_X_needSlot_12 : decode b_X_needSlot 12 = .ok (.if_icmp .lt 14, 3) := by decide +kernel
theorem d_X_needSlot_15 : decode b_X_needSlot 15 = .ok (.new 96, 3) := by decide +kernel
theorem d_X_needSlot_18 : decode b_X_needSlot 18 = .ok (.dup, 1) := by decide +kernel
theorem d_X_needSlot_19 : decode b_X_needSlot 19 = .ok (.ldc_w 257, 3) := by decide +kernel
theorem d_X_needSlot_22 : decode b_X_needSlot 22 = .ok (.invokespecial 100, 3) := by decide +kernel
theorem d_X_needSlot_25 : decode b_X_needSlot 25 = .ok (.athrow, 1) := by decide +kernel
theorem d_X_needSlot_26 : decode b_X_needSlot 26 = .ok (.return_, 1) := by decide +kernel
def wp_X_needSlot (post : Unit → Prop) (px : String → Prop) (a_1 : Int32) (v_slots_made : Int32) : Prop := ((a_1 < 0 → px "java/lang/IndexOutOfBoundsException") ∧ (¬ (a_1 < 0) → ((a_1 < v_slots_made → post ()) ∧ (¬ (a_1 < v_slots_made) → px "java/lang/IndexOutOfBoundsException"))))
set_option maxHeartbeats 4000000 in
set_option maxRecDepth 100000 in
theorem c_X_needSlot (l : Launch) (hl9 : l.stackTraces = false) (dC : Nat → ClassId) (dI : Nat → Nat → Nat) (cI cJ cZ : ClassId) (q_0 q_slots q_tickets q_requests q_chances q_tariff q_doors q_slots_places q_slots_above q_slots_below q_slots_most q_slots_sold : Nat) (a_1 : Int32) (v_slots_made : Int32) (post : Unit → Prop) (px : String → Prop) (hw : wp_X_needSlot post px a_1 v_slots_made) : Kvx l y_X_needSlot b_X_needSlot 2 none ({ frames := 6, cells := 1, slots := 6, locals := 82 } : Room) dC dI cI cJ cZ [.ref q_0, .int a_1] [(q_0, .inr (0, [.ref q_slots, .ref q_tickets, .ref q_requests, .ref q_chances, .ref q_tariff, .ref q_doors])), (q_slots, .inr (1, [.ref q_slots_places, .ref q_slots_above, .ref q_slots_below, .ref q_slots_most, .ref q_slots_sold, .int v_slots_made]))] true px post (fun u : Unit => [(q_0, .inr (0, [.ref q_slots, .ref q_tickets, .ref q_requests, .ref q_chances, .ref q_tariff, .ref q_doors])), (q_slots, .inr (1, [.ref q_slots_places, .ref q_slots_above, .ref q_slots_below, .ref q_slots_most, .ref q_slots_sold, .int v_slots_made]))]) := by
  refine mkvx hl9 (own := R_X) rfl (by decide) ?_
  intro p e s m args below meth c A fr C0 hEx hfr hAe hnm eav hP hD
  subst hfr
  have hN : ∀ q ∈ ([] : List Loc), s.heap.size ≤ q.base := fun q h => by cases h
  have hP0 := hP
  have hD0 := hD
  obtain ⟨-, hx, hb, hml, hr, hown, hts, hlocks, hK, hZ, hA, hNS⟩ := id C0
  subst eav
  have hS : va_S A s.heap s.heap [] := va_S.rf
  have hl := lv_entry ([.ref q_0, .int a_1]) (n := 2) (Nat.le_of_ble_eq_true rfl)
  rw [lg_entry_eq]
  generalize (lg_sl ([.ref q_0, .int a_1]) ++ List.replicate (2 - (lg_sl ([.ref q_0, .int a_1])).length) Slot.unset).toArray = ls at hl ⊢
  have hl : lv_has ls 2 [(0, .ref q_0), (1, .int a_1)] := hl
  unfold wp_X_needSlot at hw
  refine lv_iload_n hx hb d_X_needSlot_0 rfl (lv_at hl 1 rfl) ?_
  refine lv_if_lt (tgt := 15) hx hb d_X_needSlot_1 (by decide) (fun c_1 => ?_) (fun c_1 => ?_)
  · have hw := hw.1 c_1
    exact thSW_v C0 hEx ta_2 sb_2 hw hP0 hD0 hN (fun q h => by cases h) hl.1 (by decide) (by decide) (by decide) (by decide) d_X_needSlot_15 d_X_needSlot_18 d_X_needSlot_19 d_X_needSlot_22 d_X_needSlot_25
  · have hw := hw.2 c_1
    refine lv_iload_n hx hb d_X_needSlot_4 rfl (lv_at hl 1 rfl) ?_
    refine lv_aload_n hx hb d_X_needSlot_5 rfl (lv_at hl 0 rfl) ?_
    refine va_get (D := (dC, dI)) (ci := 0) (v := .ref q_slots) (C := R_X) (T := F_X) (N := 6) hx hb hts i_X hown hK hP 0 rfl rfl 0 (by decide) (hts _ k_15) (fun _ h9 => h9) rfl d_X_needSlot_6 ?_
    refine va_getN (D := (dC, dI)) (ci := 1) (v := .int v_slots_made) (C := R_XS) (T := F_XS) (N := 6) hx hb hts i_XS hown hK hP 1 rfl rfl 5 (by decide) (va_Nw.use rfl (zn hZ z_5)) (fun _ h9 => h9) rfl d_X_needSlot_9 ?_
    refine lv_icmp_lt (tgt := 26) hx hb d_X_needSlot_12 (by decide) (fun c_2 => ?_) (fun c_2 => ?_)
    · have hw := hw.1 c_2
      exact rx_v (u := ()) C0 hw hP hD hS (fun q h => by cases h) (by decide) (by decide) d_X_needSlot_26
    · have hw := hw.2 c_2
      exact thSW_v C0 hEx ta_2 sb_2 hw hP0 hD0 hN (fun q h => by cases h) hl.1 (by decide) (by decide) (by decide) (by decide) d_X_needSlot_15 d_X_needSlot_18 d_X_needSlot_19 d_X_needSlot_22 d_X_needSlot_25
theorem d_X_needShare_0 : decode b_X_needShare 0 = .ok (.iload_n 1, 1) := by decide +kernel
theorem d_X_needShare_1 : decode b_X_needShare 1 = .ok (.iconst 1, 1) := by decide +kernel
theorem d_X_needShare_2 : decode b_X_needShare 2 = .ok (.if_icmp .lt 17, 3) := by decide +kernel
theorem d_X_needShare_5 : decode b_X_needShare 5 = .ok (.iload_n 1, 1) := by decide +kernel
theorem d_X_needShare_6 : decode b_X_needShare 6 = .ok (.iload_n 2, 1) := by decide +kernel
theorem d_X_needShare_7 : decode b_X_needShare 7 = .ok (.if_icmp .gt 12, 3) := by decide +kernel
theorem d_X_needShare_10 : decode b_X_needShare 10 = .ok (.iload_n 0, 1) := by decide +kernel
theorem d_X_needShare_11 : decode b_X_needShare 11 = .ok (.ifCond .lt 8, 3) := by decide +kernel
theorem d_X_needShare_14 : decode b_X_needShare 14 = .ok (.iload_n 0, 1) := by decide +kernel
theorem d_X_needShare_15 : decode b_X_needShare 15 = .ok (.iload_n 1, 1) := by decide +kernel
theorem d_X_needShare_16 : decode b_X_needShare 16 = .ok (.if_icmp .le 14, 3) := by decide +kernel
theorem d_X_needShare_19 : decode b_X_needShare 19 = .ok (.new 62, 3) := by decide +kernel
theorem d_X_needShare_22 : decode b_X_needShare 22 = .ok (.dup, 1) := by decide +kernel
theorem d_X_needShare_23 : decode b_X_needShare 23 = .ok (.ldc_w 268, 3) := by decide +kernel
theorem d_X_needShare_26 : decode b_X_needShare 26 = .ok (.invokespecial 66, 3) := by decide +kernel
theorem d_X_needShare_29 : decode b_X_needShare 29 = .ok (.athrow, 1) := by decide +kernel
theorem d_X_needShare_30 : decode b_X_needShare 30 = .ok (.return_, 1) := by decide +kernel
def wp_X_needShare (post : Unit → Prop) (px : String → Prop) (a_0 : Int32) (a_1 : Int32) (a_2 : Int32) : Prop := ((a_1 < (1 : Int32) → px "java/lang/IllegalArgumentException") ∧ (¬ (a_1 < (1 : Int32)) → ((a_2 < a_1 → px "java/lang/IllegalArgumentException") ∧ (¬ (a_2 < a_1) → ((a_0 < 0 → px "java/lang/IllegalArgumentException") ∧ (¬ (a_0 < 0) → ((a_0 ≤ a_1 → post ()) ∧ (¬ (a_0 ≤ a_1) → px "java/lang/IllegalArgumentException"))))))))
set_option maxHeartbeats 4000000 in
set_option maxRecDepth 100000 in
theorem c_X_needShare (l : Launch) (hl9 : l.stackTraces = false) (dC : Nat → ClassId) (dI : Nat → Nat → Nat) (cI cJ cZ : ClassId) (a_0 : Int32) (a_1 : Int32) (a_2 : Int32) (post : Unit → Prop) (px : String → Prop) (hw : wp_X_needShare post px a_0 a_1 a_2) : Kvx l y_X_needShare b_X_needShare 3 none ({ frames := 6, cells := 1, slots := 6, locals := 82 } : Room) dC dI cI cJ cZ [.int a_0, .int a_1, .int a_2] [] true px post (fun u : Unit => []) := by
  refine mkvx hl9 (own := R_X) rfl (by decide) ?_
  intro p e s m args below meth c A fr C0 hEx hfr hAe hnm eav hP hD
  subst hfr
  have hN : ∀ q ∈ ([] : List Loc), s.heap.size ≤ q.base := fun q h => by cases h
  have hP0 := hP
  have hD0 := hD
  obtain ⟨-, hx, hb, hml, hr, hown, hts, hlocks, hK, hZ, hA, hNS⟩ := id C0
  subst eav
  have hS : va_S A s.heap s.heap [] := va_S.rf
  have hl := lv_entry ([.int a_0, .int a_1, .int a_2]) (n := 3) (Nat.le_of_ble_eq_true rfl)
  rw [lg_entry_eq]
  generalize (lg_sl ([.int a_0, .int a_1, .int a_2]) ++ List.replicate (3 - (lg_sl ([.int a_0, .int a_1, .int a_2])).length) Slot.unset).toArray = ls at hl ⊢
  have hl : lv_has ls 3 [(0, .int a_0), (1, .int a_1), (2, .int a_2)] := hl
  unfold wp_X_needShare at hw
  refine lv_iload_n hx hb d_X_needShare_0 rfl (lv_at hl 1 rfl) ?_
  refine lv_iconst (v := (1 : Int32)) hx hb d_X_needShare_1 (by decide) ?_
  refine lv_icmp_lt (tgt := 19) hx hb d_X_needShare_2 (by decide) (fun c_1 => ?_) (fun c_1 => ?_)
  · have hw := hw.1 c_1
    exact thSW_v C0 hEx ta_0 sb_3 hw hP0 hD0 hN (fun q h => by cases h) hl.1 (by decide) (by decide) (by decide) (by decide) d_X_needShare_19 d_X_needShare_22 d_X_needShare_23 d_X_needShare_26 d_X_needShare_29
  · have hw := hw.2 c_1
    refine lv_iload_n hx hb d_X_needShare_5 rfl (lv_at hl 1 rfl) ?_
    refine lv_iload_n hx hb d_X_needShare_6 rfl (lv_at hl 2 rfl) ?_
    refine lv_icmp_gt (tgt := 19) hx hb d_X_needShare_7 (by decide) (fun c_2 => ?_) (fun c_2 => ?_)
    · have hw := hw.1 c_2
      exact thSW_v C0 hEx ta_0 sb_3 hw hP0 hD0 hN (fun q h => by cases h) hl.1 (by decide) (by decide) (by decide) (by decide) d_X_needShare_19 d_X_needShare_22 d_X_needShare_23 d_X_needShare_26 d_X_needShare_29
    · have hw := hw.2 c_2
      refine lv_iload_n hx hb d_X_needShare_10 rfl (lv_at hl 0 rfl) ?_
      refine lv_if_lt (tgt := 19) hx hb d_X_needShare_11 (by decide) (fun c_3 => ?_) (fun c_3 => ?_)
      · have hw := hw.1 c_3
        exact thSW_v C0 hEx ta_0 sb_3 hw hP0 hD0 hN (fun q h => by cases h) hl.1 (by decide) (by decide) (by decide) (by decide) d_X_needShare_19 d_X_needShare_22 d_X_needShare_23 d_X_needShare_26 d_X_needShare_29
      · have hw := hw.2 c_3
        refine lv_iload_n hx hb d_X_needShare_14 rfl (lv_at hl 0 rfl) ?_
        refine lv_iload_n hx hb d_X_needShare_15 rfl (lv_at hl 1 rfl) ?_
        refine lv_icmp_le (tgt := 30) hx hb d_X_needShare_16 (by decide) (fun c_4 => ?_) (fun c_4 => ?_)
        · have hw := hw.1 c_4
          exact rx_v (u := ()) C0 hw hP hD hS (fun q h => by cases h) (by decide) (by decide) d_X_needShare_30
        · have hw := hw.2 c_4
          exact thSW_v C0 hEx ta_0 sb_3 hw hP0 hD0 hN (fun q h => by cases h) hl.1 (by decide) (by decide) (by decide) (by decide) d_X_needShare_19 d_X_needShare_22 d_X_needShare_23 d_X_needShare_26 d_X_needShare_29
theorem d_X_over_0 : decode b_X_over 0 = .ok (.aload_n 0, 1) := by decide +kernel
theorem d_X_over_1 : decode b_X_over 1 = .ok (.iload_n 1, 1) := by decide +kernel
theorem d_X_over_2 : decode b_X_over 2 = .ok (.invokevirtual 71, 3) := by decide +kernel
theorem d_X_over_5 : decode b_X_over 5 = .ok (.iload_n 2, 1) := by decide +kernel
theorem d_X_over_6 : decode b_X_over 6 = .ok (.iload_n 3, 1) := by decide +kernel
theorem d_X_over_7 : decode b_X_over 7 = .ok (.bipush 16, 2) := by decide +kernel
theorem d_X_over_9 : decode b_X_over 9 = .ok (.invokestatic 75, 3) := by decide +kernel
theorem d_X_over_12 : decode b_X_over 12 = .ok (.iload 4, 2) := by decide +kernel
theorem d_X_over_14 : decode b_X_over 14 = .ok (.iload 5, 2) := by decide +kernel
theorem d_X_over_16 : decode b_X_over 16 = .ok (.sipush 1000, 3) := by decide +kernel
theorem d_X_over_19 : decode b_X_over 19 = .ok (.invokestatic 75, 3) := by decide +kernel
theorem d_X_over_22 : decode b_X_over 22 = .ok (.aload_n 0, 1) := by decide +kernel
theorem d_X_over_23 : decode b_X_over 23 = .ok (.getfield 10, 3) := by decide +kernel
theorem d_X_over_26 : decode b_X_over 26 = .ok (.getfield 79, 3) := by decide +kernel
theorem d_X_over_29 : decode b_X_over 29 = .ok (.iload_n 1, 1) := by decide +kernel
theorem d_X_over_30 : decode b_X_over 30 = .ok (.iload_n 2, 1) := by decide +kernel
theorem d_X_over_31 : decode b_X_over 31 = .ok (.iastore, 1) := by decide +kernel
theorem d_X_over_32 : decode b_X_over 32 = .ok (.aload_n 0, 1) := by decide +kernel
theorem d_X_over_33 : decode b_X_over 33 = .ok (.getfield 10, 3) := by decide +kernel
theorem d_X_over_36 : decode b_X_over 36 = .ok (.getfield 83, 3) := by decide +kernel
theorem d_X_over_39 : decode b_X_over 39 = .ok (.iload_n 1, 1) := by decide +kernel
theorem d_X_over_40 : decode b_X_over 40 = .ok (.iload_n 3, 1) := by decide +kernel
theorem d_X_over_41 : decode b_X_over 41 = .ok (.iastore, 1) := by decide +kernel
theorem d_X_over_42 : decode b_X_over 42 = .ok (.aload_n 0, 1) := by decide +kernel
theorem d_X_over_43 : decode b_X_over 43 = .ok (.getfield 10, 3) := by decide +kernel
theorem d_X_over_46 : decode b_X_over 46 = .ok (.getfield 86, 3) := by decide +kernel
theorem d_X_over_49 : decode b_X_over 49 = .ok (.iload_n 1, 1) := by decide +kernel
theorem d_X_over_50 : decode b_X_over 50 = .ok (.aload_n 0, 1) := by decide +kernel
theorem d_X_over_51 : decode b_X_over 51 = .ok (.getfield 33, 3) := by decide +kernel
theorem d_X_over_54 : decode b_X_over 54 = .ok (.aload_n 0, 1) := by decide +kernel
theorem d_X_over_55 : decode b_X_over 55 = .ok (.getfield 10, 3) := by decide +kernel
theorem d_X_over_58 : decode b_X_over 58 = .ok (.getfield 89, 3) := by decide +kernel
theorem d_X_over_61 : decode b_X_over 61 = .ok (.iload_n 1, 1) := by decide +kernel
theorem d_X_over_62 : decode b_X_over 62 = .ok (.iaload, 1) := by decide +kernel
theorem d_X_over_63 : decode b_X_over 63 = .ok (.iload_n 2, 1) := by decide +kernel
theorem d_X_over_64 : decode b_X_over 64 = .ok (.iload_n 3, 1) := by decide +kernel
theorem d_X_over_65 : decode b_X_over 65 = .ok (.iload 4, 2) := by decide +kernel
theorem d_X_over_67 : decode b_X_over 67 = .ok (.iload 5, 2) := by decide +kernel
theorem d_X_over_69 : decode b_X_over 69 = .ok (.invokevirtual 92, 3) := by decide +kernel
theorem d_X_over_72 : decode b_X_over 72 = .ok (.iastore, 1) := by decide +kernel
theorem d_X_over_73 : decode b_X_over 73 = .ok (.return_, 1) := by decide +kernel
def wp_X_over (post : ((Nat → Int32) × (Nat → Int32) × (Nat → Int32) × (Nat → Int64)) → Prop) (px : String → Prop) (a_1 : Int32) (a_2 : Int32) (a_3 : Int32) (a_4 : Int32) (a_5 : Int32) (v_slots_places : Nat → Int32) (v_slots_above : Nat → Int32) (v_slots_below : Nat → Int32) (v_slots_most : Nat → Int32) (v_slots_made : Int32) (v_chances_ways : Nat → Int64) : Prop := wp_X_needSlot (fun _ => wp_X_needShare (fun _ => wp_X_needShare (fun _ => (vp_in a_1 8 ∧ (∀ f_2 : Nat → Int32, f_2 = upd v_slots_above a_1.toNatClampNeg a_2 → (vp_in a_1 8 ∧ (∀ f_4 : Nat → Int32, f_4 = upd v_slots_below a_1.toNatClampNeg a_3 → (vp_in a_1 8 ∧ wp_XC_greatestSafe (fun r_6 f_7 => (vp_in a_1 8 ∧ (∀ f_9 : Nat → Int32, f_9 = upd v_slots_most a_1.toNatClampNeg r_6 → post (f_2, f_4, f_9, f_7)))) (v_slots_places a_1.toNatClampNeg) a_2 a_3 a_4 a_5 v_chances_ways)))))) (px) a_4 a_5 (1000 : Int32)) (px) a_2 a_3 (16 : Int32)) (px) a_1 v_slots_made
set_option maxHeartbeats 4000000 in
set_option maxRecDepth 100000 in
theorem c_X_over (l : Launch) (hl9 : l.stackTraces = false) (dC : Nat → ClassId) (dI : Nat → Nat → Nat) (cI cJ cZ : ClassId) (q_0 q_slots q_slots_places q_slots_above q_slots_below q_slots_most q_chances q_chances_ways q_tickets q_requests q_tariff q_doors q_slots_sold : Nat) (a_1 : Int32) (a_2 : Int32) (a_3 : Int32) (a_4 : Int32) (a_5 : Int32) (v_slots_places : Nat → Int32) (v_slots_above : Nat → Int32) (v_slots_below : Nat → Int32) (v_slots_most : Nat → Int32) (v_slots_made : Int32) (v_chances_ways : Nat → Int64) (post : ((Nat → Int32) × (Nat → Int32) × (Nat → Int32) × (Nat → Int64)) → Prop) (px : String → Prop) (hw : wp_X_over post px a_1 a_2 a_3 a_4 a_5 v_slots_places v_slots_above v_slots_below v_slots_most v_slots_made v_chances_ways) : Kvx l y_X_over b_X_over 6 none ({ frames := 7, cells := 1, slots := 6, locals := 105 } : Room) dC dI cI cJ cZ [.ref q_0, .int a_1, .int a_2, .int a_3, .int a_4, .int a_5] [(q_0, .inr (0, [.ref q_slots, .ref q_tickets, .ref q_requests, .ref q_chances, .ref q_tariff, .ref q_doors])), (q_slots, .inr (1, [.ref q_slots_places, .ref q_slots_above, .ref q_slots_below, .ref q_slots_most, .ref q_slots_sold, .int v_slots_made])), (q_slots_places, .inl (cI, 8, .inl v_slots_places)), (q_slots_above, .inl (cI, 8, .inl v_slots_above)), (q_slots_below, .inl (cI, 8, .inl v_slots_below)), (q_slots_most, .inl (cI, 8, .inl v_slots_most)), (q_chances, .inr (4, [.ref q_chances_ways])), (q_chances_ways, .inl (cJ, 115, .inr (.inl v_chances_ways)))] false px post (fun u : (Nat → Int32) × (Nat → Int32) × (Nat → Int32) × (Nat → Int64) => [(q_0, .inr (0, [.ref q_slots, .ref q_tickets, .ref q_requests, .ref q_chances, .ref q_tariff, .ref q_doors])), (q_slots, .inr (1, [.ref q_slots_places, .ref q_slots_above, .ref q_slots_below, .ref q_slots_most, .ref q_slots_sold, .int v_slots_made])), (q_slots_places, .inl (cI, 8, .inl v_slots_places)), (q_slots_above, .inl (cI, 8, .inl u.1)), (q_slots_below, .inl (cI, 8, .inl u.2.1)), (q_slots_most, .inl (cI, 8, .inl u.2.2.1)), (q_chances, .inr (4, [.ref q_chances_ways])), (q_chances_ways, .inl (cJ, 115, .inr (.inl u.2.2.2)))]) := by
  refine mkvx hl9 (own := R_X) rfl (by decide) ?_
  intro p e s m args below meth c A fr C0 hEx hfr hAe hnm eav hP hD
  obtain rfl : A = fr := (hfr.trans hAe.symm).symm
  have hN : ∀ q ∈ ([] : List Loc), s.heap.size ≤ q.base := fun q h => by cases h
  have hP0 := hP
  have hD0 := hD
  obtain ⟨-, hx, hb, hml, hr, hown, hts, hlocks, hK, hZ, hA, hNS⟩ := id C0
  subst eav
  have hS : va_S A s.heap s.heap [] := va_S.rf
  have hl := lv_entry ([.ref q_0, .int a_1, .int a_2, .int a_3, .int a_4, .int a_5]) (n := 6) (Nat.le_of_ble_eq_true rfl)
  rw [lg_entry_eq]
  generalize (lg_sl ([.ref q_0, .int a_1, .int a_2, .int a_3, .int a_4, .int a_5]) ++ List.replicate (6 - (lg_sl ([.ref q_0, .int a_1, .int a_2, .int a_3, .int a_4, .int a_5])).length) Slot.unset).toArray = ls at hl ⊢
  have hl : lv_has ls 6 [(0, .ref q_0), (1, .int a_1), (2, .int a_2), (3, .int a_3), (4, .int a_4), (5, .int a_5)] := hl
  unfold wp_X_over at hw
  refine lv_aload_n hx hb d_X_over_0 rfl (lv_at hl 0 rfl) ?_
  refine lv_iload_n hx hb d_X_over_1 rfl (lv_at hl 1 rfl) ?_
  refine jxn_v C0 hP hD hS hN [0, 1] [2, 3, 4, 5, 6, 7] (ru_Vx C0 (As := [.int a_1]) (rest := []) (c_X_needSlot l hl9 dC dI cI cJ cZ q_0 q_slots q_tickets q_requests q_chances q_tariff q_doors q_slots_places q_slots_above q_slots_below q_slots_most q_slots_sold a_1 v_slots_made _ _ hw _) k_82 k_83 k_84 k_85 k_86 (n9 := 1) (by decide +kernel) rfl (ci := 0) rfl rfl ⟨Nat.le_of_ble_eq_true rfl, Nat.le_of_ble_eq_true rfl⟩ hP hD hS [0, 1] rfl (by decide) hl.1 rfl (Nat.le_of_ble_eq_true rfl) d_X_over_2 ⟨Nat.le_of_ble_eq_true rfl, Nat.le_of_ble_eq_true rfl⟩) rfl rfl (by decide) (by decide) (fun E ce q9 H locs hw hP hD hS hN hce hcv hcl => ?_) (fun u H locs hw hP hD hS hN => ?_)
  · exact xov C0 hEx hw (hP.sub [6, 7, 0, 1, 2, 3, 4, 5] rfl) (hD.sub [6, 7, 0, 1, 2, 3, 4, 5] (by decide) rfl) hS hS.2.2 hce hcv hcl (by decide) (by decide)
  · try dsimp only at hw
    have hP : va_P (dC, dI) classes [(q_slots_places, .inl (cI, 8, .inl v_slots_places)), (q_slots_above, .inl (cI, 8, .inl v_slots_above)), (q_slots_below, .inl (cI, 8, .inl v_slots_below)), (q_slots_most, .inl (cI, 8, .inl v_slots_most)), (q_chances, .inr (4, [.ref q_chances_ways])), (q_chances_ways, .inl (cJ, 115, .inr (.inl v_chances_ways))), (q_0, .inr (0, [.ref q_slots, .ref q_tickets, .ref q_requests, .ref q_chances, .ref q_tariff, .ref q_doors])), (q_slots, .inr (1, [.ref q_slots_places, .ref q_slots_above, .ref q_slots_below, .ref q_slots_most, .ref q_slots_sold, .int v_slots_made]))] H := hP
    have hD : va_D A [(q_slots_places, .inl (cI, 8, .inl v_slots_places)), (q_slots_above, .inl (cI, 8, .inl v_slots_above)), (q_slots_below, .inl (cI, 8, .inl v_slots_below)), (q_slots_most, .inl (cI, 8, .inl v_slots_most)), (q_chances, .inr (4, [.ref q_chances_ways])), (q_chances_ways, .inl (cJ, 115, .inr (.inl v_chances_ways))), (q_0, .inr (0, [.ref q_slots, .ref q_tickets, .ref q_requests, .ref q_chances, .ref q_tariff, .ref q_doors])), (q_slots, .inr (1, [.ref q_slots_places, .ref q_slots_above, .ref q_slots_below, .ref q_slots_most, .ref q_slots_sold, .int v_slots_made]))] := hD
    refine lv_iload_n hx hb d_X_over_5 rfl (lv_at hl 2 rfl) ?_
    refine lv_iload_n hx hb d_X_over_6 rfl (lv_at hl 3 rfl) ?_
    refine lv_bipush (v := (16 : Int32)) hx hb d_X_over_7 (by decide) ?_
    refine jxn_v C0 hP hD hS hN [] [0, 1, 2, 3, 4, 5, 6, 7] (ru_Sx C0 (As := [.int a_2, .int a_3, .int (16 : Int32)]) (rest := []) (c_X_needShare l hl9 dC dI cI cJ cZ a_2 a_3 (16 : Int32) _ _ hw _) k_87 k_88 k_89 k_86 (n9 := 3) (by decide +kernel) rfl ⟨Nat.le_of_ble_eq_true rfl, Nat.le_of_ble_eq_true rfl⟩ hP hD hS [] rfl (by decide) hl.1 rfl (Nat.le_of_ble_eq_true rfl) d_X_over_9 ⟨Nat.le_of_ble_eq_true rfl, Nat.le_of_ble_eq_true rfl⟩) rfl rfl (by decide) (by decide) (fun E ce q9 H locs hw hP hD hS hN hce hcv hcl => ?_) (fun u H locs hw hP hD hS hN => ?_)
    · exact xov C0 hEx hw (hP.sub [6, 7, 0, 1, 2, 3, 4, 5] rfl) (hD.sub [6, 7, 0, 1, 2, 3, 4, 5] (by decide) rfl) hS hS.2.2 hce hcv hcl (by decide) (by decide)
    · try dsimp only at hw
      have hP : va_P (dC, dI) classes [(q_slots_places, .inl (cI, 8, .inl v_slots_places)), (q_slots_above, .inl (cI, 8, .inl v_slots_above)), (q_slots_below, .inl (cI, 8, .inl v_slots_below)), (q_slots_most, .inl (cI, 8, .inl v_slots_most)), (q_chances, .inr (4, [.ref q_chances_ways])), (q_chances_ways, .inl (cJ, 115, .inr (.inl v_chances_ways))), (q_0, .inr (0, [.ref q_slots, .ref q_tickets, .ref q_requests, .ref q_chances, .ref q_tariff, .ref q_doors])), (q_slots, .inr (1, [.ref q_slots_places, .ref q_slots_above, .ref q_slots_below, .ref q_slots_most, .ref q_slots_sold, .int v_slots_made]))] H := hP
      have hD : va_D A [(q_slots_places, .inl (cI, 8, .inl v_slots_places)), (q_slots_above, .inl (cI, 8, .inl v_slots_above)), (q_slots_below, .inl (cI, 8, .inl v_slots_below)), (q_slots_most, .inl (cI, 8, .inl v_slots_most)), (q_chances, .inr (4, [.ref q_chances_ways])), (q_chances_ways, .inl (cJ, 115, .inr (.inl v_chances_ways))), (q_0, .inr (0, [.ref q_slots, .ref q_tickets, .ref q_requests, .ref q_chances, .ref q_tariff, .ref q_doors])), (q_slots, .inr (1, [.ref q_slots_places, .ref q_slots_above, .ref q_slots_below, .ref q_slots_most, .ref q_slots_sold, .int v_slots_made]))] := hD
      refine lv_iload hx hb d_X_over_12 (lv_at hl 4 rfl) ?_
      refine lv_iload hx hb d_X_over_14 (lv_at hl 5 rfl) ?_
      refine lv_sipush (v := (1000 : Int32)) hx hb d_X_over_16 (by decide) ?_
      refine jxn_v C0 hP hD hS hN [] [0, 1, 2, 3, 4, 5, 6, 7] (ru_Sx C0 (As := [.int a_4, .int a_5, .int (1000 : Int32)]) (rest := []) (c_X_needShare l hl9 dC dI cI cJ cZ a_4 a_5 (1000 : Int32) _ _ hw _) k_87 k_88 k_89 k_86 (n9 := 3) (by decide +kernel) rfl ⟨Nat.le_of_ble_eq_true rfl, Nat.le_of_ble_eq_true rfl⟩ hP hD hS [] rfl (by decide) hl.1 rfl (Nat.le_of_ble_eq_true rfl) d_X_over_19 ⟨Nat.le_of_ble_eq_true rfl, Nat.le_of_ble_eq_true rfl⟩) rfl rfl (by decide) (by decide) (fun E ce q9 H locs hw hP hD hS hN hce hcv hcl => ?_) (fun u H locs hw hP hD hS hN => ?_)
      · exact xov C0 hEx hw (hP.sub [6, 7, 0, 1, 2, 3, 4, 5] rfl) (hD.sub [6, 7, 0, 1, 2, 3, 4, 5] (by decide) rfl) hS hS.2.2 hce hcv hcl (by decide) (by decide)
      · try dsimp only at hw
        have hP : va_P (dC, dI) classes [(q_slots_places, .inl (cI, 8, .inl v_slots_places)), (q_slots_above, .inl (cI, 8, .inl v_slots_above)), (q_slots_below, .inl (cI, 8, .inl v_slots_below)), (q_slots_most, .inl (cI, 8, .inl v_slots_most)), (q_chances, .inr (4, [.ref q_chances_ways])), (q_chances_ways, .inl (cJ, 115, .inr (.inl v_chances_ways))), (q_0, .inr (0, [.ref q_slots, .ref q_tickets, .ref q_requests, .ref q_chances, .ref q_tariff, .ref q_doors])), (q_slots, .inr (1, [.ref q_slots_places, .ref q_slots_above, .ref q_slots_below, .ref q_slots_most, .ref q_slots_sold, .int v_slots_made]))] H := hP
        have hD : va_D A [(q_slots_places, .inl (cI, 8, .inl v_slots_places)), (q_slots_above, .inl (cI, 8, .inl v_slots_above)), (q_slots_below, .inl (cI, 8, .inl v_slots_below)), (q_slots_most, .inl (cI, 8, .inl v_slots_most)), (q_chances, .inr (4, [.ref q_chances_ways])), (q_chances_ways, .inl (cJ, 115, .inr (.inl v_chances_ways))), (q_0, .inr (0, [.ref q_slots, .ref q_tickets, .ref q_requests, .ref q_chances, .ref q_tariff, .ref q_doors])), (q_slots, .inr (1, [.ref q_slots_places, .ref q_slots_above, .ref q_slots_below, .ref q_slots_most, .ref q_slots_sold, .int v_slots_made]))] := hD
        refine lv_aload_n hx hb d_X_over_22 rfl (lv_at hl 0 rfl) ?_
        refine va_get (D := (dC, dI)) (ci := 0) (v := .ref q_slots) (C := R_X) (T := F_X) (N := 6) hx hb hts i_X hown hK hP 6 rfl rfl 0 (by decide) (hts _ k_15) (fun _ h9 => h9) rfl d_X_over_23 ?_
        refine va_getN (D := (dC, dI)) (ci := 1) (v := .ref q_slots_above) (C := R_XS) (T := F_XS) (N := 6) hx hb hts i_XS hown hK hP 7 rfl rfl 1 (by decide) (va_Nw.use rfl (zn hZ z_6)) (fun _ h9 => h9) rfl d_X_over_26 ?_
        refine lv_iload_n hx hb d_X_over_29 rfl (lv_at hl 1 rfl) ?_
        refine lv_iload_n hx hb d_X_over_30 rfl (lv_at hl 2 rfl) ?_
        obtain ⟨h_1, hw⟩ := hw
        refine va_iast hx hb hK hP hD hS 1 0 rfl rfl h_1 d_X_over_31 (fun H locs hP hD hS => ?_)
        obtain ⟨f_2, ef_2⟩ : ∃ g : Nat → Int32, g = upd v_slots_above a_1.toNatClampNeg a_2 := ⟨_, rfl⟩
        have hw := hw f_2 ef_2
        have hP : va_P (dC, dI) classes [(q_slots_places, .inl (cI, 8, .inl v_slots_places)), (q_slots_above, .inl (cI, 8, .inl f_2)), (q_slots_below, .inl (cI, 8, .inl v_slots_below)), (q_slots_most, .inl (cI, 8, .inl v_slots_most)), (q_chances, .inr (4, [.ref q_chances_ways])), (q_chances_ways, .inl (cJ, 115, .inr (.inl v_chances_ways))), (q_0, .inr (0, [.ref q_slots, .ref q_tickets, .ref q_requests, .ref q_chances, .ref q_tariff, .ref q_doors])), (q_slots, .inr (1, [.ref q_slots_places, .ref q_slots_above, .ref q_slots_below, .ref q_slots_most, .ref q_slots_sold, .int v_slots_made]))] H := by rw [ef_2]; exact hP
        have hD : va_D A [(q_slots_places, .inl (cI, 8, .inl v_slots_places)), (q_slots_above, .inl (cI, 8, .inl f_2)), (q_slots_below, .inl (cI, 8, .inl v_slots_below)), (q_slots_most, .inl (cI, 8, .inl v_slots_most)), (q_chances, .inr (4, [.ref q_chances_ways])), (q_chances_ways, .inl (cJ, 115, .inr (.inl v_chances_ways))), (q_0, .inr (0, [.ref q_slots, .ref q_tickets, .ref q_requests, .ref q_chances, .ref q_tariff, .ref q_doors])), (q_slots, .inr (1, [.ref q_slots_places, .ref q_slots_above, .ref q_slots_below, .ref q_slots_most, .ref q_slots_sold, .int v_slots_made]))] := by rw [ef_2]; exact hD
        refine lv_aload_n hx hb d_X_over_32 rfl (lv_at hl 0 rfl) ?_
        refine va_get (D := (dC, dI)) (ci := 0) (v := .ref q_slots) (C := R_X) (T := F_X) (N := 6) hx hb hts i_X hown hK hP 6 rfl rfl 0 (by decide) (hts _ k_15) (fun _ h9 => h9) rfl d_X_over_33 ?_
        refine va_getN (D := (dC, dI)) (ci := 1) (v := .ref q_slots_below) (C := R_XS) (T := F_XS) (N := 6) hx hb hts i_XS hown hK hP 7 rfl rfl 2 (by decide) (va_Nw.use rfl (zn hZ z_7)) (fun _ h9 => h9) rfl d_X_over_36 ?_
        refine lv_iload_n hx hb d_X_over_39 rfl (lv_at hl 1 rfl) ?_
        refine lv_iload_n hx hb d_X_over_40 rfl (lv_at hl 3 rfl) ?_
        obtain ⟨h_3, hw⟩ := hw
        refine va_iast hx hb hK hP hD hS 2 0 rfl rfl h_3 d_X_over_41 (fun H locs hP hD hS => ?_)
        obtain ⟨f_4, ef_4⟩ : ∃ g : Nat → Int32, g = upd v_slots_below a_1.toNatClampNeg a_3 := ⟨_, rfl⟩
        have hw := hw f_4 ef_4
        have hP : va_P (dC, dI) classes [(q_slots_places, .inl (cI, 8, .inl v_slots_places)), (q_slots_above, .inl (cI, 8, .inl f_2)), (q_slots_below, .inl (cI, 8, .inl f_4)), (q_slots_most, .inl (cI, 8, .inl v_slots_most)), (q_chances, .inr (4, [.ref q_chances_ways])), (q_chances_ways, .inl (cJ, 115, .inr (.inl v_chances_ways))), (q_0, .inr (0, [.ref q_slots, .ref q_tickets, .ref q_requests, .ref q_chances, .ref q_tariff, .ref q_doors])), (q_slots, .inr (1, [.ref q_slots_places, .ref q_slots_above, .ref q_slots_below, .ref q_slots_most, .ref q_slots_sold, .int v_slots_made]))] H := by rw [ef_4]; exact hP
        have hD : va_D A [(q_slots_places, .inl (cI, 8, .inl v_slots_places)), (q_slots_above, .inl (cI, 8, .inl f_2)), (q_slots_below, .inl (cI, 8, .inl f_4)), (q_slots_most, .inl (cI, 8, .inl v_slots_most)), (q_chances, .inr (4, [.ref q_chances_ways])), (q_chances_ways, .inl (cJ, 115, .inr (.inl v_chances_ways))), (q_0, .inr (0, [.ref q_slots, .ref q_tickets, .ref q_requests, .ref q_chances, .ref q_tariff, .ref q_doors])), (q_slots, .inr (1, [.ref q_slots_places, .ref q_slots_above, .ref q_slots_below, .ref q_slots_most, .ref q_slots_sold, .int v_slots_made]))] := by rw [ef_4]; exact hD
        refine lv_aload_n hx hb d_X_over_42 rfl (lv_at hl 0 rfl) ?_
        refine va_get (D := (dC, dI)) (ci := 0) (v := .ref q_slots) (C := R_X) (T := F_X) (N := 6) hx hb hts i_X hown hK hP 6 rfl rfl 0 (by decide) (hts _ k_15) (fun _ h9 => h9) rfl d_X_over_43 ?_
        refine va_getN (D := (dC, dI)) (ci := 1) (v := .ref q_slots_most) (C := R_XS) (T := F_XS) (N := 6) hx hb hts i_XS hown hK hP 7 rfl rfl 3 (by decide) (va_Nw.use rfl (zn hZ z_8)) (fun _ h9 => h9) rfl d_X_over_46 ?_
        refine lv_iload_n hx hb d_X_over_49 rfl (lv_at hl 1 rfl) ?_
        refine lv_aload_n hx hb d_X_over_50 rfl (lv_at hl 0 rfl) ?_
        refine va_get (D := (dC, dI)) (ci := 0) (v := .ref q_chances) (C := R_X) (T := F_X) (N := 6) hx hb hts i_X hown hK hP 6 rfl rfl 3 (by decide) (hts _ k_47) (fun _ h9 => h9) rfl d_X_over_51 ?_
        refine lv_aload_n hx hb d_X_over_54 rfl (lv_at hl 0 rfl) ?_
        refine va_get (D := (dC, dI)) (ci := 0) (v := .ref q_slots) (C := R_X) (T := F_X) (N := 6) hx hb hts i_X hown hK hP 6 rfl rfl 0 (by decide) (hts _ k_15) (fun _ h9 => h9) rfl d_X_over_55 ?_
        refine va_getN (D := (dC, dI)) (ci := 1) (v := .ref q_slots_places) (C := R_XS) (T := F_XS) (N := 6) hx hb hts i_XS hown hK hP 7 rfl rfl 0 (by decide) (va_Nw.use rfl (zn hZ z_9)) (fun _ h9 => h9) rfl d_X_over_58 ?_
        refine lv_iload_n hx hb d_X_over_61 rfl (lv_at hl 1 rfl) ?_
        obtain ⟨h_5, hw⟩ := hw
        refine va_iald hx hb hK hP 0 0 rfl rfl h_5 d_X_over_62 ?_
        refine lv_iload_n hx hb d_X_over_63 rfl (lv_at hl 2 rfl) ?_
        refine lv_iload_n hx hb d_X_over_64 rfl (lv_at hl 3 rfl) ?_
        refine lv_iload hx hb d_X_over_65 (lv_at hl 4 rfl) ?_
        refine lv_iload hx hb d_X_over_67 (lv_at hl 5 rfl) ?_
        refine jn_i C0 hP hD hS [4, 5] [0, 1, 2, 3, 6, 7] (ru_V C0 (As := [.int (v_slots_places a_1.toNatClampNeg), .int a_2, .int a_3, .int a_4, .int a_5]) (rest := [.int a_1, .ref q_slots_most]) (c_XC_greatestSafe l hl9 dC dI cI cJ cZ q_chances q_chances_ways (v_slots_places a_1.toNatClampNeg) a_2 a_3 a_4 a_5 v_chances_ways _ hw _) k_117 k_118 k_119 k_120 k_41 (n9 := 5) (by decide +kernel) rfl (ci := 4) rfl rfl ⟨Nat.le_of_ble_eq_true rfl, Nat.le_of_ble_eq_true rfl⟩ hP hD hS [4, 5] rfl (by decide) hl.1 rfl (Nat.le_of_ble_eq_true rfl) d_X_over_69 ⟨Nat.le_of_ble_eq_true rfl, Nat.le_of_ble_eq_true rfl⟩) rfl rfl (by decide) (by decide) (fun r_6 u H locs hw hP hD hS => ?_)
        obtain ⟨f_7, rfl⟩ : ∃ z9, z9 = u := ⟨_, rfl⟩
        try dsimp only at hw
        have hP : va_P (dC, dI) classes [(q_slots_places, .inl (cI, 8, .inl v_slots_places)), (q_slots_above, .inl (cI, 8, .inl f_2)), (q_slots_below, .inl (cI, 8, .inl f_4)), (q_slots_most, .inl (cI, 8, .inl v_slots_most)), (q_0, .inr (0, [.ref q_slots, .ref q_tickets, .ref q_requests, .ref q_chances, .ref q_tariff, .ref q_doors])), (q_slots, .inr (1, [.ref q_slots_places, .ref q_slots_above, .ref q_slots_below, .ref q_slots_most, .ref q_slots_sold, .int v_slots_made])), (q_chances, .inr (4, [.ref q_chances_ways])), (q_chances_ways, .inl (cJ, 115, .inr (.inl f_7)))] H := hP
        have hD : va_D A [(q_slots_places, .inl (cI, 8, .inl v_slots_places)), (q_slots_above, .inl (cI, 8, .inl f_2)), (q_slots_below, .inl (cI, 8, .inl f_4)), (q_slots_most, .inl (cI, 8, .inl v_slots_most)), (q_0, .inr (0, [.ref q_slots, .ref q_tickets, .ref q_requests, .ref q_chances, .ref q_tariff, .ref q_doors])), (q_slots, .inr (1, [.ref q_slots_places, .ref q_slots_above, .ref q_slots_below, .ref q_slots_most, .ref q_slots_sold, .int v_slots_made])), (q_chances, .inr (4, [.ref q_chances_ways])), (q_chances_ways, .inl (cJ, 115, .inr (.inl f_7)))] := hD
        obtain ⟨h_8, hw⟩ := hw
        refine va_iast hx hb hK hP hD hS 3 0 rfl rfl h_8 d_X_over_72 (fun H locs hP hD hS => ?_)
        obtain ⟨f_9, ef_9⟩ : ∃ g : Nat → Int32, g = upd v_slots_most a_1.toNatClampNeg r_6 := ⟨_, rfl⟩
        have hw := hw f_9 ef_9
        have hP : va_P (dC, dI) classes [(q_slots_places, .inl (cI, 8, .inl v_slots_places)), (q_slots_above, .inl (cI, 8, .inl f_2)), (q_slots_below, .inl (cI, 8, .inl f_4)), (q_slots_most, .inl (cI, 8, .inl f_9)), (q_0, .inr (0, [.ref q_slots, .ref q_tickets, .ref q_requests, .ref q_chances, .ref q_tariff, .ref q_doors])), (q_slots, .inr (1, [.ref q_slots_places, .ref q_slots_above, .ref q_slots_below, .ref q_slots_most, .ref q_slots_sold, .int v_slots_made])), (q_chances, .inr (4, [.ref q_chances_ways])), (q_chances_ways, .inl (cJ, 115, .inr (.inl f_7)))] H := by rw [ef_9]; exact hP
        have hD : va_D A [(q_slots_places, .inl (cI, 8, .inl v_slots_places)), (q_slots_above, .inl (cI, 8, .inl f_2)), (q_slots_below, .inl (cI, 8, .inl f_4)), (q_slots_most, .inl (cI, 8, .inl f_9)), (q_0, .inr (0, [.ref q_slots, .ref q_tickets, .ref q_requests, .ref q_chances, .ref q_tariff, .ref q_doors])), (q_slots, .inr (1, [.ref q_slots_places, .ref q_slots_above, .ref q_slots_below, .ref q_slots_most, .ref q_slots_sold, .int v_slots_made])), (q_chances, .inr (4, [.ref q_chances_ways])), (q_chances_ways, .inl (cJ, 115, .inr (.inl f_7)))] := by rw [ef_9]; exact hD
        exact rx_v (u := (f_2, f_4, f_9, f_7)) C0 hw (hP.sub [4, 5, 0, 1, 2, 3, 6, 7] rfl) (hD.sub [4, 5, 0, 1, 2, 3, 6, 7] (by decide) rfl) hS hS.2.2 (by decide) (by decide) d_X_over_73
theorem d_X_most_0 : decode b_X_most 0 = .ok (.aload_n 0, 1) := by decide +kernel
theorem d_X_most_1 : decode b_X_most 1 = .ok (.iload_n 1, 1) := by decide +kernel
theorem d_X_most_2 : decode b_X_most 2 = .ok (.invokevirtual 71, 3) := by decide +kernel
theorem d_X_most_5 : decode b_X_most 5 = .ok (.aload_n 0, 1) := by decide +kernel
theorem d_X_most_6 : decode b_X_most 6 = .ok (.getfield 10, 3) := by decide +kernel
theorem d_X_most_9 : decode b_X_most 9 = .ok (.getfield 86, 3) := by decide +kernel
theorem d_X_most_12 : decode b_X_most 12 = .ok (.iload_n 1, 1) := by decide +kernel
theorem d_X_most_13 : decode b_X_most 13 = .ok (.iaload, 1) := by decide +kernel
theorem d_X_most_14 : decode b_X_most 14 = .ok (.ireturn, 1) := by decide +kernel
def wp_X_most (post : Int32 → Unit → Prop) (px : String → Prop) (a_1 : Int32) (v_slots_most : Nat → Int32) (v_slots_made : Int32) : Prop := wp_X_needSlot (fun _ => (vp_in a_1 8 ∧ post (v_slots_most a_1.toNatClampNeg) ())) (px) a_1 v_slots_made
set_option maxHeartbeats 4000000 in
set_option maxRecDepth 100000 in
theorem c_X_most (l : Launch) (hl9 : l.stackTraces = false) (dC : Nat → ClassId) (dI : Nat → Nat → Nat) (cI cJ cZ : ClassId) (q_0 q_slots q_slots_most q_tickets q_requests q_chances q_tariff q_doors q_slots_places q_slots_above q_slots_below q_slots_sold : Nat) (a_1 : Int32) (v_slots_most : Nat → Int32) (v_slots_made : Int32) (post : Int32 → Unit → Prop) (px : String → Prop) (hw : wp_X_most post px a_1 v_slots_most v_slots_made) : Kix l y_X_most b_X_most 2 (some .int) ({ frames := 7, cells := 1, slots := 6, locals := 103 } : Room) dC dI cI cJ cZ [.ref q_0, .int a_1] [(q_0, .inr (0, [.ref q_slots, .ref q_tickets, .ref q_requests, .ref q_chances, .ref q_tariff, .ref q_doors])), (q_slots, .inr (1, [.ref q_slots_places, .ref q_slots_above, .ref q_slots_below, .ref q_slots_most, .ref q_slots_sold, .int v_slots_made])), (q_slots_most, .inl (cI, 8, .inl v_slots_most))] false px post (fun u : Unit => [(q_0, .inr (0, [.ref q_slots, .ref q_tickets, .ref q_requests, .ref q_chances, .ref q_tariff, .ref q_doors])), (q_slots, .inr (1, [.ref q_slots_places, .ref q_slots_above, .ref q_slots_below, .ref q_slots_most, .ref q_slots_sold, .int v_slots_made])), (q_slots_most, .inl (cI, 8, .inl v_slots_most))]) := by
  refine mkix hl9 (own := R_X) rfl (by decide) ?_
  intro p e s m args below meth c A fr C0 hEx hfr hAe hnm eav hP hD
  obtain rfl : A = fr := (hfr.trans hAe.symm).symm
  have hN : ∀ q ∈ ([] : List Loc), s.heap.size ≤ q.base := fun q h => by cases h
  have hP0 := hP
  have hD0 := hD
  obtain ⟨-, hx, hb, hml, hr, hown, hts, hlocks, hK, hZ, hA, hNS⟩ := id C0
  subst eav
  have hS : va_S A s.heap s.heap [] := va_S.rf
  have hl := lv_entry ([.ref q_0, .int a_1]) (n := 2) (Nat.le_of_ble_eq_true rfl)
  rw [lg_entry_eq]
  generalize (lg_sl ([.ref q_0, .int a_1]) ++ List.replicate (2 - (lg_sl ([.ref q_0, .int a_1])).length) Slot.unset).toArray = ls at hl ⊢
  have hl : lv_has ls 2 [(0, .ref q_0), (1, .int a_1)] := hl
  unfold wp_X_most at hw
  refine lv_aload_n hx hb d_X_most_0 rfl (lv_at hl 0 rfl) ?_
  refine lv_iload_n hx hb d_X_most_1 rfl (lv_at hl 1 rfl) ?_
  refine jxn_v C0 hP hD hS hN [0, 1] [2] (ru_Vx C0 (As := [.int a_1]) (rest := []) (c_X_needSlot l hl9 dC dI cI cJ cZ q_0 q_slots q_tickets q_requests q_chances q_tariff q_doors q_slots_places q_slots_above q_slots_below q_slots_most q_slots_sold a_1 v_slots_made _ _ hw _) k_82 k_83 k_84 k_85 k_86 (n9 := 1) (by decide +kernel) rfl (ci := 0) rfl rfl ⟨Nat.le_of_ble_eq_true rfl, Nat.le_of_ble_eq_true rfl⟩ hP hD hS [0, 1] rfl (by decide) hl.1 rfl (Nat.le_of_ble_eq_true rfl) d_X_most_2 ⟨Nat.le_of_ble_eq_true rfl, Nat.le_of_ble_eq_true rfl⟩) rfl rfl (by decide) (by decide) (fun E ce q9 H locs hw hP hD hS hN hce hcv hcl => ?_) (fun u H locs hw hP hD hS hN => ?_)
  · exact xoi C0 hEx hw (hP.sub [1, 2, 0] rfl) (hD.sub [1, 2, 0] (by decide) rfl) hS hS.2.2 hce hcv hcl (by decide) (by decide)
  · try dsimp only at hw
    have hP : va_P (dC, dI) classes [(q_slots_most, .inl (cI, 8, .inl v_slots_most)), (q_0, .inr (0, [.ref q_slots, .ref q_tickets, .ref q_requests, .ref q_chances, .ref q_tariff, .ref q_doors])), (q_slots, .inr (1, [.ref q_slots_places, .ref q_slots_above, .ref q_slots_below, .ref q_slots_most, .ref q_slots_sold, .int v_slots_made]))] H := hP
    have hD : va_D A [(q_slots_most, .inl (cI, 8, .inl v_slots_most)), (q_0, .inr (0, [.ref q_slots, .ref q_tickets, .ref q_requests, .ref q_chances, .ref q_tariff, .ref q_doors])), (q_slots, .inr (1, [.ref q_slots_places, .ref q_slots_above, .ref q_slots_below, .ref q_slots_most, .ref q_slots_sold, .int v_slots_made]))] := hD
    refine lv_aload_n hx hb d_X_most_5 rfl (lv_at hl 0 rfl) ?_
    refine va_get (D := (dC, dI)) (ci := 0) (v := .ref q_slots) (C := R_X) (T := F_X) (N := 6) hx hb hts i_X hown hK hP 1 rfl rfl 0 (by decide) (hts _ k_15) (fun _ h9 => h9) rfl d_X_most_6 ?_
    refine va_getN (D := (dC, dI)) (ci := 1) (v := .ref q_slots_most) (C := R_XS) (T := F_XS) (N := 6) hx hb hts i_XS hown hK hP 2 rfl rfl 3 (by decide) (va_Nw.use rfl (zn hZ z_8)) (fun _ h9 => h9) rfl d_X_most_9 ?_
    refine lv_iload_n hx hb d_X_most_12 rfl (lv_at hl 1 rfl) ?_
    obtain ⟨h_1, hw⟩ := hw
    refine va_iald hx hb hK hP 0 0 rfl rfl h_1 d_X_most_13 ?_
    exact rx_i (u := ()) C0 hw (hP.sub [1, 2, 0] rfl) (hD.sub [1, 2, 0] (by decide) rfl) hS hS.2.2 (by decide) (by decide) d_X_most_14
theorem d_X_odds_0 : decode b_X_odds 0 = .ok (.aload_n 0, 1) := by decide +kernel
theorem d_X_odds_1 : decode b_X_odds 1 = .ok (.iload_n 1, 1) := by decide +kernel
theorem d_X_odds_2 : decode b_X_odds 2 = .ok (.invokevirtual 71, 3) := by decide +kernel
theorem d_X_odds_5 : decode b_X_odds 5 = .ok (.iload_n 3, 1) := by decide +kernel
theorem d_X_odds_6 : decode b_X_odds 6 = .ok (.ifCond .lt 9, 3) := by decide +kernel
theorem d_X_odds_9 : decode b_X_odds 9 = .ok (.iload_n 3, 1) := by decide +kernel
theorem d_X_odds_10 : decode b_X_odds 10 = .ok (.bipush 40, 2) := by decide +kernel
theorem d_X_odds_12 : decode b_X_odds 12 = .ok (.if_icmp .lt 13, 3) := by decide +kernel
theorem d_X_odds_15 : decode b_X_odds 15 = .ok (.new 96, 3) := by decide +kernel
theorem d_X_odds_18 : decode b_X_odds 18 = .ok (.dup, 1) := by decide +kernel
theorem d_X_odds_19 : decode b_X_odds 19 = .ok (.ldc 98, 2) := by decide +kernel
theorem d_X_odds_21 : decode b_X_odds 21 = .ok (.invokespecial 100, 3) := by decide +kernel
theorem d_X_odds_24 : decode b_X_odds 24 = .ok (.athrow, 1) := by decide +kernel
theorem d_X_odds_25 : decode b_X_odds 25 = .ok (.iload_n 2, 1) := by decide +kernel
theorem d_X_odds_26 : decode b_X_odds 26 = .ok (.ifCond .lt 9, 3) := by decide +kernel
theorem d_X_odds_29 : decode b_X_odds 29 = .ok (.iload_n 2, 1) := by decide +kernel
theorem d_X_odds_30 : decode b_X_odds 30 = .ok (.bipush 28, 2) := by decide +kernel
theorem d_X_odds_32 : decode b_X_odds 32 = .ok (.if_icmp .le 13, 3) := by decide +kernel
theorem d_X_odds_35 : decode b_X_odds 35 = .ok (.new 62, 3) := by decide +kernel
theorem d_X_odds_38 : decode b_X_odds 38 = .ok (.dup, 1) := by decide +kernel
theorem d_X_odds_39 : decode b_X_odds 39 = .ok (.ldc 101, 2) := by decide +kernel
theorem d_X_odds_41 : decode b_X_odds 41 = .ok (.invokespecial 66, 3) := by decide +kernel
theorem d_X_odds_44 : decode b_X_odds 44 = .ok (.athrow, 1) := by decide +kernel
theorem d_X_odds_45 : decode b_X_odds 45 = .ok (.aload_n 0, 1) := by decide +kernel
theorem d_X_odds_46 : decode b_X_odds 46 = .ok (.getfield 33, 3) := by decide +kernel
theorem d_X_odds_49 : decode b_X_odds 49 = .ok (.iload_n 2, 1) := by decide +kernel
theorem d_X_odds_50 : decode b_X_odds 50 = .ok (.aload_n 0, 1) := by decide +kernel
theorem d_X_odds_51 : decode b_X_odds 51 = .ok (.getfield 10, 3) := by decide +kernel
theorem d_X_odds_54 : decode b_X_odds 54 = .ok (.getfield 89, 3) := by decide +kernel
theorem d_X_odds_57 : decode b_X_odds 57 = .ok (.iload_n 1, 1) := by decide +kernel
theorem d_X_odds_58 : decode b_X_odds 58 = .ok (.iaload, 1) := by decide +kernel
theorem d_X_odds_59 : decode b_X_odds 59 = .ok (.aload_n 0, 1) := by decide +kernel
theorem d_X_odds_60 : decode b_X_odds 60 = .ok (.getfield 10, 3) := by decide +kernel
theorem d_X_odds_63 : decode b_X_odds 63 = .ok (.getfield 79, 3) := by decide +kernel
theorem d_X_odds_66 : decode b_X_odds 66 = .ok (.iload_n 1, 1) := by decide +kernel
theorem d_X_odds_67 : decode b_X_odds 67 = .ok (.iaload, 1) := by decide +kernel
theorem d_X_odds_68 : decode b_X_odds 68 = .ok (.aload_n 0, 1) := by decide +kernel
theorem d_X_odds_69 : decode b_X_odds 69 = .ok (.getfield 10, 3) := by decide +kernel
theorem d_X_odds_72 : decode b_X_odds 72 = .ok (.getfield 83, 3) := by decide +kernel
theorem d_X_odds_75 : decode b_X_odds 75 = .ok (.iload_n 1, 1) := by decide +kernel
theorem d_X_odds_76 : decode b_X_odds 76 = .ok (.iaload, 1) := by decide +kernel
theorem d_X_odds_77 : decode b_X_odds 77 = .ok (.invokevirtual 103, 3) := by decide +kernel
theorem d_X_odds_80 : decode b_X_odds 80 = .ok (.aload_n 0, 1) := by decide +kernel
theorem d_X_odds_81 : decode b_X_odds 81 = .ok (.getfield 33, 3) := by decide +kernel
theorem d_X_odds_84 : decode b_X_odds 84 = .ok (.iload_n 3, 1) := by decide +kernel
theorem d_X_odds_85 : decode b_X_odds 85 = .ok (.invokevirtual 107, 3) := by decide +kernel
theorem d_X_odds_88 : decode b_X_odds 88 = .ok (.ireturn, 1) := by decide +kernel
def wp_X_odds (post : Int32 → (Nat → Int64) → Prop) (px : String → Prop) (a_1 : Int32) (a_2 : Int32) (a_3 : Int32) (v_slots_places : Nat → Int32) (v_slots_above : Nat → Int32) (v_slots_below : Nat → Int32) (v_slots_made : Int32) (v_chances_ways : Nat → Int64) : Prop := wp_X_needSlot (fun _ => ((a_3 < 0 → px "java/lang/IndexOutOfBoundsException") ∧ (¬ (a_3 < 0) → ((a_3 < (40 : Int32) → ((a_2 < 0 → px "java/lang/IllegalArgumentException") ∧ (¬ (a_2 < 0) → ((a_2 ≤ (28 : Int32) → (vp_in a_1 8 ∧ (vp_in a_1 8 ∧ (vp_in a_1 8 ∧ wp_XC_invite (fun f_8 => wp_XC_digitOfTooMany (fun r_9 _ => post r_9 f_8) a_3 f_8) a_2 (v_slots_places a_1.toNatClampNeg) (v_slots_above a_1.toNatClampNeg) (v_slots_below a_1.toNatClampNeg) v_chances_ways)))) ∧ (¬ (a_2 ≤ (28 : Int32)) → px "java/lang/IllegalArgumentException"))))) ∧ (¬ (a_3 < (40 : Int32)) → px "java/lang/IndexOutOfBoundsException"))))) (px) a_1 v_slots_made
set_option maxHeartbeats 4000000 in
set_option maxRecDepth 100000 in
theorem c_X_odds (l : Launch) (hl9 : l.stackTraces = false) (dC : Nat → ClassId) (dI : Nat → Nat → Nat) (cI cJ cZ : ClassId) (q_0 q_slots q_slots_places q_slots_above q_slots_below q_chances q_chances_ways q_tickets q_requests q_tariff q_doors q_slots_most q_slots_sold : Nat) (a_1 : Int32) (a_2 : Int32) (a_3 : Int32) (v_slots_places : Nat → Int32) (v_slots_above : Nat → Int32) (v_slots_below : Nat → Int32) (v_slots_made : Int32) (v_chances_ways : Nat → Int64) (post : Int32 → (Nat → Int64) → Prop) (px : String → Prop) (hw : wp_X_odds post px a_1 a_2 a_3 v_slots_places v_slots_above v_slots_below v_slots_made v_chances_ways) : Kix l y_X_odds b_X_odds 4 (some .int) ({ frames := 7, cells := 1, slots := 6, locals := 103 } : Room) dC dI cI cJ cZ [.ref q_0, .int a_1, .int a_2, .int a_3] [(q_0, .inr (0, [.ref q_slots, .ref q_tickets, .ref q_requests, .ref q_chances, .ref q_tariff, .ref q_doors])), (q_slots, .inr (1, [.ref q_slots_places, .ref q_slots_above, .ref q_slots_below, .ref q_slots_most, .ref q_slots_sold, .int v_slots_made])), (q_slots_places, .inl (cI, 8, .inl v_slots_places)), (q_slots_above, .inl (cI, 8, .inl v_slots_above)), (q_slots_below, .inl (cI, 8, .inl v_slots_below)), (q_chances, .inr (4, [.ref q_chances_ways])), (q_chances_ways, .inl (cJ, 115, .inr (.inl v_chances_ways)))] false px post (fun u : (Nat → Int64) => [(q_0, .inr (0, [.ref q_slots, .ref q_tickets, .ref q_requests, .ref q_chances, .ref q_tariff, .ref q_doors])), (q_slots, .inr (1, [.ref q_slots_places, .ref q_slots_above, .ref q_slots_below, .ref q_slots_most, .ref q_slots_sold, .int v_slots_made])), (q_slots_places, .inl (cI, 8, .inl v_slots_places)), (q_slots_above, .inl (cI, 8, .inl v_slots_above)), (q_slots_below, .inl (cI, 8, .inl v_slots_below)), (q_chances, .inr (4, [.ref q_chances_ways])), (q_chances_ways, .inl (cJ, 115, .inr (.inl u)))]) := by
  refine mkix hl9 (own := R_X) rfl (by decide) ?_
  intro p e s m args below meth c A fr C0 hEx hfr hAe hnm eav hP hD
  obtain rfl : A = fr := (hfr.trans hAe.symm).symm
  have hN : ∀ q ∈ ([] : List Loc), s.heap.size ≤ q.base := fun q h => by cases h
  have hP0 := hP
  have hD0 := hD
  obtain ⟨-, hx, hb, hml, hr, hown, hts, hlocks, hK, hZ, hA, hNS⟩ := id C0
  subst eav
  have hS : va_S A s.heap s.heap [] := va_S.rf
  have hl := lv_entry ([.ref q_0, .int a_1, .int a_2, .int a_3]) (n := 4) (Nat.le_of_ble_eq_true rfl)
  rw [lg_entry_eq]
  generalize (lg_sl ([.ref q_0, .int a_1, .int a_2, .int a_3]) ++ List.replicate (4 - (lg_sl ([.ref q_0, .int a_1, .int a_2, .int a_3])).length) Slot.unset).toArray = ls at hl ⊢
  have hl : lv_has ls 4 [(0, .ref q_0), (1, .int a_1), (2, .int a_2), (3, .int a_3)] := hl
  unfold wp_X_odds at hw
  refine lv_aload_n hx hb d_X_odds_0 rfl (lv_at hl 0 rfl) ?_
  refine lv_iload_n hx hb d_X_odds_1 rfl (lv_at hl 1 rfl) ?_
  refine jxn_v C0 hP hD hS hN [0, 1] [2, 3, 4, 5, 6] (ru_Vx C0 (As := [.int a_1]) (rest := []) (c_X_needSlot l hl9 dC dI cI cJ cZ q_0 q_slots q_tickets q_requests q_chances q_tariff q_doors q_slots_places q_slots_above q_slots_below q_slots_most q_slots_sold a_1 v_slots_made _ _ hw _) k_82 k_83 k_84 k_85 k_86 (n9 := 1) (by decide +kernel) rfl (ci := 0) rfl rfl ⟨Nat.le_of_ble_eq_true rfl, Nat.le_of_ble_eq_true rfl⟩ hP hD hS [0, 1] rfl (by decide) hl.1 rfl (Nat.le_of_ble_eq_true rfl) d_X_odds_2 ⟨Nat.le_of_ble_eq_true rfl, Nat.le_of_ble_eq_true rfl⟩) rfl rfl (by decide) (by decide) (fun E ce q9 H locs hw hP hD hS hN hce hcv hcl => ?_) (fun u H locs hw hP hD hS hN => ?_)
  · exact xoi C0 hEx hw (hP.sub [5, 6, 0, 1, 2, 3, 4] rfl) (hD.sub [5, 6, 0, 1, 2, 3, 4] (by decide) rfl) hS hS.2.2 hce hcv hcl (by decide) (by decide)
  · try dsimp only at hw
    have hP : va_P (dC, dI) classes [(q_slots_places, .inl (cI, 8, .inl v_slots_places)), (q_slots_above, .inl (cI, 8, .inl v_slots_above)), (q_slots_below, .inl (cI, 8, .inl v_slots_below)), (q_chances, .inr (4, [.ref q_chances_ways])), (q_chances_ways, .inl (cJ, 115, .inr (.inl v_chances_ways))), (q_0, .inr (0, [.ref q_slots, .ref q_tickets, .ref q_requests, .ref q_chances, .ref q_tariff, .ref q_doors])), (q_slots, .inr (1, [.ref q_slots_places, .ref q_slots_above, .ref q_slots_below, .ref q_slots_most, .ref q_slots_sold, .int v_slots_made]))] H := hP
    have hD : va_D A [(q_slots_places, .inl (cI, 8, .inl v_slots_places)), (q_slots_above, .inl (cI, 8, .inl v_slots_above)), (q_slots_below, .inl (cI, 8, .inl v_slots_below)), (q_chances, .inr (4, [.ref q_chances_ways])), (q_chances_ways, .inl (cJ, 115, .inr (.inl v_chances_ways))), (q_0, .inr (0, [.ref q_slots, .ref q_tickets, .ref q_requests, .ref q_chances, .ref q_tariff, .ref q_doors])), (q_slots, .inr (1, [.ref q_slots_places, .ref q_slots_above, .ref q_slots_below, .ref q_slots_most, .ref q_slots_sold, .int v_slots_made]))] := hD
    refine lv_iload_n hx hb d_X_odds_5 rfl (lv_at hl 3 rfl) ?_
    refine lv_if_lt (tgt := 15) hx hb d_X_odds_6 (by decide) (fun c_1 => ?_) (fun c_1 => ?_)
    · have hw := hw.1 c_1
      exact thS_i C0 hEx ta_2 sb_4 hw hP0 hD0 hN hS.2.2 hl.1 (by decide) (by decide) (by decide) (by decide) d_X_odds_15 d_X_odds_18 d_X_odds_19 d_X_odds_21 d_X_odds_24
    · have hw := hw.2 c_1
      refine lv_iload_n hx hb d_X_odds_9 rfl (lv_at hl 3 rfl) ?_
      refine lv_bipush (v := (40 : Int32)) hx hb d_X_odds_10 (by decide) ?_
      refine lv_icmp_lt (tgt := 25) hx hb d_X_odds_12 (by decide) (fun c_2 => ?_) (fun c_2 => ?_)
      · have hw := hw.1 c_2
        refine lv_iload_n hx hb d_X_odds_25 rfl (lv_at hl 2 rfl) ?_
        refine lv_if_lt (tgt := 35) hx hb d_X_odds_26 (by decide) (fun c_3 => ?_) (fun c_3 => ?_)
        · have hw := hw.1 c_3
          exact thS_i C0 hEx ta_0 sb_5 hw hP0 hD0 hN hS.2.2 hl.1 (by decide) (by decide) (by decide) (by decide) d_X_odds_35 d_X_odds_38 d_X_odds_39 d_X_odds_41 d_X_odds_44
        · have hw := hw.2 c_3
          refine lv_iload_n hx hb d_X_odds_29 rfl (lv_at hl 2 rfl) ?_
          refine lv_bipush (v := (28 : Int32)) hx hb d_X_odds_30 (by decide) ?_
          refine lv_icmp_le (tgt := 45) hx hb d_X_odds_32 (by decide) (fun c_4 => ?_) (fun c_4 => ?_)
          · have hw := hw.1 c_4
            refine lv_aload_n hx hb d_X_odds_45 rfl (lv_at hl 0 rfl) ?_
            refine va_get (D := (dC, dI)) (ci := 0) (v := .ref q_chances) (C := R_X) (T := F_X) (N := 6) hx hb hts i_X hown hK hP 5 rfl rfl 3 (by decide) (hts _ k_47) (fun _ h9 => h9) rfl d_X_odds_46 ?_
            refine lv_iload_n hx hb d_X_odds_49 rfl (lv_at hl 2 rfl) ?_
            refine lv_aload_n hx hb d_X_odds_50 rfl (lv_at hl 0 rfl) ?_
            refine va_get (D := (dC, dI)) (ci := 0) (v := .ref q_slots) (C := R_X) (T := F_X) (N := 6) hx hb hts i_X hown hK hP 5 rfl rfl 0 (by decide) (hts _ k_15) (fun _ h9 => h9) rfl d_X_odds_51 ?_
            refine va_getN (D := (dC, dI)) (ci := 1) (v := .ref q_slots_places) (C := R_XS) (T := F_XS) (N := 6) hx hb hts i_XS hown hK hP 6 rfl rfl 0 (by decide) (va_Nw.use rfl (zn hZ z_9)) (fun _ h9 => h9) rfl d_X_odds_54 ?_
            refine lv_iload_n hx hb d_X_odds_57 rfl (lv_at hl 1 rfl) ?_
            obtain ⟨h_5, hw⟩ := hw
            refine va_iald hx hb hK hP 0 0 rfl rfl h_5 d_X_odds_58 ?_
            refine lv_aload_n hx hb d_X_odds_59 rfl (lv_at hl 0 rfl) ?_
            refine va_get (D := (dC, dI)) (ci := 0) (v := .ref q_slots) (C := R_X) (T := F_X) (N := 6) hx hb hts i_X hown hK hP 5 rfl rfl 0 (by decide) (hts _ k_15) (fun _ h9 => h9) rfl d_X_odds_60 ?_
            refine va_getN (D := (dC, dI)) (ci := 1) (v := .ref q_slots_above) (C := R_XS) (T := F_XS) (N := 6) hx hb hts i_XS hown hK hP 6 rfl rfl 1 (by decide) (va_Nw.use rfl (zn hZ z_6)) (fun _ h9 => h9) rfl d_X_odds_63 ?_
            refine lv_iload_n hx hb d_X_odds_66 rfl (lv_at hl 1 rfl) ?_
            obtain ⟨h_6, hw⟩ := hw
            refine va_iald hx hb hK hP 1 0 rfl rfl h_6 d_X_odds_67 ?_
            refine lv_aload_n hx hb d_X_odds_68 rfl (lv_at hl 0 rfl) ?_
            refine va_get (D := (dC, dI)) (ci := 0) (v := .ref q_slots) (C := R_X) (T := F_X) (N := 6) hx hb hts i_X hown hK hP 5 rfl rfl 0 (by decide) (hts _ k_15) (fun _ h9 => h9) rfl d_X_odds_69 ?_
            refine va_getN (D := (dC, dI)) (ci := 1) (v := .ref q_slots_below) (C := R_XS) (T := F_XS) (N := 6) hx hb hts i_XS hown hK hP 6 rfl rfl 2 (by decide) (va_Nw.use rfl (zn hZ z_7)) (fun _ h9 => h9) rfl d_X_odds_72 ?_
            refine lv_iload_n hx hb d_X_odds_75 rfl (lv_at hl 1 rfl) ?_
            obtain ⟨h_7, hw⟩ := hw
            refine va_iald hx hb hK hP 2 0 rfl rfl h_7 d_X_odds_76 ?_
            refine jn_v C0 hP hD hS [3, 4] [0, 1, 2, 5, 6] (ru_V C0 (As := [.int a_2, .int (v_slots_places a_1.toNatClampNeg), .int (v_slots_above a_1.toNatClampNeg), .int (v_slots_below a_1.toNatClampNeg)]) (rest := []) (c_XC_invite l hl9 dC dI cI cJ cZ q_chances q_chances_ways a_2 (v_slots_places a_1.toNatClampNeg) (v_slots_above a_1.toNatClampNeg) (v_slots_below a_1.toNatClampNeg) v_chances_ways _ hw _) k_102 k_121 k_104 k_105 k_41 (n9 := 4) (by decide +kernel) rfl (ci := 4) rfl rfl ⟨Nat.le_of_ble_eq_true rfl, Nat.le_of_ble_eq_true rfl⟩ hP hD hS [3, 4] rfl (by decide) hl.1 rfl (Nat.le_of_ble_eq_true rfl) d_X_odds_77 ⟨Nat.le_of_ble_eq_true rfl, Nat.le_of_ble_eq_true rfl⟩) rfl rfl (by decide) (by decide) (fun u H locs hw hP hD hS => ?_)
            obtain ⟨f_8, rfl⟩ : ∃ z9, z9 = u := ⟨_, rfl⟩
            try dsimp only at hw
            have hP : va_P (dC, dI) classes [(q_slots_places, .inl (cI, 8, .inl v_slots_places)), (q_slots_above, .inl (cI, 8, .inl v_slots_above)), (q_slots_below, .inl (cI, 8, .inl v_slots_below)), (q_0, .inr (0, [.ref q_slots, .ref q_tickets, .ref q_requests, .ref q_chances, .ref q_tariff, .ref q_doors])), (q_slots, .inr (1, [.ref q_slots_places, .ref q_slots_above, .ref q_slots_below, .ref q_slots_most, .ref q_slots_sold, .int v_slots_made])), (q_chances, .inr (4, [.ref q_chances_ways])), (q_chances_ways, .inl (cJ, 115, .inr (.inl f_8)))] H := hP
            have hD : va_D A [(q_slots_places, .inl (cI, 8, .inl v_slots_places)), (q_slots_above, .inl (cI, 8, .inl v_slots_above)), (q_slots_below, .inl (cI, 8, .inl v_slots_below)), (q_0, .inr (0, [.ref q_slots, .ref q_tickets, .ref q_requests, .ref q_chances, .ref q_tariff, .ref q_doors])), (q_slots, .inr (1, [.ref q_slots_places, .ref q_slots_above, .ref q_slots_below, .ref q_slots_most, .ref q_slots_sold, .int v_slots_made])), (q_chances, .inr (4, [.ref q_chances_ways])), (q_chances_ways, .inl (cJ, 115, .inr (.inl f_8)))] := hD
            refine lv_aload_n hx hb d_X_odds_80 rfl (lv_at hl 0 rfl) ?_
            refine va_get (D := (dC, dI)) (ci := 0) (v := .ref q_chances) (C := R_X) (T := F_X) (N := 6) hx hb hts i_X hown hK hP 3 rfl rfl 3 (by decide) (hts _ k_47) (fun _ h9 => h9) rfl d_X_odds_81 ?_
            refine lv_iload_n hx hb d_X_odds_84 rfl (lv_at hl 3 rfl) ?_
            refine jn_i C0 hP hD hS [5, 6] [0, 1, 2, 3, 4] (ru_V C0 (As := [.int a_3]) (rest := []) (c_XC_digitOfTooMany l hl9 dC dI cI cJ cZ q_chances q_chances_ways a_3 f_8 _ hw _) k_125 k_126 k_127 k_128 k_41 (n9 := 1) (by decide +kernel) rfl (ci := 4) rfl rfl ⟨Nat.le_of_ble_eq_true rfl, Nat.le_of_ble_eq_true rfl⟩ hP hD hS [5, 6] rfl (by decide) hl.1 rfl (Nat.le_of_ble_eq_true rfl) d_X_odds_85 ⟨Nat.le_of_ble_eq_true rfl, Nat.le_of_ble_eq_true rfl⟩) rfl rfl (by decide) (by decide) (fun r_9 u H locs hw hP hD hS => ?_)
            try dsimp only at hw
            have hP : va_P (dC, dI) classes [(q_slots_places, .inl (cI, 8, .inl v_slots_places)), (q_slots_above, .inl (cI, 8, .inl v_slots_above)), (q_slots_below, .inl (cI, 8, .inl v_slots_below)), (q_0, .inr (0, [.ref q_slots, .ref q_tickets, .ref q_requests, .ref q_chances, .ref q_tariff, .ref q_doors])), (q_slots, .inr (1, [.ref q_slots_places, .ref q_slots_above, .ref q_slots_below, .ref q_slots_most, .ref q_slots_sold, .int v_slots_made])), (q_chances, .inr (4, [.ref q_chances_ways])), (q_chances_ways, .inl (cJ, 115, .inr (.inl f_8)))] H := hP
            have hD : va_D A [(q_slots_places, .inl (cI, 8, .inl v_slots_places)), (q_slots_above, .inl (cI, 8, .inl v_slots_above)), (q_slots_below, .inl (cI, 8, .inl v_slots_below)), (q_0, .inr (0, [.ref q_slots, .ref q_tickets, .ref q_requests, .ref q_chances, .ref q_tariff, .ref q_doors])), (q_slots, .inr (1, [.ref q_slots_places, .ref q_slots_above, .ref q_slots_below, .ref q_slots_most, .ref q_slots_sold, .int v_slots_made])), (q_chances, .inr (4, [.ref q_chances_ways])), (q_chances_ways, .inl (cJ, 115, .inr (.inl f_8)))] := hD
            exact rx_i (u := f_8) C0 hw (hP.sub [3, 4, 0, 1, 2, 5, 6] rfl) (hD.sub [3, 4, 0, 1, 2, 5, 6] (by decide) rfl) hS hS.2.2 (by decide) (by decide) d_X_odds_88
          · have hw := hw.2 c_4
            exact thS_i C0 hEx ta_0 sb_5 hw hP0 hD0 hN hS.2.2 hl.1 (by decide) (by decide) (by decide) (by decide) d_X_odds_35 d_X_odds_38 d_X_odds_39 d_X_odds_41 d_X_odds_44
      · have hw := hw.2 c_2
        exact thS_i C0 hEx ta_2 sb_4 hw hP0 hD0 hN hS.2.2 hl.1 (by decide) (by decide) (by decide) (by decide) d_X_odds_15 d_X_odds_18 d_X_odds_19 d_X_odds_21 d_X_odds_24
theorem d_X_needKind_0 : decode b_X_needKind 0 = .ok (.iload_n 0, 1) := by decide +kernel
theorem d_X_needKind_1 : decode b_X_needKind 1 = .ok (.ifCond .lt 8, 3) := by decide +kernel
theorem d_X_needKind_4 : decode b_X_needKind 4 = .ok (.iload_n 0, 1) := by decide +kernel
theorem d_X_needKind_5 : decode b_X_needKind 5 = .ok (.iconst 5, 1) := by decide +kernel
theorem d_X_needKind_6 : decode b_X_needKind 6 = .ok (.if_icmp .lt 14, 3) := by decide +kernel
theorem d_X_needKind_9 : decode b_X_needKind 9 = .ok (.new 96, 3) := by decide +kernel
theorem d_X_needKind_12 : decode b_X_needKind 12 = .ok (.dup, 1) := by decide +kernel
theorem d_X_needKind_13 : decode b_X_needKind 13 = .ok (.ldc_w 261, 3) := by decide +kernel
theorem d_X_needKind_16 : decode b_X_needKind 16 = .ok (.invokespecial 100, 3) := by decide +kernel
theorem d_X_needKind_19 : decode b_X_needKind 19 = .ok (.athrow, 1) := by decide +kernel
theorem d_X_needKind_20 : decode b_X_needKind 20 = .ok (.return_, 1) := by decide +kernel
def wp_X_needKind (post : Unit → Prop) (px : String → Prop) (a_0 : Int32) : Prop := ((a_0 < 0 → px "java/lang/IndexOutOfBoundsException") ∧ (¬ (a_0 < 0) → ((a_0 < (5 : Int32) → post ()) ∧ (¬ (a_0 < (5 : Int32)) → px "java/lang/IndexOutOfBoundsException"))))
set_option maxHeartbeats 4000000 in
set_option maxRecDepth 100000 in
theorem c_X_needKind (l : Launch) (hl9 : l.stackTraces = false) (dC : Nat → ClassId) (dI : Nat → Nat → Nat) (cI cJ cZ : ClassId) (a_0 : Int32) (post : Unit → Prop) (px : String → Prop) (hw : wp_X_needKind post px a_0) : Kvx l y_X_needKind b_X_needKind 1 none ({ frames := 6, cells := 1, slots := 6, locals := 82 } : Room) dC dI cI cJ cZ [.int a_0] [] true px post (fun u : Unit => []) := by
  refine mkvx hl9 (own := R_X) rfl (by decide) ?_
  intro p e s m args below meth c A fr C0 hEx hfr hAe hnm eav hP hD
  subst hfr
  have hN : ∀ q ∈ ([] : List Loc), s.heap.size ≤ q.base := fun q h => by cases h
  have hP0 := hP
  have hD0 := hD
  obtain ⟨-, hx, hb, hml, hr, hown, hts, hlocks, hK, hZ, hA, hNS⟩ := id C0
  subst eav
  have hS : va_S A s.heap s.heap [] := va_S.rf
  have hl := lv_entry ([.int a_0]) (n := 1) (Nat.le_of_ble_eq_true rfl)
  rw [lg_entry_eq]
  generalize (lg_sl ([.int a_0]) ++ List.replicate (1 - (lg_sl ([.int a_0])).length) Slot.unset).toArray = ls at hl ⊢
  have hl : lv_has ls 1 [(0, .int a_0)] := hl
  unfold wp_X_needKind at hw
  refine lv_iload_n hx hb d_X_needKind_0 rfl (lv_at hl 0 rfl) ?_
  refine lv_if_lt (tgt := 9) hx hb d_X_needKind_1 (by decide) (fun c_1 => ?_) (fun c_1 => ?_)
  · have hw := hw.1 c_1
    exact thSW_v C0 hEx ta_2 sb_6 hw hP0 hD0 hN (fun q h => by cases h) hl.1 (by decide) (by decide) (by decide) (by decide) d_X_needKind_9 d_X_needKind_12 d_X_needKind_13 d_X_needKind_16 d_X_needKind_19
  · have hw := hw.2 c_1
    refine lv_iload_n hx hb d_X_needKind_4 rfl (lv_at hl 0 rfl) ?_
    refine lv_iconst (v := (5 : Int32)) hx hb d_X_needKind_5 (by decide) ?_
    refine lv_icmp_lt (tgt := 20) hx hb d_X_needKind_6 (by decide) (fun c_2 => ?_) (fun c_2 => ?_)
    · have hw := hw.1 c_2
      exact rx_v (u := ()) C0 hw hP hD hS (fun q h => by cases h) (by decide) (by decide) d_X_needKind_20
    · have hw := hw.2 c_2
      exact thSW_v C0 hEx ta_2 sb_6 hw hP0 hD0 hN (fun q h => by cases h) hl.1 (by decide) (by decide) (by decide) (by decide) d_X_needKind_9 d_X_needKind_12 d_X_needKind_13 d_X_needKind_16 d_X_needKind_19
theorem d_X_needGroup_0 : decode b_X_needGroup 0 = .ok (.iload_n 0, 1) := by decide +kernel
theorem d_X_needGroup_1 : decode b_X_needGroup 1 = .ok (.iconst 1, 1) := by decide +kernel
theorem d_X_needGroup_2 : decode b_X_needGroup 2 = .ok (.if_icmp .lt 9, 3) := by decide +kernel
theorem d_X_needGroup_5 : decode b_X_needGroup 5 = .ok (.iload_n 0, 1) := by decide +kernel
theorem d_X_needGroup_6 : decode b_X_needGroup 6 = .ok (.bipush 9, 2) := by decide +kernel
theorem d_X_needGroup_8 : decode b_X_needGroup 8 = .ok (.if_icmp .le 14, 3) := by decide +kernel
theorem d_X_needGroup_11 : decode b_X_needGroup 11 = .ok (.new 62, 3) := by decide +kernel
theorem d_X_needGroup_14 : decode b_X_needGroup 14 = .ok (.dup, 1) := by decide +kernel
theorem d_X_needGroup_15 : decode b_X_needGroup 15 = .ok (.ldc_w 263, 3) := by decide +kernel
theorem d_X_needGroup_18 : decode b_X_needGroup 18 = .ok (.invokespecial 66, 3) := by decide +kernel
theorem d_X_needGroup_21 : decode b_X_needGroup 21 = .ok (.athrow, 1) := by decide +kernel
theorem d_X_needGroup_22 : decode b_X_needGroup 22 = .ok (.return_, 1) := by decide +kernel
def wp_X_needGroup (post : Unit → Prop) (px : String → Prop) (a_0 : Int32) : Prop := ((a_0 < (1 : Int32) → px "java/lang/IllegalArgumentException") ∧ (¬ (a_0 < (1 : Int32)) → ((a_0 ≤ (9 : Int32) → post ()) ∧ (¬ (a_0 ≤ (9 : Int32)) → px "java/lang/IllegalArgumentException"))))
set_option maxHeartbeats 4000000 in
set_option maxRecDepth 100000 in
theorem c_X_needGroup (l : Launch) (hl9 : l.stackTraces = false) (dC : Nat → ClassId) (dI : Nat → Nat → Nat) (cI cJ cZ : ClassId) (a_0 : Int32) (post : Unit → Prop) (px : String → Prop) (hw : wp_X_needGroup post px a_0) : Kvx l y_X_needGroup b_X_needGroup 1 none ({ frames := 6, cells := 1, slots := 6, locals := 82 } : Room) dC dI cI cJ cZ [.int a_0] [] true px post (fun u : Unit => []) := by
  refine mkvx hl9 (own := R_X) rfl (by decide) ?_
  intro p e s m args below meth c A fr C0 hEx hfr hAe hnm eav hP hD
  subst hfr
  have hN : ∀ q ∈ ([] : List Loc), s.heap.size ≤ q.base := fun q h => by cases h
  have hP0 := hP
  have hD0 := hD
  obtain ⟨-, hx, hb, hml, hr, hown, hts, hlocks, hK, hZ, hA, hNS⟩ := id C0
  subst eav
  have hS : va_S A s.heap s.heap [] := va_S.rf
  have hl := lv_entry ([.int a_0]) (n := 1) (Nat.le_of_ble_eq_true rfl)
  rw [lg_entry_eq]
  generalize (lg_sl ([.int a_0]) ++ List.replicate (1 - (lg_sl ([.int a_0])).length) Slot.unset).toArray = ls at hl ⊢
  have hl : lv_has ls 1 [(0, .int a_0)] := hl
  unfold wp_X_needGroup at hw
  refine lv_iload_n hx hb d_X_needGroup_0 rfl (lv_at hl 0 rfl) ?_
  refine lv_iconst (v := (1 : Int32)) hx hb d_X_needGroup_1 (by decide) ?_
  refine lv_icmp_lt (tgt := 11) hx hb d_X_needGroup_2 (by decide) (fun c_1 => ?_) (fun c_1 => ?_)
  · have hw := hw.1 c_1
    exact thSW_v C0 hEx ta_0 sb_7 hw hP0 hD0 hN (fun q h => by cases h) hl.1 (by decide) (by decide) (by decide) (by decide) d_X_needGroup_11 d_X_needGroup_14 d_X_needGroup_15 d_X_needGroup_18 d_X_needGroup_21
  · have hw := hw.2 c_1
    refine lv_iload_n hx hb d_X_needGroup_5 rfl (lv_at hl 0 rfl) ?_
    refine lv_bipush (v := (9 : Int32)) hx hb d_X_needGroup_6 (by decide) ?_
    refine lv_icmp_le (tgt := 22) hx hb d_X_needGroup_8 (by decide) (fun c_2 => ?_) (fun c_2 => ?_)
    · have hw := hw.1 c_2
      exact rx_v (u := ()) C0 hw hP hD hS (fun q h => by cases h) (by decide) (by decide) d_X_needGroup_22
    · have hw := hw.2 c_2
      exact thSW_v C0 hEx ta_0 sb_7 hw hP0 hD0 hN (fun q h => by cases h) hl.1 (by decide) (by decide) (by decide) (by decide) d_X_needGroup_11 d_X_needGroup_14 d_X_needGroup_15 d_X_needGroup_18 d_X_needGroup_21
theorem d_X_issue_0 : decode b_X_issue 0 = .ok (.aload_n 0, 1) := by decide +kernel
theorem d_X_issue_1 : decode b_X_issue 1 = .ok (.getfield 10, 3) := by decide +kernel
theorem d_X_issue_4 : decode b_X_issue 4 = .ok (.getfield 141, 3) := by decide +kernel
theorem d_X_issue_7 : decode b_X_issue 7 = .ok (.iload_n 1, 1) := by decide +kernel
theorem d_X_issue_8 : decode b_X_issue 8 = .ok (.dup2, 1) := by decide +kernel
theorem d_X_issue_9 : decode b_X_issue 9 = .ok (.iaload, 1) := by decide +kernel
theorem d_X_issue_10 : decode b_X_issue 10 = .ok (.iload_n 2, 1) := by decide +kernel
theorem d_X_issue_11 : decode b_X_issue 11 = .ok (.iadd, 1) := by decide +kernel
theorem d_X_issue_12 : decode b_X_issue 12 = .ok (.iastore, 1) := by decide +kernel
theorem d_X_issue_13 : decode b_X_issue 13 = .ok (.aload_n 0, 1) := by decide +kernel
theorem d_X_issue_14 : decode b_X_issue 14 = .ok (.getfield 19, 3) := by decide +kernel
theorem d_X_issue_17 : decode b_X_issue 17 = .ok (.iload_n 1, 1) := by decide +kernel
theorem d_X_issue_18 : decode b_X_issue 18 = .ok (.iload_n 2, 1) := by decide +kernel
theorem d_X_issue_19 : decode b_X_issue 19 = .ok (.iload_n 3, 1) := by decide +kernel
theorem d_X_issue_20 : decode b_X_issue 20 = .ok (.invokevirtual 247, 3) := by decide +kernel
theorem d_X_issue_23 : decode b_X_issue 23 = .ok (.ireturn, 1) := by decide +kernel
def wp_X_issue (post : Int32 → ((Nat → Int32) × (Nat → Int32) × (Nat → Int32) × (Nat → Int32) × (Int32)) → Prop) (a_1 : Int32) (a_2 : Int32) (a_3 : Int32) (v_slots_sold : Nat → Int32) (v_tickets_slot : Nat → Int32) (v_tickets_guests : Nat → Int32) (v_tickets_kind : Nat → Int32) (v_tickets_made : Int32) : Prop := (vp_in a_1 8 ∧ (vp_in a_1 8 ∧ (∀ f_3 : Nat → Int32, f_3 = upd v_slots_sold a_1.toNatClampNeg ((v_slots_sold a_1.toNatClampNeg) + a_2) → wp_XT_add (fun r_4 u => match u with | (f_5, f_6, f_7, x_8) => post r_4 (f_3, f_5, f_6, f_7, x_8)) a_1 a_2 a_3 v_tickets_slot v_tickets_guests v_tickets_kind v_tickets_made)))
set_option maxHeartbeats 4000000 in
set_option maxRecDepth 100000 in
theorem c_X_issue (l : Launch) (hl9 : l.stackTraces = false) (dC : Nat → ClassId) (dI : Nat → Nat → Nat) (cI cJ cZ : ClassId) (q_0 q_slots q_slots_sold q_tickets q_tickets_slot q_tickets_guests q_tickets_kind q_requests q_chances q_tariff q_doors q_slots_places q_slots_above q_slots_below q_slots_most q_tickets_returned : Nat) (a_1 : Int32) (a_2 : Int32) (a_3 : Int32) (v_slots_sold : Nat → Int32) (v_slots_made : Int32) (v_tickets_slot : Nat → Int32) (v_tickets_guests : Nat → Int32) (v_tickets_kind : Nat → Int32) (v_tickets_made : Int32) (post : Int32 → ((Nat → Int32) × (Nat → Int32) × (Nat → Int32) × (Nat → Int32) × (Int32)) → Prop) (hw : wp_X_issue post a_1 a_2 a_3 v_slots_sold v_tickets_slot v_tickets_guests v_tickets_kind v_tickets_made) : Ki l y_X_issue b_X_issue 4 (some .int) ({ frames := 1, cells := 0, slots := 0, locals := 24 } : Room) dC dI cI cJ cZ [.ref q_0, .int a_1, .int a_2, .int a_3] [(q_0, .inr (0, [.ref q_slots, .ref q_tickets, .ref q_requests, .ref q_chances, .ref q_tariff, .ref q_doors])), (q_slots, .inr (1, [.ref q_slots_places, .ref q_slots_above, .ref q_slots_below, .ref q_slots_most, .ref q_slots_sold, .int v_slots_made])), (q_slots_sold, .inl (cI, 8, .inl v_slots_sold)), (q_tickets, .inr (2, [.ref q_tickets_slot, .ref q_tickets_guests, .ref q_tickets_kind, .ref q_tickets_returned, .int v_tickets_made])), (q_tickets_slot, .inl (cI, 60, .inl v_tickets_slot)), (q_tickets_guests, .inl (cI, 60, .inl v_tickets_guests)), (q_tickets_kind, .inl (cI, 60, .inl v_tickets_kind))] post (fun u : (Nat → Int32) × (Nat → Int32) × (Nat → Int32) × (Nat → Int32) × (Int32) => [(q_0, .inr (0, [.ref q_slots, .ref q_tickets, .ref q_requests, .ref q_chances, .ref q_tariff, .ref q_doors])), (q_slots, .inr (1, [.ref q_slots_places, .ref q_slots_above, .ref q_slots_below, .ref q_slots_most, .ref q_slots_sold, .int v_slots_made])), (q_slots_sold, .inl (cI, 8, .inl u.1)), (q_tickets, .inr (2, [.ref q_tickets_slot, .ref q_tickets_guests, .ref q_tickets_kind, .ref q_tickets_returned, .int u.2.2.2.2])), (q_tickets_slot, .inl (cI, 60, .inl u.2.1)), (q_tickets_guests, .inl (cI, 60, .inl u.2.2.1)), (q_tickets_kind, .inl (cI, 60, .inl u.2.2.2.1))]) := by
  refine mki hl9 (own := R_X) rfl (by decide) ?_
  intro p e s m args below meth c A C0 hnm eav hP hD
  obtain ⟨-, hx, hb, hml, hr, hown, hts, hlocks, hK, hZ, hA, hNS⟩ := id C0
  subst eav
  have hS : va_S A s.heap s.heap [] := va_S.rf
  have hl := lv_entry ([.ref q_0, .int a_1, .int a_2, .int a_3]) (n := 4) (Nat.le_of_ble_eq_true rfl)
  rw [lg_entry_eq]
  generalize (lg_sl ([.ref q_0, .int a_1, .int a_2, .int a_3]) ++ List.replicate (4 - (lg_sl ([.ref q_0, .int a_1, .int a_2, .int a_3])).length) Slot.unset).toArray = ls at hl ⊢
  have hl : lv_has ls 4 [(0, .ref q_0), (1, .int a_1), (2, .int a_2), (3, .int a_3)] := hl
  unfold wp_X_issue at hw
  refine lv_aload_n hx hb d_X_issue_0 rfl (lv_at hl 0 rfl) ?_
  refine va_get (D := (dC, dI)) (ci := 0) (v := .ref q_slots) (C := R_X) (T := F_X) (N := 6) hx hb hts i_X hown hK hP 0 rfl rfl 0 (by decide) (hts _ k_15) (fun _ h9 => h9) rfl d_X_issue_1 ?_
  refine va_getN (D := (dC, dI)) (ci := 1) (v := .ref q_slots_sold) (C := R_XS) (T := F_XS) (N := 6) hx hb hts i_XS hown hK hP 1 rfl rfl 4 (by decide) (va_Nw.use rfl (zn hZ z_12)) (fun _ h9 => h9) rfl d_X_issue_4 ?_
  refine lv_iload_n hx hb d_X_issue_7 rfl (lv_at hl 1 rfl) ?_
  refine lv_dup2_11 hx hb d_X_issue_8 rfl rfl ?_
  obtain ⟨h_1, hw⟩ := hw
  refine va_iald hx hb hK hP 2 0 rfl rfl h_1 d_X_issue_9 ?_
  refine lv_iload_n hx hb d_X_issue_10 rfl (lv_at hl 2 rfl) ?_
  refine lv_iadd hx hb d_X_issue_11 ?_
  obtain ⟨h_2, hw⟩ := hw
  refine va_iast hx hb hK hP hD hS 2 0 rfl rfl h_2 d_X_issue_12 (fun H locs hP hD hS => ?_)
  obtain ⟨f_3, ef_3⟩ : ∃ g : Nat → Int32, g = upd v_slots_sold a_1.toNatClampNeg ((v_slots_sold a_1.toNatClampNeg) + a_2) := ⟨_, rfl⟩
  have hw := hw f_3 ef_3
  have hP : va_P (dC, dI) classes [(q_0, .inr (0, [.ref q_slots, .ref q_tickets, .ref q_requests, .ref q_chances, .ref q_tariff, .ref q_doors])), (q_slots, .inr (1, [.ref q_slots_places, .ref q_slots_above, .ref q_slots_below, .ref q_slots_most, .ref q_slots_sold, .int v_slots_made])), (q_slots_sold, .inl (cI, 8, .inl f_3)), (q_tickets, .inr (2, [.ref q_tickets_slot, .ref q_tickets_guests, .ref q_tickets_kind, .ref q_tickets_returned, .int v_tickets_made])), (q_tickets_slot, .inl (cI, 60, .inl v_tickets_slot)), (q_tickets_guests, .inl (cI, 60, .inl v_tickets_guests)), (q_tickets_kind, .inl (cI, 60, .inl v_tickets_kind))] H := by rw [ef_3]; exact hP
  have hD : va_D A [(q_0, .inr (0, [.ref q_slots, .ref q_tickets, .ref q_requests, .ref q_chances, .ref q_tariff, .ref q_doors])), (q_slots, .inr (1, [.ref q_slots_places, .ref q_slots_above, .ref q_slots_below, .ref q_slots_most, .ref q_slots_sold, .int v_slots_made])), (q_slots_sold, .inl (cI, 8, .inl f_3)), (q_tickets, .inr (2, [.ref q_tickets_slot, .ref q_tickets_guests, .ref q_tickets_kind, .ref q_tickets_returned, .int v_tickets_made])), (q_tickets_slot, .inl (cI, 60, .inl v_tickets_slot)), (q_tickets_guests, .inl (cI, 60, .inl v_tickets_guests)), (q_tickets_kind, .inl (cI, 60, .inl v_tickets_kind))] := by rw [ef_3]; exact hD
  refine lv_aload_n hx hb d_X_issue_13 rfl (lv_at hl 0 rfl) ?_
  refine va_get (D := (dC, dI)) (ci := 0) (v := .ref q_tickets) (C := R_X) (T := F_X) (N := 6) hx hb hts i_X hown hK hP 0 rfl rfl 1 (by decide) (hts _ k_27) (fun _ h9 => h9) rfl d_X_issue_14 ?_
  refine lv_iload_n hx hb d_X_issue_17 rfl (lv_at hl 1 rfl) ?_
  refine lv_iload_n hx hb d_X_issue_18 rfl (lv_at hl 2 rfl) ?_
  refine lv_iload_n hx hb d_X_issue_19 rfl (lv_at hl 3 rfl) ?_
  refine jn_i C0 hP hD hS [3, 4, 5, 6] [0, 1, 2] (ru_V C0 (As := [.int a_1, .int a_2, .int a_3]) (rest := []) (c_XT_add l hl9 dC dI cI cJ cZ q_tickets q_tickets_slot q_tickets_guests q_tickets_kind q_tickets_returned a_1 a_2 a_3 v_tickets_slot v_tickets_guests v_tickets_kind v_tickets_made _ hw _) k_140 k_141 k_142 k_143 k_18 (n9 := 3) (by decide +kernel) rfl (ci := 2) rfl rfl ⟨Nat.le_of_ble_eq_true rfl, Nat.le_of_ble_eq_true rfl⟩ hP hD hS [3, 4, 5, 6] rfl (by decide) hl.1 rfl (Nat.le_of_ble_eq_true rfl) d_X_issue_20 ⟨Nat.le_of_ble_eq_true rfl, Nat.le_of_ble_eq_true rfl⟩) rfl rfl (by decide) (by decide) (fun r_4 u H locs hw hP hD hS => ?_)
  obtain ⟨f_5, f_6, f_7, x_8⟩ := u
  try dsimp only at hw
  have hP : va_P (dC, dI) classes [(q_0, .inr (0, [.ref q_slots, .ref q_tickets, .ref q_requests, .ref q_chances, .ref q_tariff, .ref q_doors])), (q_slots, .inr (1, [.ref q_slots_places, .ref q_slots_above, .ref q_slots_below, .ref q_slots_most, .ref q_slots_sold, .int v_slots_made])), (q_slots_sold, .inl (cI, 8, .inl f_3)), (q_tickets, .inr (2, [.ref q_tickets_slot, .ref q_tickets_guests, .ref q_tickets_kind, .ref q_tickets_returned, .int x_8])), (q_tickets_slot, .inl (cI, 60, .inl f_5)), (q_tickets_guests, .inl (cI, 60, .inl f_6)), (q_tickets_kind, .inl (cI, 60, .inl f_7))] H := hP
  have hD : va_D A [(q_0, .inr (0, [.ref q_slots, .ref q_tickets, .ref q_requests, .ref q_chances, .ref q_tariff, .ref q_doors])), (q_slots, .inr (1, [.ref q_slots_places, .ref q_slots_above, .ref q_slots_below, .ref q_slots_most, .ref q_slots_sold, .int v_slots_made])), (q_slots_sold, .inl (cI, 8, .inl f_3)), (q_tickets, .inr (2, [.ref q_tickets_slot, .ref q_tickets_guests, .ref q_tickets_kind, .ref q_tickets_returned, .int x_8])), (q_tickets_slot, .inl (cI, 60, .inl f_5)), (q_tickets_guests, .inl (cI, 60, .inl f_6)), (q_tickets_kind, .inl (cI, 60, .inl f_7))] := hD
  exact rt_i (u := (f_3, f_5, f_6, f_7, x_8)) C0 hw hP hD hS (by decide) (by decide) d_X_issue_23
theorem d_X_sell_0 : decode b_X_sell 0 = .ok (.aload_n 0, 1) := by decide +kernel
theorem d_X_sell_1 : decode b_X_sell 1 = .ok (.iload_n 1, 1) := by decide +kernel
theorem d_X_sell_2 : decode b_X_sell 2 = .ok (.invokevirtual 71, 3) := by decide +kernel
theorem d_X_sell_5 : decode b_X_sell 5 = .ok (.iload_n 3, 1) := by decide +kernel
theorem d_X_sell_6 : decode b_X_sell 6 = .ok (.invokestatic 110, 3) := by decide +kernel
theorem d_X_sell_9 : decode b_X_sell 9 = .ok (.aload_n 0, 1) := by decide +kernel
theorem d_X_sell_10 : decode b_X_sell 10 = .ok (.getfield 19, 3) := by decide +kernel
theorem d_X_sell_13 : decode b_X_sell 13 = .ok (.getfield 113, 3) := by decide +kernel
theorem d_X_sell_16 : decode b_X_sell 16 = .ok (.bipush 60, 2) := by decide +kernel
theorem d_X_sell_18 : decode b_X_sell 18 = .ok (.if_icmp .lt 13, 3) := by decide +kernel
theorem d_X_sell_21 : decode b_X_sell 21 = .ok (.new 55, 3) := by decide +kernel
theorem d_X_sell_24 : decode b_X_sell 24 = .ok (.dup, 1) := by decide +kernel
theorem d_X_sell_25 : decode b_X_sell 25 = .ok (.ldc 114, 2) := by decide +kernel
theorem d_X_sell_27 : decode b_X_sell 27 = .ok (.invokespecial 59, 3) := by decide +kernel
theorem d_X_sell_30 : decode b_X_sell 30 = .ok (.athrow, 1) := by decide +kernel
theorem d_X_sell_31 : decode b_X_sell 31 = .ok (.iload_n 2, 1) := by decide +kernel
theorem d_X_sell_32 : decode b_X_sell 32 = .ok (.invokestatic 116, 3) := by decide +kernel
theorem d_X_sell_35 : decode b_X_sell 35 = .ok (.aload_n 0, 1) := by decide +kernel
theorem d_X_sell_36 : decode b_X_sell 36 = .ok (.getfield 10, 3) := by decide +kernel
theorem d_X_sell_39 : decode b_X_sell 39 = .ok (.iload_n 1, 1) := by decide +kernel
theorem d_X_sell_40 : decode b_X_sell 40 = .ok (.iload_n 2, 1) := by decide +kernel
theorem d_X_sell_41 : decode b_X_sell 41 = .ok (.invokevirtual 119, 3) := by decide +kernel
theorem d_X_sell_44 : decode b_X_sell 44 = .ok (.ifCond .eq 13, 3) := by decide +kernel
theorem d_X_sell_47 : decode b_X_sell 47 = .ok (.aload_n 0, 1) := by decide +kernel
theorem d_X_sell_48 : decode b_X_sell 48 = .ok (.iload_n 1, 1) := by decide +kernel
theorem d_X_sell_49 : decode b_X_sell 49 = .ok (.iload_n 2, 1) := by decide +kernel
theorem d_X_sell_50 : decode b_X_sell 50 = .ok (.iload_n 3, 1) := by decide +kernel
theorem d_X_sell_51 : decode b_X_sell 51 = .ok (.invokevirtual 123, 3) := by decide +kernel
theorem d_X_sell_54 : decode b_X_sell 54 = .ok (.goto 4, 3) := by decide +kernel
theorem d_X_sell_57 : decode b_X_sell 57 = .ok (.iconst (-1), 1) := by decide +kernel
theorem d_X_sell_58 : decode b_X_sell 58 = .ok (.ireturn, 1) := by decide +kernel
def wp_X_sell (post : Int32 → ((Nat → Int32) × (Nat → Int32) × (Nat → Int32) × (Nat → Int32) × (Int32)) → Prop) (px : String → Prop) (a_1 : Int32) (a_2 : Int32) (a_3 : Int32) (v_slots_most : Nat → Int32) (v_slots_sold : Nat → Int32) (v_slots_made : Int32) (v_tickets_slot : Nat → Int32) (v_tickets_guests : Nat → Int32) (v_tickets_kind : Nat → Int32) (v_tickets_made : Int32) : Prop := wp_X_needSlot (fun _ => wp_X_needKind (fun _ => ((v_tickets_made < (60 : Int32) → wp_X_needGroup (fun _ => wp_XS_hasRoom (fun r_2 _ => ((r_2 = 0 → post (-1 : Int32) (v_slots_sold, v_tickets_slot, v_tickets_guests, v_tickets_kind, v_tickets_made)) ∧ (¬ (r_2 = 0) → wp_X_issue (fun r_4 u => match u with | (f_5, f_6, f_7, f_8, x_9) => post r_4 (f_5, f_6, f_7, f_8, x_9)) a_1 a_2 a_3 v_slots_sold v_tickets_slot v_tickets_guests v_tickets_kind v_tickets_made))) a_1 a_2 v_slots_most v_slots_sold) (px) a_2) ∧ (¬ (v_tickets_made < (60 : Int32)) → px "java/lang/IllegalStateException"))) (px) a_3) (px) a_1 v_slots_made
set_option maxHeartbeats 4000000 in
set_option maxRecDepth 100000 in
theorem c_X_sell (l : Launch) (hl9 : l.stackTraces = false) (dC : Nat → ClassId) (dI : Nat → Nat → Nat) (cI cJ cZ : ClassId) (q_0 q_slots q_slots_most q_slots_sold q_tickets q_tickets_slot q_tickets_guests q_tickets_kind q_requests q_chances q_tariff q_doors q_slots_places q_slots_above q_slots_below q_tickets_returned : Nat) (a_1 : Int32) (a_2 : Int32) (a_3 : Int32) (v_slots_most : Nat → Int32) (v_slots_sold : Nat → Int32) (v_slots_made : Int32) (v_tickets_slot : Nat → Int32) (v_tickets_guests : Nat → Int32) (v_tickets_kind : Nat → Int32) (v_tickets_made : Int32) (post : Int32 → ((Nat → Int32) × (Nat → Int32) × (Nat → Int32) × (Nat → Int32) × (Int32)) → Prop) (px : String → Prop) (hw : wp_X_sell post px a_1 a_2 a_3 v_slots_most v_slots_sold v_slots_made v_tickets_slot v_tickets_guests v_tickets_kind v_tickets_made) : Kix l y_X_sell b_X_sell 4 (some .int) ({ frames := 7, cells := 1, slots := 6, locals := 103 } : Room) dC dI cI cJ cZ [.ref q_0, .int a_1, .int a_2, .int a_3] [(q_0, .inr (0, [.ref q_slots, .ref q_tickets, .ref q_requests, .ref q_chances, .ref q_tariff, .ref q_doors])), (q_slots, .inr (1, [.ref q_slots_places, .ref q_slots_above, .ref q_slots_below, .ref q_slots_most, .ref q_slots_sold, .int v_slots_made])), (q_slots_most, .inl (cI, 8, .inl v_slots_most)), (q_slots_sold, .inl (cI, 8, .inl v_slots_sold)), (q_tickets, .inr (2, [.ref q_tickets_slot, .ref q_tickets_guests, .ref q_tickets_kind, .ref q_tickets_returned, .int v_tickets_made])), (q_tickets_slot, .inl (cI, 60, .inl v_tickets_slot)), (q_tickets_guests, .inl (cI, 60, .inl v_tickets_guests)), (q_tickets_kind, .inl (cI, 60, .inl v_tickets_kind))] false px post (fun u : (Nat → Int32) × (Nat → Int32) × (Nat → Int32) × (Nat → Int32) × (Int32) => [(q_0, .inr (0, [.ref q_slots, .ref q_tickets, .ref q_requests, .ref q_chances, .ref q_tariff, .ref q_doors])), (q_slots, .inr (1, [.ref q_slots_places, .ref q_slots_above, .ref q_slots_below, .ref q_slots_most, .ref q_slots_sold, .int v_slots_made])), (q_slots_most, .inl (cI, 8, .inl v_slots_most)), (q_slots_sold, .inl (cI, 8, .inl u.1)), (q_tickets, .inr (2, [.ref q_tickets_slot, .ref q_tickets_guests, .ref q_tickets_kind, .ref q_tickets_returned, .int u.2.2.2.2])), (q_tickets_slot, .inl (cI, 60, .inl u.2.1)), (q_tickets_guests, .inl (cI, 60, .inl u.2.2.1)), (q_tickets_kind, .inl (cI, 60, .inl u.2.2.2.1))]) := by
  refine mkix hl9 (own := R_X) rfl (by decide) ?_
  intro p e s m args below meth c A fr C0 hEx hfr hAe hnm eav hP hD
  obtain rfl : A = fr := (hfr.trans hAe.symm).symm
  have hN : ∀ q ∈ ([] : List Loc), s.heap.size ≤ q.base := fun q h => by cases h
  have hP0 := hP
  have hD0 := hD
  obtain ⟨-, hx, hb, hml, hr, hown, hts, hlocks, hK, hZ, hA, hNS⟩ := id C0
  subst eav
  have hS : va_S A s.heap s.heap [] := va_S.rf
  have hl := lv_entry ([.ref q_0, .int a_1, .int a_2, .int a_3]) (n := 4) (Nat.le_of_ble_eq_true rfl)
  rw [lg_entry_eq]
  generalize (lg_sl ([.ref q_0, .int a_1, .int a_2, .int a_3]) ++ List.replicate (4 - (lg_sl ([.ref q_0, .int a_1, .int a_2, .int a_3])).length) Slot.unset).toArray = ls at hl ⊢
  have hl : lv_has ls 4 [(0, .ref q_0), (1, .int a_1), (2, .int a_2), (3, .int a_3)] := hl
  unfold wp_X_sell at hw
  refine lv_aload_n hx hb d_X_sell_0 rfl (lv_at hl 0 rfl) ?_
  refine lv_iload_n hx hb d_X_sell_1 rfl (lv_at hl 1 rfl) ?_
  refine jxn_v C0 hP hD hS hN [0, 1] [2, 3, 4, 5, 6, 7] (ru_Vx C0 (As := [.int a_1]) (rest := []) (c_X_needSlot l hl9 dC dI cI cJ cZ q_0 q_slots q_tickets q_requests q_chances q_tariff q_doors q_slots_places q_slots_above q_slots_below q_slots_most q_slots_sold a_1 v_slots_made _ _ hw _) k_82 k_83 k_84 k_85 k_86 (n9 := 1) (by decide +kernel) rfl (ci := 0) rfl rfl ⟨Nat.le_of_ble_eq_true rfl, Nat.le_of_ble_eq_true rfl⟩ hP hD hS [0, 1] rfl (by decide) hl.1 rfl (Nat.le_of_ble_eq_true rfl) d_X_sell_2 ⟨Nat.le_of_ble_eq_true rfl, Nat.le_of_ble_eq_true rfl⟩) rfl rfl (by decide) (by decide) (fun E ce q9 H locs hw hP hD hS hN hce hcv hcl => ?_) (fun u H locs hw hP hD hS hN => ?_)
  · exact xoi C0 hEx hw (hP.sub [6, 7, 0, 1, 2, 3, 4, 5] rfl) (hD.sub [6, 7, 0, 1, 2, 3, 4, 5] (by decide) rfl) hS hS.2.2 hce hcv hcl (by decide) (by decide)
  · try dsimp only at hw
    have hP : va_P (dC, dI) classes [(q_slots_most, .inl (cI, 8, .inl v_slots_most)), (q_slots_sold, .inl (cI, 8, .inl v_slots_sold)), (q_tickets, .inr (2, [.ref q_tickets_slot, .ref q_tickets_guests, .ref q_tickets_kind, .ref q_tickets_returned, .int v_tickets_made])), (q_tickets_slot, .inl (cI, 60, .inl v_tickets_slot)), (q_tickets_guests, .inl (cI, 60, .inl v_tickets_guests)), (q_tickets_kind, .inl (cI, 60, .inl v_tickets_kind)), (q_0, .inr (0, [.ref q_slots, .ref q_tickets, .ref q_requests, .ref q_chances, .ref q_tariff, .ref q_doors])), (q_slots, .inr (1, [.ref q_slots_places, .ref q_slots_above, .ref q_slots_below, .ref q_slots_most, .ref q_slots_sold, .int v_slots_made]))] H := hP
    have hD : va_D A [(q_slots_most, .inl (cI, 8, .inl v_slots_most)), (q_slots_sold, .inl (cI, 8, .inl v_slots_sold)), (q_tickets, .inr (2, [.ref q_tickets_slot, .ref q_tickets_guests, .ref q_tickets_kind, .ref q_tickets_returned, .int v_tickets_made])), (q_tickets_slot, .inl (cI, 60, .inl v_tickets_slot)), (q_tickets_guests, .inl (cI, 60, .inl v_tickets_guests)), (q_tickets_kind, .inl (cI, 60, .inl v_tickets_kind)), (q_0, .inr (0, [.ref q_slots, .ref q_tickets, .ref q_requests, .ref q_chances, .ref q_tariff, .ref q_doors])), (q_slots, .inr (1, [.ref q_slots_places, .ref q_slots_above, .ref q_slots_below, .ref q_slots_most, .ref q_slots_sold, .int v_slots_made]))] := hD
    refine lv_iload_n hx hb d_X_sell_5 rfl (lv_at hl 3 rfl) ?_
    refine jxn_v C0 hP hD hS hN [] [0, 1, 2, 3, 4, 5, 6, 7] (ru_Sx C0 (As := [.int a_3]) (rest := []) (c_X_needKind l hl9 dC dI cI cJ cZ a_3 _ _ hw _) k_129 k_130 k_131 k_86 (n9 := 1) (by decide +kernel) rfl ⟨Nat.le_of_ble_eq_true rfl, Nat.le_of_ble_eq_true rfl⟩ hP hD hS [] rfl (by decide) hl.1 rfl (Nat.le_of_ble_eq_true rfl) d_X_sell_6 ⟨Nat.le_of_ble_eq_true rfl, Nat.le_of_ble_eq_true rfl⟩) rfl rfl (by decide) (by decide) (fun E ce q9 H locs hw hP hD hS hN hce hcv hcl => ?_) (fun u H locs hw hP hD hS hN => ?_)
    · exact xoi C0 hEx hw (hP.sub [6, 7, 0, 1, 2, 3, 4, 5] rfl) (hD.sub [6, 7, 0, 1, 2, 3, 4, 5] (by decide) rfl) hS hS.2.2 hce hcv hcl (by decide) (by decide)
    · try dsimp only at hw
      have hP : va_P (dC, dI) classes [(q_slots_most, .inl (cI, 8, .inl v_slots_most)), (q_slots_sold, .inl (cI, 8, .inl v_slots_sold)), (q_tickets, .inr (2, [.ref q_tickets_slot, .ref q_tickets_guests, .ref q_tickets_kind, .ref q_tickets_returned, .int v_tickets_made])), (q_tickets_slot, .inl (cI, 60, .inl v_tickets_slot)), (q_tickets_guests, .inl (cI, 60, .inl v_tickets_guests)), (q_tickets_kind, .inl (cI, 60, .inl v_tickets_kind)), (q_0, .inr (0, [.ref q_slots, .ref q_tickets, .ref q_requests, .ref q_chances, .ref q_tariff, .ref q_doors])), (q_slots, .inr (1, [.ref q_slots_places, .ref q_slots_above, .ref q_slots_below, .ref q_slots_most, .ref q_slots_sold, .int v_slots_made]))] H := hP
      have hD : va_D A [(q_slots_most, .inl (cI, 8, .inl v_slots_most)), (q_slots_sold, .inl (cI, 8, .inl v_slots_sold)), (q_tickets, .inr (2, [.ref q_tickets_slot, .ref q_tickets_guests, .ref q_tickets_kind, .ref q_tickets_returned, .int v_tickets_made])), (q_tickets_slot, .inl (cI, 60, .inl v_tickets_slot)), (q_tickets_guests, .inl (cI, 60, .inl v_tickets_guests)), (q_tickets_kind, .inl (cI, 60, .inl v_tickets_kind)), (q_0, .inr (0, [.ref q_slots, .ref q_tickets, .ref q_requests, .ref q_chances, .ref q_tariff, .ref q_doors])), (q_slots, .inr (1, [.ref q_slots_places, .ref q_slots_above, .ref q_slots_below, .ref q_slots_most, .ref q_slots_sold, .int v_slots_made]))] := hD
      refine lv_aload_n hx hb d_X_sell_9 rfl (lv_at hl 0 rfl) ?_
      refine va_get (D := (dC, dI)) (ci := 0) (v := .ref q_tickets) (C := R_X) (T := F_X) (N := 6) hx hb hts i_X hown hK hP 6 rfl rfl 1 (by decide) (hts _ k_27) (fun _ h9 => h9) rfl d_X_sell_10 ?_
      refine va_getN (D := (dC, dI)) (ci := 2) (v := .int v_tickets_made) (C := R_XT) (T := F_XT) (N := 5) hx hb hts i_XT hown hK hP 2 rfl rfl 4 (by decide) (va_Nw.use rfl (zn hZ z_11)) (fun _ h9 => h9) rfl d_X_sell_13 ?_
      refine lv_bipush (v := (60 : Int32)) hx hb d_X_sell_16 (by decide) ?_
      refine lv_icmp_lt (tgt := 31) hx hb d_X_sell_18 (by decide) (fun c_1 => ?_) (fun c_1 => ?_)
      · have hw := hw.1 c_1
        refine lv_iload_n hx hb d_X_sell_31 rfl (lv_at hl 2 rfl) ?_
        refine jxn_v C0 hP hD hS hN [] [0, 1, 2, 3, 4, 5, 6, 7] (ru_Sx C0 (As := [.int a_2]) (rest := []) (c_X_needGroup l hl9 dC dI cI cJ cZ a_2 _ _ hw _) k_132 k_133 k_134 k_86 (n9 := 1) (by decide +kernel) rfl ⟨Nat.le_of_ble_eq_true rfl, Nat.le_of_ble_eq_true rfl⟩ hP hD hS [] rfl (by decide) hl.1 rfl (Nat.le_of_ble_eq_true rfl) d_X_sell_32 ⟨Nat.le_of_ble_eq_true rfl, Nat.le_of_ble_eq_true rfl⟩) rfl rfl (by decide) (by decide) (fun E ce q9 H locs hw hP hD hS hN hce hcv hcl => ?_) (fun u H locs hw hP hD hS hN => ?_)
        · exact xoi C0 hEx hw (hP.sub [6, 7, 0, 1, 2, 3, 4, 5] rfl) (hD.sub [6, 7, 0, 1, 2, 3, 4, 5] (by decide) rfl) hS hS.2.2 hce hcv hcl (by decide) (by decide)
        · try dsimp only at hw
          have hP : va_P (dC, dI) classes [(q_slots_most, .inl (cI, 8, .inl v_slots_most)), (q_slots_sold, .inl (cI, 8, .inl v_slots_sold)), (q_tickets, .inr (2, [.ref q_tickets_slot, .ref q_tickets_guests, .ref q_tickets_kind, .ref q_tickets_returned, .int v_tickets_made])), (q_tickets_slot, .inl (cI, 60, .inl v_tickets_slot)), (q_tickets_guests, .inl (cI, 60, .inl v_tickets_guests)), (q_tickets_kind, .inl (cI, 60, .inl v_tickets_kind)), (q_0, .inr (0, [.ref q_slots, .ref q_tickets, .ref q_requests, .ref q_chances, .ref q_tariff, .ref q_doors])), (q_slots, .inr (1, [.ref q_slots_places, .ref q_slots_above, .ref q_slots_below, .ref q_slots_most, .ref q_slots_sold, .int v_slots_made]))] H := hP
          have hD : va_D A [(q_slots_most, .inl (cI, 8, .inl v_slots_most)), (q_slots_sold, .inl (cI, 8, .inl v_slots_sold)), (q_tickets, .inr (2, [.ref q_tickets_slot, .ref q_tickets_guests, .ref q_tickets_kind, .ref q_tickets_returned, .int v_tickets_made])), (q_tickets_slot, .inl (cI, 60, .inl v_tickets_slot)), (q_tickets_guests, .inl (cI, 60, .inl v_tickets_guests)), (q_tickets_kind, .inl (cI, 60, .inl v_tickets_kind)), (q_0, .inr (0, [.ref q_slots, .ref q_tickets, .ref q_requests, .ref q_chances, .ref q_tariff, .ref q_doors])), (q_slots, .inr (1, [.ref q_slots_places, .ref q_slots_above, .ref q_slots_below, .ref q_slots_most, .ref q_slots_sold, .int v_slots_made]))] := hD
          refine lv_aload_n hx hb d_X_sell_35 rfl (lv_at hl 0 rfl) ?_
          refine va_get (D := (dC, dI)) (ci := 0) (v := .ref q_slots) (C := R_X) (T := F_X) (N := 6) hx hb hts i_X hown hK hP 6 rfl rfl 0 (by decide) (hts _ k_15) (fun _ h9 => h9) rfl d_X_sell_36 ?_
          refine lv_iload_n hx hb d_X_sell_39 rfl (lv_at hl 1 rfl) ?_
          refine lv_iload_n hx hb d_X_sell_40 rfl (lv_at hl 2 rfl) ?_
          refine jn_i C0 hP hD hS [7, 0, 1] [2, 3, 4, 5, 6] (ru_V C0 (As := [.int a_1, .int a_2]) (rest := []) (c_XS_hasRoom l hl9 dC dI cI cJ cZ q_slots q_slots_most q_slots_sold q_slots_places q_slots_above q_slots_below a_1 a_2 v_slots_most v_slots_sold v_slots_made _ hw _) k_135 k_136 k_137 k_138 k_5 (n9 := 2) (by decide +kernel) rfl (ci := 1) rfl rfl ⟨Nat.le_of_ble_eq_true rfl, Nat.le_of_ble_eq_true rfl⟩ hP hD hS [7, 0, 1] rfl (by decide) hl.1 rfl (Nat.le_of_ble_eq_true rfl) d_X_sell_41 ⟨Nat.le_of_ble_eq_true rfl, Nat.le_of_ble_eq_true rfl⟩) rfl rfl (by decide) (by decide) (fun r_2 u H locs hw hP hD hS => ?_)
          try dsimp only at hw
          have hP : va_P (dC, dI) classes [(q_tickets, .inr (2, [.ref q_tickets_slot, .ref q_tickets_guests, .ref q_tickets_kind, .ref q_tickets_returned, .int v_tickets_made])), (q_tickets_slot, .inl (cI, 60, .inl v_tickets_slot)), (q_tickets_guests, .inl (cI, 60, .inl v_tickets_guests)), (q_tickets_kind, .inl (cI, 60, .inl v_tickets_kind)), (q_0, .inr (0, [.ref q_slots, .ref q_tickets, .ref q_requests, .ref q_chances, .ref q_tariff, .ref q_doors])), (q_slots, .inr (1, [.ref q_slots_places, .ref q_slots_above, .ref q_slots_below, .ref q_slots_most, .ref q_slots_sold, .int v_slots_made])), (q_slots_most, .inl (cI, 8, .inl v_slots_most)), (q_slots_sold, .inl (cI, 8, .inl v_slots_sold))] H := hP
          have hD : va_D A [(q_tickets, .inr (2, [.ref q_tickets_slot, .ref q_tickets_guests, .ref q_tickets_kind, .ref q_tickets_returned, .int v_tickets_made])), (q_tickets_slot, .inl (cI, 60, .inl v_tickets_slot)), (q_tickets_guests, .inl (cI, 60, .inl v_tickets_guests)), (q_tickets_kind, .inl (cI, 60, .inl v_tickets_kind)), (q_0, .inr (0, [.ref q_slots, .ref q_tickets, .ref q_requests, .ref q_chances, .ref q_tariff, .ref q_doors])), (q_slots, .inr (1, [.ref q_slots_places, .ref q_slots_above, .ref q_slots_below, .ref q_slots_most, .ref q_slots_sold, .int v_slots_made])), (q_slots_most, .inl (cI, 8, .inl v_slots_most)), (q_slots_sold, .inl (cI, 8, .inl v_slots_sold))] := hD
          refine lv_if_eq (tgt := 57) hx hb d_X_sell_44 (by decide) (fun c_3 => ?_) (fun c_3 => ?_)
          · have hw := hw.1 c_3
            refine lv_iconst (v := (-1 : Int32)) hx hb d_X_sell_57 (by decide) ?_
            exact rx_i (u := (v_slots_sold, v_tickets_slot, v_tickets_guests, v_tickets_kind, v_tickets_made)) C0 hw (hP.sub [4, 5, 6, 7, 0, 1, 2, 3] rfl) (hD.sub [4, 5, 6, 7, 0, 1, 2, 3] (by decide) rfl) hS hS.2.2 (by decide) (by decide) d_X_sell_58
          · have hw := hw.2 c_3
            refine lv_aload_n hx hb d_X_sell_47 rfl (lv_at hl 0 rfl) ?_
            refine lv_iload_n hx hb d_X_sell_48 rfl (lv_at hl 1 rfl) ?_
            refine lv_iload_n hx hb d_X_sell_49 rfl (lv_at hl 2 rfl) ?_
            refine lv_iload_n hx hb d_X_sell_50 rfl (lv_at hl 3 rfl) ?_
            refine jn_i C0 hP hD hS [4, 5, 7, 0, 1, 2, 3] [6] (ru_V C0 (As := [.int a_1, .int a_2, .int a_3]) (rest := []) (c_X_issue l hl9 dC dI cI cJ cZ q_0 q_slots q_slots_sold q_tickets q_tickets_slot q_tickets_guests q_tickets_kind q_requests q_chances q_tariff q_doors q_slots_places q_slots_above q_slots_below q_slots_most q_tickets_returned a_1 a_2 a_3 v_slots_sold v_slots_made v_tickets_slot v_tickets_guests v_tickets_kind v_tickets_made _ hw _) k_144 k_145 k_146 k_147 k_86 (n9 := 3) (by decide +kernel) rfl (ci := 0) rfl rfl ⟨Nat.le_of_ble_eq_true rfl, Nat.le_of_ble_eq_true rfl⟩ hP hD hS [4, 5, 7, 0, 1, 2, 3] rfl (by decide) hl.1 rfl (Nat.le_of_ble_eq_true rfl) d_X_sell_51 ⟨Nat.le_of_ble_eq_true rfl, Nat.le_of_ble_eq_true rfl⟩) rfl rfl (by decide) (by decide) (fun r_4 u H locs hw hP hD hS => ?_)
            obtain ⟨f_5, f_6, f_7, f_8, x_9⟩ := u
            try dsimp only at hw
            have hP : va_P (dC, dI) classes [(q_slots_most, .inl (cI, 8, .inl v_slots_most)), (q_0, .inr (0, [.ref q_slots, .ref q_tickets, .ref q_requests, .ref q_chances, .ref q_tariff, .ref q_doors])), (q_slots, .inr (1, [.ref q_slots_places, .ref q_slots_above, .ref q_slots_below, .ref q_slots_most, .ref q_slots_sold, .int v_slots_made])), (q_slots_sold, .inl (cI, 8, .inl f_5)), (q_tickets, .inr (2, [.ref q_tickets_slot, .ref q_tickets_guests, .ref q_tickets_kind, .ref q_tickets_returned, .int x_9])), (q_tickets_slot, .inl (cI, 60, .inl f_6)), (q_tickets_guests, .inl (cI, 60, .inl f_7)), (q_tickets_kind, .inl (cI, 60, .inl f_8))] H := hP
            have hD : va_D A [(q_slots_most, .inl (cI, 8, .inl v_slots_most)), (q_0, .inr (0, [.ref q_slots, .ref q_tickets, .ref q_requests, .ref q_chances, .ref q_tariff, .ref q_doors])), (q_slots, .inr (1, [.ref q_slots_places, .ref q_slots_above, .ref q_slots_below, .ref q_slots_most, .ref q_slots_sold, .int v_slots_made])), (q_slots_sold, .inl (cI, 8, .inl f_5)), (q_tickets, .inr (2, [.ref q_tickets_slot, .ref q_tickets_guests, .ref q_tickets_kind, .ref q_tickets_returned, .int x_9])), (q_tickets_slot, .inl (cI, 60, .inl f_6)), (q_tickets_guests, .inl (cI, 60, .inl f_7)), (q_tickets_kind, .inl (cI, 60, .inl f_8))] := hD
            refine lv_goto (tgt := 58) hx hb d_X_sell_54 (by decide) ?_
            exact rx_i (u := (f_5, f_6, f_7, f_8, x_9)) C0 hw (hP.sub [1, 2, 0, 3, 4, 5, 6, 7] rfl) (hD.sub [1, 2, 0, 3, 4, 5, 6, 7] (by decide) rfl) hS hS.2.2 (by decide) (by decide) d_X_sell_58
      · have hw := hw.2 c_1
        exact thS_i C0 hEx ta_1 sb_8 hw hP0 hD0 hN hS.2.2 hl.1 (by decide) (by decide) (by decide) (by decide) d_X_sell_21 d_X_sell_24 d_X_sell_25 d_X_sell_27 d_X_sell_30
theorem d_X_needTicket_0 : decode b_X_needTicket 0 = .ok (.iload_n 1, 1) := by decide +kernel
theorem d_X_needTicket_1 : decode b_X_needTicket 1 = .ok (.ifCond .lt 14, 3) := by decide +kernel
theorem d_X_needTicket_4 : decode b_X_needTicket 4 = .ok (.iload_n 1, 1) := by decide +kernel
theorem d_X_needTicket_5 : decode b_X_needTicket 5 = .ok (.aload_n 0, 1) := by decide +kernel
theorem d_X_needTicket_6 : decode b_X_needTicket 6 = .ok (.getfield 19, 3) := by decide +kernel
theorem d_X_needTicket_9 : decode b_X_needTicket 9 = .ok (.getfield 113, 3) := by decide +kernel
theorem d_X_needTicket_12 : decode b_X_needTicket 12 = .ok (.if_icmp .lt 14, 3) := by decide +kernel
theorem d_X_needTicket_15 : decode b_X_needTicket 15 = .ok (.new 96, 3) := by decide +kernel
theorem d_X_needTicket_18 : decode b_X_needTicket 18 = .ok (.dup, 1) := by decide +kernel
theorem d_X_needTicket_19 : decode b_X_needTicket 19 = .ok (.ldc_w 259, 3) := by decide +kernel
theorem d_X_needTicket_22 : decode b_X_needTicket 22 = .ok (.invokespecial 100, 3) := by decide +kernel
theorem d_X_needTicket_25 : decode b_X_needTicket 25 = .ok (.athrow, 1) := by decide +kernel
theorem d_X_needTicket_26 : decode b_X_needTicket 26 = .ok (.return_, 1) := by decide +kernel
def wp_X_needTicket (post : Unit → Prop) (px : String → Prop) (a_1 : Int32) (v_tickets_made : Int32) : Prop := ((a_1 < 0 → px "java/lang/IndexOutOfBoundsException") ∧ (¬ (a_1 < 0) → ((a_1 < v_tickets_made → post ()) ∧ (¬ (a_1 < v_tickets_made) → px "java/lang/IndexOutOfBoundsException"))))
set_option maxHeartbeats 4000000 in
set_option maxRecDepth 100000 in
theorem c_X_needTicket (l : Launch) (hl9 : l.stackTraces = false) (dC : Nat → ClassId) (dI : Nat → Nat → Nat) (cI cJ cZ : ClassId) (q_0 q_tickets q_slots q_requests q_chances q_tariff q_doors q_tickets_slot q_tickets_guests q_tickets_kind q_tickets_returned : Nat) (a_1 : Int32) (v_tickets_made : Int32) (post : Unit → Prop) (px : String → Prop) (hw : wp_X_needTicket post px a_1 v_tickets_made) : Kvx l y_X_needTicket b_X_needTicket 2 none ({ frames := 6, cells := 1, slots := 6, locals := 82 } : Room) dC dI cI cJ cZ [.ref q_0, .int a_1] [(q_0, .inr (0, [.ref q_slots, .ref q_tickets, .ref q_requests, .ref q_chances, .ref q_tariff, .ref q_doors])), (q_tickets, .inr (2, [.ref q_tickets_slot, .ref q_tickets_guests, .ref q_tickets_kind, .ref q_tickets_returned, .int v_tickets_made]))] true px post (fun u : Unit => [(q_0, .inr (0, [.ref q_slots, .ref q_tickets, .ref q_requests, .ref q_chances, .ref q_tariff, .ref q_doors])), (q_tickets, .inr (2, [.ref q_tickets_slot, .ref q_tickets_guests, .ref q_tickets_kind, .ref q_tickets_returned, .int v_tickets_made]))]) := by
  refine mkvx hl9 (own := R_X) rfl (by decide) ?_
  intro p e s m args below meth c A fr C0 hEx hfr hAe hnm eav hP hD
  subst hfr
  have hN : ∀ q ∈ ([] : List Loc), s.heap.size ≤ q.base := fun q h => by cases h
  have hP0 := hP
  have hD0 := hD
  obtain ⟨-, hx, hb, hml, hr, hown, hts, hlocks, hK, hZ, hA, hNS⟩ := id C0
  subst eav
  have hS : va_S A s.heap s.heap [] := va_S.rf
  have hl := lv_entry ([.ref q_0, .int a_1]) (n := 2) (Nat.le_of_ble_eq_true rfl)
  rw [lg_entry_eq]
  generalize (lg_sl ([.ref q_0, .int a_1]) ++ List.replicate (2 - (lg_sl ([.ref q_0, .int a_1])).length) Slot.unset).toArray = ls at hl ⊢
  have hl : lv_has ls 2 [(0, .ref q_0), (1, .int a_1)] := hl
  unfold wp_X_needTicket at hw
  refine lv_iload_n hx hb d_X_needTicket_0 rfl (lv_at hl 1 rfl) ?_
  refine lv_if_lt (tgt := 15) hx hb d_X_needTicket_1 (by decide) (fun c_1 => ?_) (fun c_1 => ?_)
  · have hw := hw.1 c_1
    exact thSW_v C0 hEx ta_2 sb_9 hw hP0 hD0 hN (fun q h => by cases h) hl.1 (by decide) (by decide) (by decide) (by decide) d_X_needTicket_15 d_X_needTicket_18 d_X_needTicket_19 d_X_needTicket_22 d_X_needTicket_25
  · have hw := hw.2 c_1
    refine lv_iload_n hx hb d_X_needTicket_4 rfl (lv_at hl 1 rfl) ?_
    refine lv_aload_n hx hb d_X_needTicket_5 rfl (lv_at hl 0 rfl) ?_
    refine va_get (D := (dC, dI)) (ci := 0) (v := .ref q_tickets) (C := R_X) (T := F_X) (N := 6) hx hb hts i_X hown hK hP 0 rfl rfl 1 (by decide) (hts _ k_27) (fun _ h9 => h9) rfl d_X_needTicket_6 ?_
    refine va_getN (D := (dC, dI)) (ci := 2) (v := .int v_tickets_made) (C := R_XT) (T := F_XT) (N := 5) hx hb hts i_XT hown hK hP 1 rfl rfl 4 (by decide) (va_Nw.use rfl (zn hZ z_11)) (fun _ h9 => h9) rfl d_X_needTicket_9 ?_
    refine lv_icmp_lt (tgt := 26) hx hb d_X_needTicket_12 (by decide) (fun c_2 => ?_) (fun c_2 => ?_)
    · have hw := hw.1 c_2
      exact rx_v (u := ()) C0 hw hP hD hS (fun q h => by cases h) (by decide) (by decide) d_X_needTicket_26
    · have hw := hw.2 c_2
      exact thSW_v C0 hEx ta_2 sb_9 hw hP0 hD0 hN (fun q h => by cases h) hl.1 (by decide) (by decide) (by decide) (by decide) d_X_needTicket_15 d_X_needTicket_18 d_X_needTicket_19 d_X_needTicket_22 d_X_needTicket_25
theorem d_X_serveWaiting_0 : decode b_X_serveWaiting 0 = .ok (.iconst 0, 1) := by decide +kernel
theorem d_X_serveWaiting_1 : decode b_X_serveWaiting 1 = .ok (.istore_n 2, 1) := by decide +kernel
theorem d_X_serveWaiting_2 : decode b_X_serveWaiting 2 = .ok (.iconst 0, 1) := by decide +kernel
theorem d_X_serveWaiting_3 : decode b_X_serveWaiting 3 = .ok (.istore_n 3, 1) := by decide +kernel
theorem d_X_serveWaiting_4 : decode b_X_serveWaiting 4 = .ok (.iload_n 3, 1) := by decide +kernel
theorem d_X_serveWaiting_5 : decode b_X_serveWaiting 5 = .ok (.aload_n 0, 1) := by decide +kernel
theorem d_X_serveWaiting_6 : decode b_X_serveWaiting 6 = .ok (.getfield 26, 3) := by decide +kernel
theorem d_X_serveWaiting_9 : decode b_X_serveWaiting 9 = .ok (.getfield 150, 3) := by decide +kernel
theorem d_X_serveWaiting_12 : decode b_X_serveWaiting 12 = .ok (.if_icmp .ge 87, 3) := by decide +kernel
theorem d_X_serveWaiting_15 : decode b_X_serveWaiting 15 = .ok (.aload_n 0, 1) := by decide +kernel
theorem d_X_serveWaiting_16 : decode b_X_serveWaiting 16 = .ok (.getfield 19, 3) := by decide +kernel
theorem d_X_serveWaiting_19 : decode b_X_serveWaiting 19 = .ok (.getfield 113, 3) := by decide +kernel
theorem d_X_serveWaiting_22 : decode b_X_serveWaiting 22 = .ok (.bipush 60, 2) := by decide +kernel
theorem d_X_serveWaiting_24 : decode b_X_serveWaiting 24 = .ok (.if_icmp .ge 75, 3) := by decide +kernel
theorem d_X_serveWaiting_27 : decode b_X_serveWaiting 27 = .ok (.aload_n 0, 1) := by decide +kernel
theorem d_X_serveWaiting_28 : decode b_X_serveWaiting 28 = .ok (.getfield 26, 3) := by decide +kernel
theorem d_X_serveWaiting_31 : decode b_X_serveWaiting 31 = .ok (.iload_n 3, 1) := by decide +kernel
theorem d_X_serveWaiting_32 : decode b_X_serveWaiting 32 = .ok (.iload_n 1, 1) := by decide +kernel
theorem d_X_serveWaiting_33 : decode b_X_serveWaiting 33 = .ok (.invokevirtual 248, 3) := by decide +kernel
theorem d_X_serveWaiting_36 : decode b_X_serveWaiting 36 = .ok (.ifCond .eq 57, 3) := by decide +kernel
theorem d_X_serveWaiting_39 : decode b_X_serveWaiting 39 = .ok (.aload_n 0, 1) := by decide +kernel
theorem d_X_serveWaiting_40 : decode b_X_serveWaiting 40 = .ok (.getfield 10, 3) := by decide +kernel
theorem d_X_serveWaiting_43 : decode b_X_serveWaiting 43 = .ok (.iload_n 1, 1) := by decide +kernel
theorem d_X_serveWaiting_44 : decode b_X_serveWaiting 44 = .ok (.aload_n 0, 1) := by decide +kernel
theorem d_X_serveWaiting_45 : decode b_X_serveWaiting 45 = .ok (.getfield 26, 3) := by decide +kernel
theorem d_X_serveWaiting_48 : decode b_X_serveWaiting 48 = .ok (.getfield 251, 3) := by decide +kernel
theorem d_X_serveWaiting_51 : decode b_X_serveWaiting 51 = .ok (.iload_n 3, 1) := by decide +kernel
theorem d_X_serveWaiting_52 : decode b_X_serveWaiting 52 = .ok (.iaload, 1) := by decide +kernel
theorem d_X_serveWaiting_53 : decode b_X_serveWaiting 53 = .ok (.invokevirtual 119, 3) := by decide +kernel
theorem d_X_serveWaiting_56 : decode b_X_serveWaiting 56 = .ok (.ifCond .eq 37, 3) := by decide +kernel
theorem d_X_serveWaiting_59 : decode b_X_serveWaiting 59 = .ok (.aload_n 0, 1) := by decide +kernel
theorem d_X_serveWaiting_60 : decode b_X_serveWaiting 60 = .ok (.getfield 26, 3) := by decide +kernel
theorem d_X_serveWaiting_63 : decode b_X_serveWaiting 63 = .ok (.iload_n 3, 1) := by decide +kernel
theorem d_X_serveWaiting_64 : decode b_X_serveWaiting 64 = .ok (.aload_n 0, 1) := by decide +kernel
theorem d_X_serveWaiting_65 : decode b_X_serveWaiting 65 = .ok (.iload_n 1, 1) := by decide +kernel
theorem d_X_serveWaiting_66 : decode b_X_serveWaiting 66 = .ok (.aload_n 0, 1) := by decide +kernel
theorem d_X_serveWaiting_67 : decode b_X_serveWaiting 67 = .ok (.getfield 26, 3) := by decide +kernel
theorem d_X_serveWaiting_70 : decode b_X_serveWaiting 70 = .ok (.getfield 251, 3) := by decide +kernel
theorem d_X_serveWaiting_73 : decode b_X_serveWaiting 73 = .ok (.iload_n 3, 1) := by decide +kernel
theorem d_X_serveWaiting_74 : decode b_X_serveWaiting 74 = .ok (.iaload, 1) := by decide +kernel
theorem d_X_serveWaiting_75 : decode b_X_serveWaiting 75 = .ok (.aload_n 0, 1) := by decide +kernel
theorem d_X_serveWaiting_76 : decode b_X_serveWaiting 76 = .ok (.getfield 26, 3) := by decide +kernel
theorem d_X_serveWaiting_79 : decode b_X_serveWaiting 79 = .ok (.getfield 252, 3) := by decide +kernel
theorem d_X_serveWaiting_82 : decode b_X_serveWaiting 82 = .ok (.iload_n 3, 1) := by decide +kernel
theorem d_X_serveWaiting_83 : decode b_X_serveWaiting 83 = .ok (.iaload, 1) := by decide +kernel
theorem d_X_serveWaiting_84 : decode b_X_serveWaiting 84 = .ok (.invokevirtual 123, 3) := by decide +kernel
theorem d_X_serveWaiting_87 : decode b_X_serveWaiting 87 = .ok (.invokevirtual 253, 3) := by decide +kernel
theorem d_X_serveWaiting_90 : decode b_X_serveWaiting 90 = .ok (.iinc 2 1, 3) := by decide +kernel
theorem d_X_serveWaiting_93 : decode b_X_serveWaiting 93 = .ok (.iinc 3 1, 3) := by decide +kernel
theorem d_X_serveWaiting_96 : decode b_X_serveWaiting 96 = .ok (.goto (-92), 3) := by decide +kernel
theorem d_X_serveWaiting_99 : decode b_X_serveWaiting 99 = .ok (.iload_n 2, 1) := by decide +kernel
theorem d_X_serveWaiting_100 : decode b_X_serveWaiting 100 = .ok (.ireturn, 1) := by decide +kernel
def gl_X_serveWaiting_4 (p : Program) (l : Launch) (e : Env) (s : State) (m : MethodId) (args : Array Value) (below : List Frame) (meth : Method) (c : Code) (R : Room) (A : Nat → Prop) (Q : State → Prop) (dC : Nat → ClassId) (dI : Nat → Nat → Nat) (cI cJ cZ : ClassId) (q_0 q_slots q_slots_most q_slots_sold q_tickets q_tickets_slot q_tickets_guests q_tickets_kind q_requests q_requests_slot q_requests_guests q_requests_kind q_requests_ticket q_chances q_tariff q_doors q_slots_places q_slots_above q_slots_below q_tickets_returned : Nat) (v_slots_most : Nat → Int32) (v_slots_made : Int32) (v_requests_slot : Nat → Int32) (v_requests_guests : Nat → Int32) (v_requests_kind : Nat → Int32) (v_requests_made : Int32) (l_1 : Int32) (l_2 : Int32) (l_3 : Int32) (v_slots_sold : Nat → Int32) (v_tickets_slot : Nat → Int32) (v_tickets_guests : Nat → Int32) (v_tickets_kind : Nat → Int32) (v_tickets_made : Int32) (v_requests_ticket : Nat → Int32) (v_requests_served : Int32) : Prop :=
  ∀ (H : Heap) (locs : List Loc), va_P (dC, dI) classes [(q_0, .inr (0, [.ref q_slots, .ref q_tickets, .ref q_requests, .ref q_chances, .ref q_tariff, .ref q_doors])), (q_slots, .inr (1, [.ref q_slots_places, .ref q_slots_above, .ref q_slots_below, .ref q_slots_most, .ref q_slots_sold, .int v_slots_made])), (q_slots_most, .inl (cI, 8, .inl v_slots_most)), (q_slots_sold, .inl (cI, 8, .inl v_slots_sold)), (q_tickets, .inr (2, [.ref q_tickets_slot, .ref q_tickets_guests, .ref q_tickets_kind, .ref q_tickets_returned, .int v_tickets_made])), (q_tickets_slot, .inl (cI, 60, .inl v_tickets_slot)), (q_tickets_guests, .inl (cI, 60, .inl v_tickets_guests)), (q_tickets_kind, .inl (cI, 60, .inl v_tickets_kind)), (q_requests, .inr (3, [.ref q_requests_slot, .ref q_requests_guests, .ref q_requests_kind, .ref q_requests_ticket, .int v_requests_made, .int v_requests_served])), (q_requests_slot, .inl (cI, 30, .inl v_requests_slot)), (q_requests_guests, .inl (cI, 30, .inl v_requests_guests)), (q_requests_kind, .inl (cI, 30, .inl v_requests_kind)), (q_requests_ticket, .inl (cI, 30, .inl v_requests_ticket))] H → va_D A [(q_0, .inr (0, [.ref q_slots, .ref q_tickets, .ref q_requests, .ref q_chances, .ref q_tariff, .ref q_doors])), (q_slots, .inr (1, [.ref q_slots_places, .ref q_slots_above, .ref q_slots_below, .ref q_slots_most, .ref q_slots_sold, .int v_slots_made])), (q_slots_most, .inl (cI, 8, .inl v_slots_most)), (q_slots_sold, .inl (cI, 8, .inl v_slots_sold)), (q_tickets, .inr (2, [.ref q_tickets_slot, .ref q_tickets_guests, .ref q_tickets_kind, .ref q_tickets_returned, .int v_tickets_made])), (q_tickets_slot, .inl (cI, 60, .inl v_tickets_slot)), (q_tickets_guests, .inl (cI, 60, .inl v_tickets_guests)), (q_tickets_kind, .inl (cI, 60, .inl v_tickets_kind)), (q_requests, .inr (3, [.ref q_requests_slot, .ref q_requests_guests, .ref q_requests_kind, .ref q_requests_ticket, .int v_requests_made, .int v_requests_served])), (q_requests_slot, .inl (cI, 30, .inl v_requests_slot)), (q_requests_guests, .inl (cI, 30, .inl v_requests_guests)), (q_requests_kind, .inl (cI, 30, .inl v_requests_kind)), (q_requests_ticket, .inl (cI, 30, .inl v_requests_ticket))] → va_S A s.heap H locs → ∀ ls : Array Slot, lv_has ls 4 [(0, .ref q_0), (1, .int l_1), (2, .int l_2), (3, .int l_3)] → W p l e R s m args below meth c H locs 0 0 Q (F0 m 4 ls [])
def wp_X_serveWaiting_4 (post : Int32 → ((Nat → Int32) × (Nat → Int32) × (Nat → Int32) × (Nat → Int32) × (Int32) × (Nat → Int32) × (Int32)) → Prop) (v_slots_most : Nat → Int32) (v_requests_slot : Nat → Int32) (v_requests_guests : Nat → Int32) (v_requests_kind : Nat → Int32) (v_requests_made : Int32) : Nat → Int32 → Int32 → Int32 → (Nat → Int32) → (Nat → Int32) → (Nat → Int32) → (Nat → Int32) → Int32 → (Nat → Int32) → Int32 → Prop
  | 0 => fun _ _ _ _ _ _ _ _ _ _ => False
  | n_4 + 1 => fun l_1 l_2 l_3 v_slots_sold v_tickets_slot v_tickets_guests v_tickets_kind v_tickets_made v_requests_ticket v_requests_served => ((v_requests_made ≤ l_3 → post l_2 (v_slots_sold, v_tickets_slot, v_tickets_guests, v_tickets_kind, v_tickets_made, v_requests_ticket, v_requests_served)) ∧ (¬ (v_requests_made ≤ l_3) → (((60 : Int32) ≤ v_tickets_made → post l_2 (v_slots_sold, v_tickets_slot, v_tickets_guests, v_tickets_kind, v_tickets_made, v_requests_ticket, v_requests_served)) ∧ (¬ ((60 : Int32) ≤ v_tickets_made) → wp_XR_waitsFor (fun r_3 _ => ((r_3 = 0 → (∀ x_5 : Int32, x_5 = l_3 + (1 : Int32) → (wp_X_serveWaiting_4 post v_slots_most v_requests_slot v_requests_guests v_requests_kind v_requests_made n_4) l_1 l_2 x_5 v_slots_sold v_tickets_slot v_tickets_guests v_tickets_kind v_tickets_made v_requests_ticket v_requests_served)) ∧ (¬ (r_3 = 0) → (vp_in l_3 30 ∧ wp_XS_hasRoom (fun r_7 _ => ((r_7 = 0 → (∀ x_9 : Int32, x_9 = l_3 + (1 : Int32) → (wp_X_serveWaiting_4 post v_slots_most v_requests_slot v_requests_guests v_requests_kind v_requests_made n_4) l_1 l_2 x_9 v_slots_sold v_tickets_slot v_tickets_guests v_tickets_kind v_tickets_made v_requests_ticket v_requests_served)) ∧ (¬ (r_7 = 0) → (vp_in l_3 30 ∧ (vp_in l_3 30 ∧ wp_X_issue (fun r_12 u => match u with | (f_13, f_14, f_15, f_16, x_17) => wp_XR_settle (fun u => match u with | (f_18, x_19) => (∀ x_20 : Int32, x_20 = l_2 + (1 : Int32) → (∀ x_21 : Int32, x_21 = l_3 + (1 : Int32) → (wp_X_serveWaiting_4 post v_slots_most v_requests_slot v_requests_guests v_requests_kind v_requests_made n_4) l_1 x_20 x_21 f_13 f_14 f_15 f_16 x_17 f_18 x_19))) l_3 r_12 v_requests_ticket v_requests_served) l_1 (v_requests_guests l_3.toNatClampNeg) (v_requests_kind l_3.toNatClampNeg) v_slots_sold v_tickets_slot v_tickets_guests v_tickets_kind v_tickets_made))))) l_1 (v_requests_guests l_3.toNatClampNeg) v_slots_most v_slots_sold)))) l_3 l_1 v_requests_slot v_requests_ticket))))
set_option maxHeartbeats 4000000 in
set_option maxRecDepth 100000 in
theorem t_X_serveWaiting_4 {p : Program} {l : Launch} {e : Env} {s : State} {m : MethodId} {args : Array Value} {below : List Frame} {meth : Method} {c : Code} {dC : Nat → ClassId} {dI : Nat → Nat → Nat} {cI cJ cZ : ClassId} {A : Nat → Prop} {q_0 : Nat} {q_slots : Nat} {q_slots_most : Nat} {q_slots_sold : Nat} {q_tickets : Nat} {q_tickets_slot : Nat} {q_tickets_guests : Nat} {q_tickets_kind : Nat} {q_requests : Nat} {q_requests_slot : Nat} {q_requests_guests : Nat} {q_requests_kind : Nat} {q_requests_ticket : Nat} {q_chances : Nat} {q_tariff : Nat} {q_doors : Nat} {q_slots_places : Nat} {q_slots_above : Nat} {q_slots_below : Nat} {q_tickets_returned : Nat} {v_slots_most : Nat → Int32} {v_slots_made : Int32} {v_requests_slot : Nat → Int32} {v_requests_guests : Nat → Int32} {v_requests_kind : Nat → Int32} {v_requests_made : Int32} {post : Int32 → ((Nat → Int32) × (Nat → Int32) × (Nat → Int32) × (Nat → Int32) × (Int32) × (Nat → Int32) × (Int32)) → Prop} (C0 : cxM b_X_serveWaiting 4 (some .int) R_X l dC dI cI cJ cZ A p s m args meth c) : ∀ (n_4 : Nat) (l_1 : Int32) (l_2 : Int32) (l_3 : Int32) (v_slots_sold : Nat → Int32) (v_tickets_slot : Nat → Int32) (v_tickets_guests : Nat → Int32) (v_tickets_kind : Nat → Int32) (v_tickets_made : Int32) (v_requests_ticket : Nat → Int32) (v_requests_served : Int32), wp_X_serveWaiting_4 post v_slots_most v_requests_slot v_requests_guests v_requests_kind v_requests_made n_4 l_1 l_2 l_3 v_slots_sold v_tickets_slot v_tickets_guests v_tickets_kind v_tickets_made v_requests_ticket v_requests_served → gl_X_serveWaiting_4 p l e s m args below meth c ({ frames := 2, cells := 0, slots := 0, locals := 47 } : Room) A (Qi below args s A dC dI cI cJ cZ ({ frames := 2, cells := 0, slots := 0, locals := 47 } : Room) post (fun u : (Nat → Int32) × (Nat → Int32) × (Nat → Int32) × (Nat → Int32) × (Int32) × (Nat → Int32) × (Int32) => [(q_0, .inr (0, [.ref q_slots, .ref q_tickets, .ref q_requests, .ref q_chances, .ref q_tariff, .ref q_doors])), (q_slots, .inr (1, [.ref q_slots_places, .ref q_slots_above, .ref q_slots_below, .ref q_slots_most, .ref q_slots_sold, .int v_slots_made])), (q_slots_most, .inl (cI, 8, .inl v_slots_most)), (q_slots_sold, .inl (cI, 8, .inl u.1)), (q_tickets, .inr (2, [.ref q_tickets_slot, .ref q_tickets_guests, .ref q_tickets_kind, .ref q_tickets_returned, .int u.2.2.2.2.1])), (q_tickets_slot, .inl (cI, 60, .inl u.2.1)), (q_tickets_guests, .inl (cI, 60, .inl u.2.2.1)), (q_tickets_kind, .inl (cI, 60, .inl u.2.2.2.1)), (q_requests, .inr (3, [.ref q_requests_slot, .ref q_requests_guests, .ref q_requests_kind, .ref q_requests_ticket, .int v_requests_made, .int u.2.2.2.2.2.2])), (q_requests_slot, .inl (cI, 30, .inl v_requests_slot)), (q_requests_guests, .inl (cI, 30, .inl v_requests_guests)), (q_requests_kind, .inl (cI, 30, .inl v_requests_kind)), (q_requests_ticket, .inl (cI, 30, .inl u.2.2.2.2.2.1))])) dC dI cI cJ cZ q_0 q_slots q_slots_most q_slots_sold q_tickets q_tickets_slot q_tickets_guests q_tickets_kind q_requests q_requests_slot q_requests_guests q_requests_kind q_requests_ticket q_chances q_tariff q_doors q_slots_places q_slots_above q_slots_below q_tickets_returned v_slots_most v_slots_made v_requests_slot v_requests_guests v_requests_kind v_requests_made l_1 l_2 l_3 v_slots_sold v_tickets_slot v_tickets_guests v_tickets_kind v_tickets_made v_requests_ticket v_requests_served := by
  obtain ⟨hl9, hx, hb, hml, hr, hown, hts, hlocks, hK, hZ, hA, hNS⟩ := id C0
  intro n_4
  induction n_4 with
  | zero => intro _ _ _ _ _ _ _ _ _ _ hw; exact hw.elim
  | succ n_4 ih =>
    intro l_1 l_2 l_3 v_slots_sold v_tickets_slot v_tickets_guests v_tickets_kind v_tickets_made v_requests_ticket v_requests_served hw H locs hP hD hS ls hl
    refine lv_iload_n hx hb d_X_serveWaiting_4 rfl (lv_at hl 3 rfl) ?_
    refine lv_aload_n hx hb d_X_serveWaiting_5 rfl (lv_at hl 0 rfl) ?_
    refine va_get (D := (dC, dI)) (ci := 0) (v := .ref q_requests) (C := R_X) (T := F_X) (N := 6) hx hb hts i_X hown hK hP 0 rfl rfl 2 (by decide) (hts _ k_38) (fun _ h9 => h9) rfl d_X_serveWaiting_6 ?_
    refine va_getN (D := (dC, dI)) (ci := 3) (v := .int v_requests_made) (C := R_XR) (T := F_XR) (N := 6) hx hb hts i_XR hown hK hP 8 rfl rfl 4 (by decide) (va_Nw.use rfl (zn hZ z_16)) (fun _ h9 => h9) rfl d_X_serveWaiting_9 ?_
    refine lv_icmp_ge (tgt := 99) hx hb d_X_serveWaiting_12 (by decide) (fun c_1 => ?_) (fun c_1 => ?_)
    · have hw := hw.1 c_1
      refine lv_iload_n hx hb d_X_serveWaiting_99 rfl (lv_at hl 2 rfl) ?_
      exact rt_i (u := (v_slots_sold, v_tickets_slot, v_tickets_guests, v_tickets_kind, v_tickets_made, v_requests_ticket, v_requests_served)) C0 hw hP hD hS (by decide) (by decide) d_X_serveWaiting_100
    · have hw := hw.2 c_1
      refine lv_aload_n hx hb d_X_serveWaiting_15 rfl (lv_at hl 0 rfl) ?_
      refine va_get (D := (dC, dI)) (ci := 0) (v := .ref q_tickets) (C := R_X) (T := F_X) (N := 6) hx hb hts i_X hown hK hP 0 rfl rfl 1 (by decide) (hts _ k_27) (fun _ h9 => h9) rfl d_X_serveWaiting_16 ?_
      refine va_getN (D := (dC, dI)) (ci := 2) (v := .int v_tickets_made) (C := R_XT) (T := F_XT) (N := 5) hx hb hts i_XT hown hK hP 4 rfl rfl 4 (by decide) (va_Nw.use rfl (zn hZ z_11)) (fun _ h9 => h9) rfl d_X_serveWaiting_19 ?_
      refine lv_bipush (v := (60 : Int32)) hx hb d_X_serveWaiting_22 (by decide) ?_
      refine lv_icmp_ge (tgt := 99) hx hb d_X_serveWaiting_24 (by decide) (fun c_2 => ?_) (fun c_2 => ?_)
      · have hw := hw.1 c_2
        refine lv_iload_n hx hb d_X_serveWaiting_99 rfl (lv_at hl 2 rfl) ?_
        exact rt_i (u := (v_slots_sold, v_tickets_slot, v_tickets_guests, v_tickets_kind, v_tickets_made, v_requests_ticket, v_requests_served)) C0 hw hP hD hS (by decide) (by decide) d_X_serveWaiting_100
      · have hw := hw.2 c_2
        refine lv_aload_n hx hb d_X_serveWaiting_27 rfl (lv_at hl 0 rfl) ?_
        refine va_get (D := (dC, dI)) (ci := 0) (v := .ref q_requests) (C := R_X) (T := F_X) (N := 6) hx hb hts i_X hown hK hP 0 rfl rfl 2 (by decide) (hts _ k_38) (fun _ h9 => h9) rfl d_X_serveWaiting_28 ?_
        refine lv_iload_n hx hb d_X_serveWaiting_31 rfl (lv_at hl 3 rfl) ?_
        refine lv_iload_n hx hb d_X_serveWaiting_32 rfl (lv_at hl 1 rfl) ?_
        refine jn_i C0 hP hD hS [8, 9, 12] [0, 1, 2, 3, 4, 5, 6, 7, 10, 11] (ru_V C0 (As := [.int l_3, .int l_1]) (rest := []) (c_XR_waitsFor l hl9 dC dI cI cJ cZ q_requests q_requests_slot q_requests_ticket q_requests_guests q_requests_kind l_3 l_1 v_requests_slot v_requests_ticket v_requests_made v_requests_served _ hw _) k_160 k_161 k_162 k_163 k_30 (n9 := 2) (by decide +kernel) rfl (ci := 3) rfl rfl ⟨Nat.le_of_ble_eq_true rfl, Nat.le_of_ble_eq_true rfl⟩ hP hD hS [8, 9, 12] rfl (by decide) hl.1 rfl (Nat.le_of_ble_eq_true rfl) d_X_serveWaiting_33 ⟨Nat.le_of_ble_eq_true rfl, Nat.le_of_ble_eq_true rfl⟩) rfl rfl (by decide) (by decide) (fun r_3 u H locs hw hP hD hS => ?_)
        try dsimp only at hw
        have hP : va_P (dC, dI) classes [(q_0, .inr (0, [.ref q_slots, .ref q_tickets, .ref q_requests, .ref q_chances, .ref q_tariff, .ref q_doors])), (q_slots, .inr (1, [.ref q_slots_places, .ref q_slots_above, .ref q_slots_below, .ref q_slots_most, .ref q_slots_sold, .int v_slots_made])), (q_slots_most, .inl (cI, 8, .inl v_slots_most)), (q_slots_sold, .inl (cI, 8, .inl v_slots_sold)), (q_tickets, .inr (2, [.ref q_tickets_slot, .ref q_tickets_guests, .ref q_tickets_kind, .ref q_tickets_returned, .int v_tickets_made])), (q_tickets_slot, .inl (cI, 60, .inl v_tickets_slot)), (q_tickets_guests, .inl (cI, 60, .inl v_tickets_guests)), (q_tickets_kind, .inl (cI, 60, .inl v_tickets_kind)), (q_requests_guests, .inl (cI, 30, .inl v_requests_guests)), (q_requests_kind, .inl (cI, 30, .inl v_requests_kind)), (q_requests, .inr (3, [.ref q_requests_slot, .ref q_requests_guests, .ref q_requests_kind, .ref q_requests_ticket, .int v_requests_made, .int v_requests_served])), (q_requests_slot, .inl (cI, 30, .inl v_requests_slot)), (q_requests_ticket, .inl (cI, 30, .inl v_requests_ticket))] H := hP
        have hD : va_D A [(q_0, .inr (0, [.ref q_slots, .ref q_tickets, .ref q_requests, .ref q_chances, .ref q_tariff, .ref q_doors])), (q_slots, .inr (1, [.ref q_slots_places, .ref q_slots_above, .ref q_slots_below, .ref q_slots_most, .ref q_slots_sold, .int v_slots_made])), (q_slots_most, .inl (cI, 8, .inl v_slots_most)), (q_slots_sold, .inl (cI, 8, .inl v_slots_sold)), (q_tickets, .inr (2, [.ref q_tickets_slot, .ref q_tickets_guests, .ref q_tickets_kind, .ref q_tickets_returned, .int v_tickets_made])), (q_tickets_slot, .inl (cI, 60, .inl v_tickets_slot)), (q_tickets_guests, .inl (cI, 60, .inl v_tickets_guests)), (q_tickets_kind, .inl (cI, 60, .inl v_tickets_kind)), (q_requests_guests, .inl (cI, 30, .inl v_requests_guests)), (q_requests_kind, .inl (cI, 30, .inl v_requests_kind)), (q_requests, .inr (3, [.ref q_requests_slot, .ref q_requests_guests, .ref q_requests_kind, .ref q_requests_ticket, .int v_requests_made, .int v_requests_served])), (q_requests_slot, .inl (cI, 30, .inl v_requests_slot)), (q_requests_ticket, .inl (cI, 30, .inl v_requests_ticket))] := hD
        refine lv_if_eq (tgt := 93) hx hb d_X_serveWaiting_36 (by decide) (fun c_4 => ?_) (fun c_4 => ?_)
        · have hw := hw.1 c_4
          obtain ⟨x_5, ex_5⟩ : ∃ y : Int32, y = l_3 + (1 : Int32) := ⟨_, rfl⟩
          have hw := hw x_5 ex_5
          refine lv_iinc (v := x_5) (lv' := [(3, .int x_5), (0, .ref q_0), (1, .int l_1), (2, .int l_2)]) hx hb d_X_serveWaiting_93 hl (k := 3) rfl (by rw [ex_5]; rfl) (by decide) rfl (fun ls hl => ?_)
          refine lv_goto (tgt := 4) hx hb d_X_serveWaiting_96 (by decide) ?_
          exact ih l_1 l_2 x_5 v_slots_sold v_tickets_slot v_tickets_guests v_tickets_kind v_tickets_made v_requests_ticket v_requests_served hw _ _ (hP.sub [0, 1, 2, 3, 4, 5, 6, 7, 10, 11, 8, 9, 12] rfl) (hD.sub [0, 1, 2, 3, 4, 5, 6, 7, 10, 11, 8, 9, 12] (by decide) rfl) hS _ (lv_sub hl [1, 2, 3, 0] rfl)
        · have hw := hw.2 c_4
          refine lv_aload_n hx hb d_X_serveWaiting_39 rfl (lv_at hl 0 rfl) ?_
          refine va_get (D := (dC, dI)) (ci := 0) (v := .ref q_slots) (C := R_X) (T := F_X) (N := 6) hx hb hts i_X hown hK hP 0 rfl rfl 0 (by decide) (hts _ k_15) (fun _ h9 => h9) rfl d_X_serveWaiting_40 ?_
          refine lv_iload_n hx hb d_X_serveWaiting_43 rfl (lv_at hl 1 rfl) ?_
          refine lv_aload_n hx hb d_X_serveWaiting_44 rfl (lv_at hl 0 rfl) ?_
          refine va_get (D := (dC, dI)) (ci := 0) (v := .ref q_requests) (C := R_X) (T := F_X) (N := 6) hx hb hts i_X hown hK hP 0 rfl rfl 2 (by decide) (hts _ k_38) (fun _ h9 => h9) rfl d_X_serveWaiting_45 ?_
          refine va_getN (D := (dC, dI)) (ci := 3) (v := .ref q_requests_guests) (C := R_XR) (T := F_XR) (N := 6) hx hb hts i_XR hown hK hP 10 rfl rfl 1 (by decide) (va_Nw.use rfl (zn hZ z_17)) (fun _ h9 => h9) rfl d_X_serveWaiting_48 ?_
          refine lv_iload_n hx hb d_X_serveWaiting_51 rfl (lv_at hl 3 rfl) ?_
          obtain ⟨h_6, hw⟩ := hw
          refine va_iald hx hb hK hP 8 0 rfl rfl h_6 d_X_serveWaiting_52 ?_
          refine jn_i C0 hP hD hS [1, 2, 3] [0, 4, 5, 6, 7, 8, 9, 10, 11, 12] (ru_V C0 (As := [.int l_1, .int (v_requests_guests l_3.toNatClampNeg)]) (rest := []) (c_XS_hasRoom l hl9 dC dI cI cJ cZ q_slots q_slots_most q_slots_sold q_slots_places q_slots_above q_slots_below l_1 (v_requests_guests l_3.toNatClampNeg) v_slots_most v_slots_sold v_slots_made _ hw _) k_135 k_136 k_137 k_138 k_5 (n9 := 2) (by decide +kernel) rfl (ci := 1) rfl rfl ⟨Nat.le_of_ble_eq_true rfl, Nat.le_of_ble_eq_true rfl⟩ hP hD hS [1, 2, 3] rfl (by decide) hl.1 rfl (Nat.le_of_ble_eq_true rfl) d_X_serveWaiting_53 ⟨Nat.le_of_ble_eq_true rfl, Nat.le_of_ble_eq_true rfl⟩) rfl rfl (by decide) (by decide) (fun r_7 u H locs hw hP hD hS => ?_)
          try dsimp only at hw
          have hP : va_P (dC, dI) classes [(q_0, .inr (0, [.ref q_slots, .ref q_tickets, .ref q_requests, .ref q_chances, .ref q_tariff, .ref q_doors])), (q_tickets, .inr (2, [.ref q_tickets_slot, .ref q_tickets_guests, .ref q_tickets_kind, .ref q_tickets_returned, .int v_tickets_made])), (q_tickets_slot, .inl (cI, 60, .inl v_tickets_slot)), (q_tickets_guests, .inl (cI, 60, .inl v_tickets_guests)), (q_tickets_kind, .inl (cI, 60, .inl v_tickets_kind)), (q_requests_guests, .inl (cI, 30, .inl v_requests_guests)), (q_requests_kind, .inl (cI, 30, .inl v_requests_kind)), (q_requests, .inr (3, [.ref q_requests_slot, .ref q_requests_guests, .ref q_requests_kind, .ref q_requests_ticket, .int v_requests_made, .int v_requests_served])), (q_requests_slot, .inl (cI, 30, .inl v_requests_slot)), (q_requests_ticket, .inl (cI, 30, .inl v_requests_ticket)), (q_slots, .inr (1, [.ref q_slots_places, .ref q_slots_above, .ref q_slots_below, .ref q_slots_most, .ref q_slots_sold, .int v_slots_made])), (q_slots_most, .inl (cI, 8, .inl v_slots_most)), (q_slots_sold, .inl (cI, 8, .inl v_slots_sold))] H := hP
          have hD : va_D A [(q_0, .inr (0, [.ref q_slots, .ref q_tickets, .ref q_requests, .ref q_chances, .ref q_tariff, .ref q_doors])), (q_tickets, .inr (2, [.ref q_tickets_slot, .ref q_tickets_guests, .ref q_tickets_kind, .ref q_tickets_returned, .int v_tickets_made])), (q_tickets_slot, .inl (cI, 60, .inl v_tickets_slot)), (q_tickets_guests, .inl (cI, 60, .inl v_tickets_guests)), (q_tickets_kind, .inl (cI, 60, .inl v_tickets_kind)), (q_requests_guests, .inl (cI, 30, .inl v_requests_guests)), (q_requests_kind, .inl (cI, 30, .inl v_requests_kind)), (q_requests, .inr (3, [.ref q_requests_slot, .ref q_requests_guests, .ref q_requests_kind, .ref q_requests_ticket, .int v_requests_made, .int v_requests_served])), (q_requests_slot, .inl (cI, 30, .inl v_requests_slot)), (q_requests_ticket, .inl (cI, 30, .inl v_requests_ticket)), (q_slots, .inr (1, [.ref q_slots_places, .ref q_slots_above, .ref q_slots_below, .ref q_slots_most, .ref q_slots_sold, .int v_slots_made])), (q_slots_most, .inl (cI, 8, .inl v_slots_most)), (q_slots_sold, .inl (cI, 8, .inl v_slots_sold))] := hD
          refine lv_if_eq (tgt := 93) hx hb d_X_serveWaiting_56 (by decide) (fun c_8 => ?_) (fun c_8 => ?_)
          · have hw := hw.1 c_8
            obtain ⟨x_9, ex_9⟩ : ∃ y : Int32, y = l_3 + (1 : Int32) := ⟨_, rfl⟩
            have hw := hw x_9 ex_9
            refine lv_iinc (v := x_9) (lv' := [(3, .int x_9), (0, .ref q_0), (1, .int l_1), (2, .int l_2)]) hx hb d_X_serveWaiting_93 hl (k := 3) rfl (by rw [ex_9]; rfl) (by decide) rfl (fun ls hl => ?_)
            refine lv_goto (tgt := 4) hx hb d_X_serveWaiting_96 (by decide) ?_
            exact ih l_1 l_2 x_9 v_slots_sold v_tickets_slot v_tickets_guests v_tickets_kind v_tickets_made v_requests_ticket v_requests_served hw _ _ (hP.sub [0, 10, 11, 12, 1, 2, 3, 4, 7, 8, 5, 6, 9] rfl) (hD.sub [0, 10, 11, 12, 1, 2, 3, 4, 7, 8, 5, 6, 9] (by decide) rfl) hS _ (lv_sub hl [1, 2, 3, 0] rfl)
          · have hw := hw.2 c_8
            refine lv_aload_n hx hb d_X_serveWaiting_59 rfl (lv_at hl 0 rfl) ?_
            refine va_get (D := (dC, dI)) (ci := 0) (v := .ref q_requests) (C := R_X) (T := F_X) (N := 6) hx hb hts i_X hown hK hP 0 rfl rfl 2 (by decide) (hts _ k_38) (fun _ h9 => h9) rfl d_X_serveWaiting_60 ?_
            refine lv_iload_n hx hb d_X_serveWaiting_63 rfl (lv_at hl 3 rfl) ?_
            refine lv_aload_n hx hb d_X_serveWaiting_64 rfl (lv_at hl 0 rfl) ?_
            refine lv_iload_n hx hb d_X_serveWaiting_65 rfl (lv_at hl 1 rfl) ?_
            refine lv_aload_n hx hb d_X_serveWaiting_66 rfl (lv_at hl 0 rfl) ?_
            refine va_get (D := (dC, dI)) (ci := 0) (v := .ref q_requests) (C := R_X) (T := F_X) (N := 6) hx hb hts i_X hown hK hP 0 rfl rfl 2 (by decide) (hts _ k_38) (fun _ h9 => h9) rfl d_X_serveWaiting_67 ?_
            refine va_getN (D := (dC, dI)) (ci := 3) (v := .ref q_requests_guests) (C := R_XR) (T := F_XR) (N := 6) hx hb hts i_XR hown hK hP 7 rfl rfl 1 (by decide) (va_Nw.use rfl (zn hZ z_17)) (fun _ h9 => h9) rfl d_X_serveWaiting_70 ?_
            refine lv_iload_n hx hb d_X_serveWaiting_73 rfl (lv_at hl 3 rfl) ?_
            obtain ⟨h_10, hw⟩ := hw
            refine va_iald hx hb hK hP 5 0 rfl rfl h_10 d_X_serveWaiting_74 ?_
            refine lv_aload_n hx hb d_X_serveWaiting_75 rfl (lv_at hl 0 rfl) ?_
            refine va_get (D := (dC, dI)) (ci := 0) (v := .ref q_requests) (C := R_X) (T := F_X) (N := 6) hx hb hts i_X hown hK hP 0 rfl rfl 2 (by decide) (hts _ k_38) (fun _ h9 => h9) rfl d_X_serveWaiting_76 ?_
            refine va_getN (D := (dC, dI)) (ci := 3) (v := .ref q_requests_kind) (C := R_XR) (T := F_XR) (N := 6) hx hb hts i_XR hown hK hP 7 rfl rfl 2 (by decide) (va_Nw.use rfl (zn hZ z_18)) (fun _ h9 => h9) rfl d_X_serveWaiting_79 ?_
            refine lv_iload_n hx hb d_X_serveWaiting_82 rfl (lv_at hl 3 rfl) ?_
            obtain ⟨h_11, hw⟩ := hw
            refine va_iald hx hb hK hP 6 0 rfl rfl h_11 d_X_serveWaiting_83 ?_
            refine jn_i C0 hP hD hS [0, 10, 12, 1, 2, 3, 4] [5, 6, 7, 8, 9, 11] (ru_V C0 (As := [.int l_1, .int (v_requests_guests l_3.toNatClampNeg), .int (v_requests_kind l_3.toNatClampNeg)]) (rest := [.int l_3, .ref q_requests]) (c_X_issue l hl9 dC dI cI cJ cZ q_0 q_slots q_slots_sold q_tickets q_tickets_slot q_tickets_guests q_tickets_kind q_requests q_chances q_tariff q_doors q_slots_places q_slots_above q_slots_below q_slots_most q_tickets_returned l_1 (v_requests_guests l_3.toNatClampNeg) (v_requests_kind l_3.toNatClampNeg) v_slots_sold v_slots_made v_tickets_slot v_tickets_guests v_tickets_kind v_tickets_made _ hw _) k_144 k_145 k_146 k_147 k_86 (n9 := 3) (by decide +kernel) rfl (ci := 0) rfl rfl ⟨Nat.le_of_ble_eq_true rfl, Nat.le_of_ble_eq_true rfl⟩ hP hD hS [0, 10, 12, 1, 2, 3, 4] rfl (by decide) hl.1 rfl (Nat.le_of_ble_eq_true rfl) d_X_serveWaiting_84 ⟨Nat.le_of_ble_eq_true rfl, Nat.le_of_ble_eq_true rfl⟩) rfl rfl (by decide) (by decide) (fun r_12 u H locs hw hP hD hS => ?_)
            obtain ⟨f_13, f_14, f_15, f_16, x_17⟩ := u
            try dsimp only at hw
            have hP : va_P (dC, dI) classes [(q_requests_guests, .inl (cI, 30, .inl v_requests_guests)), (q_requests_kind, .inl (cI, 30, .inl v_requests_kind)), (q_requests, .inr (3, [.ref q_requests_slot, .ref q_requests_guests, .ref q_requests_kind, .ref q_requests_ticket, .int v_requests_made, .int v_requests_served])), (q_requests_slot, .inl (cI, 30, .inl v_requests_slot)), (q_requests_ticket, .inl (cI, 30, .inl v_requests_ticket)), (q_slots_most, .inl (cI, 8, .inl v_slots_most)), (q_0, .inr (0, [.ref q_slots, .ref q_tickets, .ref q_requests, .ref q_chances, .ref q_tariff, .ref q_doors])), (q_slots, .inr (1, [.ref q_slots_places, .ref q_slots_above, .ref q_slots_below, .ref q_slots_most, .ref q_slots_sold, .int v_slots_made])), (q_slots_sold, .inl (cI, 8, .inl f_13)), (q_tickets, .inr (2, [.ref q_tickets_slot, .ref q_tickets_guests, .ref q_tickets_kind, .ref q_tickets_returned, .int x_17])), (q_tickets_slot, .inl (cI, 60, .inl f_14)), (q_tickets_guests, .inl (cI, 60, .inl f_15)), (q_tickets_kind, .inl (cI, 60, .inl f_16))] H := hP
            have hD : va_D A [(q_requests_guests, .inl (cI, 30, .inl v_requests_guests)), (q_requests_kind, .inl (cI, 30, .inl v_requests_kind)), (q_requests, .inr (3, [.ref q_requests_slot, .ref q_requests_guests, .ref q_requests_kind, .ref q_requests_ticket, .int v_requests_made, .int v_requests_served])), (q_requests_slot, .inl (cI, 30, .inl v_requests_slot)), (q_requests_ticket, .inl (cI, 30, .inl v_requests_ticket)), (q_slots_most, .inl (cI, 8, .inl v_slots_most)), (q_0, .inr (0, [.ref q_slots, .ref q_tickets, .ref q_requests, .ref q_chances, .ref q_tariff, .ref q_doors])), (q_slots, .inr (1, [.ref q_slots_places, .ref q_slots_above, .ref q_slots_below, .ref q_slots_most, .ref q_slots_sold, .int v_slots_made])), (q_slots_sold, .inl (cI, 8, .inl f_13)), (q_tickets, .inr (2, [.ref q_tickets_slot, .ref q_tickets_guests, .ref q_tickets_kind, .ref q_tickets_returned, .int x_17])), (q_tickets_slot, .inl (cI, 60, .inl f_14)), (q_tickets_guests, .inl (cI, 60, .inl f_15)), (q_tickets_kind, .inl (cI, 60, .inl f_16))] := hD
            refine jn_v C0 hP hD hS [2, 4] [0, 1, 3, 5, 6, 7, 8, 9, 10, 11, 12] (ru_V C0 (As := [.int l_3, .int r_12]) (rest := []) (c_XR_settle l hl9 dC dI cI cJ cZ q_requests q_requests_ticket q_requests_slot q_requests_guests q_requests_kind l_3 r_12 v_requests_ticket v_requests_made v_requests_served _ hw _) k_165 k_166 k_167 k_168 k_30 (n9 := 2) (by decide +kernel) rfl (ci := 3) rfl rfl ⟨Nat.le_of_ble_eq_true rfl, Nat.le_of_ble_eq_true rfl⟩ hP hD hS [2, 4] rfl (by decide) hl.1 rfl (Nat.le_of_ble_eq_true rfl) d_X_serveWaiting_87 ⟨Nat.le_of_ble_eq_true rfl, Nat.le_of_ble_eq_true rfl⟩) rfl rfl (by decide) (by decide) (fun u H locs hw hP hD hS => ?_)
            obtain ⟨f_18, x_19⟩ := u
            try dsimp only at hw
            have hP : va_P (dC, dI) classes [(q_requests_guests, .inl (cI, 30, .inl v_requests_guests)), (q_requests_kind, .inl (cI, 30, .inl v_requests_kind)), (q_requests_slot, .inl (cI, 30, .inl v_requests_slot)), (q_slots_most, .inl (cI, 8, .inl v_slots_most)), (q_0, .inr (0, [.ref q_slots, .ref q_tickets, .ref q_requests, .ref q_chances, .ref q_tariff, .ref q_doors])), (q_slots, .inr (1, [.ref q_slots_places, .ref q_slots_above, .ref q_slots_below, .ref q_slots_most, .ref q_slots_sold, .int v_slots_made])), (q_slots_sold, .inl (cI, 8, .inl f_13)), (q_tickets, .inr (2, [.ref q_tickets_slot, .ref q_tickets_guests, .ref q_tickets_kind, .ref q_tickets_returned, .int x_17])), (q_tickets_slot, .inl (cI, 60, .inl f_14)), (q_tickets_guests, .inl (cI, 60, .inl f_15)), (q_tickets_kind, .inl (cI, 60, .inl f_16)), (q_requests, .inr (3, [.ref q_requests_slot, .ref q_requests_guests, .ref q_requests_kind, .ref q_requests_ticket, .int v_requests_made, .int x_19])), (q_requests_ticket, .inl (cI, 30, .inl f_18))] H := hP
            have hD : va_D A [(q_requests_guests, .inl (cI, 30, .inl v_requests_guests)), (q_requests_kind, .inl (cI, 30, .inl v_requests_kind)), (q_requests_slot, .inl (cI, 30, .inl v_requests_slot)), (q_slots_most, .inl (cI, 8, .inl v_slots_most)), (q_0, .inr (0, [.ref q_slots, .ref q_tickets, .ref q_requests, .ref q_chances, .ref q_tariff, .ref q_doors])), (q_slots, .inr (1, [.ref q_slots_places, .ref q_slots_above, .ref q_slots_below, .ref q_slots_most, .ref q_slots_sold, .int v_slots_made])), (q_slots_sold, .inl (cI, 8, .inl f_13)), (q_tickets, .inr (2, [.ref q_tickets_slot, .ref q_tickets_guests, .ref q_tickets_kind, .ref q_tickets_returned, .int x_17])), (q_tickets_slot, .inl (cI, 60, .inl f_14)), (q_tickets_guests, .inl (cI, 60, .inl f_15)), (q_tickets_kind, .inl (cI, 60, .inl f_16)), (q_requests, .inr (3, [.ref q_requests_slot, .ref q_requests_guests, .ref q_requests_kind, .ref q_requests_ticket, .int v_requests_made, .int x_19])), (q_requests_ticket, .inl (cI, 30, .inl f_18))] := hD
            obtain ⟨x_20, ex_20⟩ : ∃ y : Int32, y = l_2 + (1 : Int32) := ⟨_, rfl⟩
            have hw := hw x_20 ex_20
            refine lv_iinc (v := x_20) (lv' := [(2, .int x_20), (0, .ref q_0), (1, .int l_1), (3, .int l_3)]) hx hb d_X_serveWaiting_90 hl (k := 2) rfl (by rw [ex_20]; rfl) (by decide) rfl (fun ls hl => ?_)
            obtain ⟨x_21, ex_21⟩ : ∃ y : Int32, y = l_3 + (1 : Int32) := ⟨_, rfl⟩
            have hw := hw x_21 ex_21
            refine lv_iinc (v := x_21) (lv' := [(3, .int x_21), (2, .int x_20), (0, .ref q_0), (1, .int l_1)]) hx hb d_X_serveWaiting_93 hl (k := 3) rfl (by rw [ex_21]; rfl) (by decide) rfl (fun ls hl => ?_)
            refine lv_goto (tgt := 4) hx hb d_X_serveWaiting_96 (by decide) ?_
            exact ih l_1 x_20 x_21 f_13 f_14 f_15 f_16 x_17 f_18 x_19 hw _ _ (hP.sub [4, 5, 3, 6, 7, 8, 9, 10, 11, 2, 0, 1, 12] rfl) (hD.sub [4, 5, 3, 6, 7, 8, 9, 10, 11, 2, 0, 1, 12] (by decide) rfl) hS _ (lv_sub hl [2, 3, 1, 0] rfl)
def wp_X_serveWaiting (post : Int32 → ((Nat → Int32) × (Nat → Int32) × (Nat → Int32) × (Nat → Int32) × (Int32) × (Nat → Int32) × (Int32)) → Prop) (a_1 : Int32) (v_slots_most : Nat → Int32) (v_slots_sold : Nat → Int32) (v_tickets_slot : Nat → Int32) (v_tickets_guests : Nat → Int32) (v_tickets_kind : Nat → Int32) (v_tickets_made : Int32) (v_requests_slot : Nat → Int32) (v_requests_guests : Nat → Int32) (v_requests_kind : Nat → Int32) (v_requests_ticket : Nat → Int32) (v_requests_made : Int32) (v_requests_served : Int32) : Prop := ∃ n_4, wp_X_serveWaiting_4 post v_slots_most v_requests_slot v_requests_guests v_requests_kind v_requests_made n_4 a_1 (0 : Int32) (0 : Int32) v_slots_sold v_tickets_slot v_tickets_guests v_tickets_kind v_tickets_made v_requests_ticket v_requests_served
set_option maxHeartbeats 4000000 in
set_option maxRecDepth 100000 in
theorem c_X_serveWaiting (l : Launch) (hl9 : l.stackTraces = false) (dC : Nat → ClassId) (dI : Nat → Nat → Nat) (cI cJ cZ : ClassId) (q_0 q_slots q_slots_most q_slots_sold q_tickets q_tickets_slot q_tickets_guests q_tickets_kind q_requests q_requests_slot q_requests_guests q_requests_kind q_requests_ticket q_chances q_tariff q_doors q_slots_places q_slots_above q_slots_below q_tickets_returned : Nat) (a_1 : Int32) (v_slots_most : Nat → Int32) (v_slots_sold : Nat → Int32) (v_slots_made : Int32) (v_tickets_slot : Nat → Int32) (v_tickets_guests : Nat → Int32) (v_tickets_kind : Nat → Int32) (v_tickets_made : Int32) (v_requests_slot : Nat → Int32) (v_requests_guests : Nat → Int32) (v_requests_kind : Nat → Int32) (v_requests_ticket : Nat → Int32) (v_requests_made : Int32) (v_requests_served : Int32) (post : Int32 → ((Nat → Int32) × (Nat → Int32) × (Nat → Int32) × (Nat → Int32) × (Int32) × (Nat → Int32) × (Int32)) → Prop) (hw : wp_X_serveWaiting post a_1 v_slots_most v_slots_sold v_tickets_slot v_tickets_guests v_tickets_kind v_tickets_made v_requests_slot v_requests_guests v_requests_kind v_requests_ticket v_requests_made v_requests_served) : Ki l y_X_serveWaiting b_X_serveWaiting 4 (some .int) ({ frames := 2, cells := 0, slots := 0, locals := 47 } : Room) dC dI cI cJ cZ [.ref q_0, .int a_1] [(q_0, .inr (0, [.ref q_slots, .ref q_tickets, .ref q_requests, .ref q_chances, .ref q_tariff, .ref q_doors])), (q_slots, .inr (1, [.ref q_slots_places, .ref q_slots_above, .ref q_slots_below, .ref q_slots_most, .ref q_slots_sold, .int v_slots_made])), (q_slots_most, .inl (cI, 8, .inl v_slots_most)), (q_slots_sold, .inl (cI, 8, .inl v_slots_sold)), (q_tickets, .inr (2, [.ref q_tickets_slot, .ref q_tickets_guests, .ref q_tickets_kind, .ref q_tickets_returned, .int v_tickets_made])), (q_tickets_slot, .inl (cI, 60, .inl v_tickets_slot)), (q_tickets_guests, .inl (cI, 60, .inl v_tickets_guests)), (q_tickets_kind, .inl (cI, 60, .inl v_tickets_kind)), (q_requests, .inr (3, [.ref q_requests_slot, .ref q_requests_guests, .ref q_requests_kind, .ref q_requests_ticket, .int v_requests_made, .int v_requests_served])), (q_requests_slot, .inl (cI, 30, .inl v_requests_slot)), (q_requests_guests, .inl (cI, 30, .inl v_requests_guests)), (q_requests_kind, .inl (cI, 30, .inl v_requests_kind)), (q_requests_ticket, .inl (cI, 30, .inl v_requests_ticket))] post (fun u : (Nat → Int32) × (Nat → Int32) × (Nat → Int32) × (Nat → Int32) × (Int32) × (Nat → Int32) × (Int32) => [(q_0, .inr (0, [.ref q_slots, .ref q_tickets, .ref q_requests, .ref q_chances, .ref q_tariff, .ref q_doors])), (q_slots, .inr (1, [.ref q_slots_places, .ref q_slots_above, .ref q_slots_below, .ref q_slots_most, .ref q_slots_sold, .int v_slots_made])), (q_slots_most, .inl (cI, 8, .inl v_slots_most)), (q_slots_sold, .inl (cI, 8, .inl u.1)), (q_tickets, .inr (2, [.ref q_tickets_slot, .ref q_tickets_guests, .ref q_tickets_kind, .ref q_tickets_returned, .int u.2.2.2.2.1])), (q_tickets_slot, .inl (cI, 60, .inl u.2.1)), (q_tickets_guests, .inl (cI, 60, .inl u.2.2.1)), (q_tickets_kind, .inl (cI, 60, .inl u.2.2.2.1)), (q_requests, .inr (3, [.ref q_requests_slot, .ref q_requests_guests, .ref q_requests_kind, .ref q_requests_ticket, .int v_requests_made, .int u.2.2.2.2.2.2])), (q_requests_slot, .inl (cI, 30, .inl v_requests_slot)), (q_requests_guests, .inl (cI, 30, .inl v_requests_guests)), (q_requests_kind, .inl (cI, 30, .inl v_requests_kind)), (q_requests_ticket, .inl (cI, 30, .inl u.2.2.2.2.2.1))]) := by
  refine mki hl9 (own := R_X) rfl (by decide) ?_
  intro p e s m args below meth c A C0 hnm eav hP hD
  obtain ⟨-, hx, hb, hml, hr, hown, hts, hlocks, hK, hZ, hA, hNS⟩ := id C0
  subst eav
  have hS : va_S A s.heap s.heap [] := va_S.rf
  have hl := lv_entry ([.ref q_0, .int a_1]) (n := 4) (Nat.le_of_ble_eq_true rfl)
  rw [lg_entry_eq]
  generalize (lg_sl ([.ref q_0, .int a_1]) ++ List.replicate (4 - (lg_sl ([.ref q_0, .int a_1])).length) Slot.unset).toArray = ls at hl ⊢
  have hl : lv_has ls 4 [(0, .ref q_0), (1, .int a_1)] := hl
  unfold wp_X_serveWaiting at hw
  refine lv_iconst (v := (0 : Int32)) hx hb d_X_serveWaiting_0 (by decide) ?_
  refine lv_istore_n (lv' := [(2, .int (0 : Int32)), (0, .ref q_0), (1, .int a_1)]) hx hb d_X_serveWaiting_1 rfl hl (by decide) rfl (fun ls hl => ?_)
  refine lv_iconst (v := (0 : Int32)) hx hb d_X_serveWaiting_2 (by decide) ?_
  refine lv_istore_n (lv' := [(3, .int (0 : Int32)), (2, .int (0 : Int32)), (0, .ref q_0), (1, .int a_1)]) hx hb d_X_serveWaiting_3 rfl hl (by decide) rfl (fun ls hl => ?_)
  obtain ⟨n_4, hw⟩ := hw
  exact t_X_serveWaiting_4 (post := post) C0 n_4 a_1 (0 : Int32) (0 : Int32) v_slots_sold v_tickets_slot v_tickets_guests v_tickets_kind v_tickets_made v_requests_ticket v_requests_served hw _ _ hP hD hS _ (lv_sub hl [2, 3, 1, 0] rfl)
theorem d_X_back_0 : decode b_X_back 0 = .ok (.aload_n 0, 1) := by decide +kernel
theorem d_X_back_1 : decode b_X_back 1 = .ok (.iload_n 1, 1) := by decide +kernel
theorem d_X_back_2 : decode b_X_back 2 = .ok (.invokevirtual 127, 3) := by decide +kernel
theorem d_X_back_5 : decode b_X_back 5 = .ok (.aload_n 0, 1) := by decide +kernel
theorem d_X_back_6 : decode b_X_back 6 = .ok (.getfield 19, 3) := by decide +kernel
theorem d_X_back_9 : decode b_X_back 9 = .ok (.getfield 130, 3) := by decide +kernel
theorem d_X_back_12 : decode b_X_back 12 = .ok (.iload_n 1, 1) := by decide +kernel
theorem d_X_back_13 : decode b_X_back 13 = .ok (.baload, 1) := by decide +kernel
theorem d_X_back_14 : decode b_X_back 14 = .ok (.ifCond .ne 14, 3) := by decide +kernel
theorem d_X_back_17 : decode b_X_back 17 = .ok (.aload_n 0, 1) := by decide +kernel
theorem d_X_back_18 : decode b_X_back 18 = .ok (.getfield 47, 3) := by decide +kernel
theorem d_X_back_21 : decode b_X_back 21 = .ok (.iload_n 1, 1) := by decide +kernel
theorem d_X_back_22 : decode b_X_back 22 = .ok (.invokevirtual 134, 3) := by decide +kernel
theorem d_X_back_25 : decode b_X_back 25 = .ok (.ifCond .eq 5, 3) := by decide +kernel
theorem d_X_back_28 : decode b_X_back 28 = .ok (.iconst (-1), 1) := by decide +kernel
theorem d_X_back_29 : decode b_X_back 29 = .ok (.ireturn, 1) := by decide +kernel
theorem d_X_back_30 : decode b_X_back 30 = .ok (.aload_n 0, 1) := by decide +kernel
theorem d_X_back_31 : decode b_X_back 31 = .ok (.getfield 19, 3) := by decide +kernel
theorem d_X_back_34 : decode b_X_back 34 = .ok (.getfield 138, 3) := by decide +kernel
theorem d_X_back_37 : decode b_X_back 37 = .ok (.iload_n 1, 1) := by decide +kernel
theorem d_X_back_38 : decode b_X_back 38 = .ok (.iaload, 1) := by decide +kernel
theorem d_X_back_39 : decode b_X_back 39 = .ok (.istore_n 2, 1) := by decide +kernel
theorem d_X_back_40 : decode b_X_back 40 = .ok (.aload_n 0, 1) := by decide +kernel
theorem d_X_back_41 : decode b_X_back 41 = .ok (.getfield 19, 3) := by decide +kernel
theorem d_X_back_44 : decode b_X_back 44 = .ok (.getfield 130, 3) := by decide +kernel
theorem d_X_back_47 : decode b_X_back 47 = .ok (.iload_n 1, 1) := by decide +kernel
theorem d_X_back_48 : decode b_X_back 48 = .ok (.iconst 1, 1) := by decide +kernel
theorem d_X_back_49 : decode b_X_back 49 = .ok (.bastore, 1) := by decide +kernel
theorem d_X_back_50 : decode b_X_back 50 = .ok (.aload_n 0, 1) := by decide +kernel
theorem d_X_back_51 : decode b_X_back 51 = .ok (.getfield 10, 3) := by decide +kernel
theorem d_X_back_54 : decode b_X_back 54 = .ok (.getfield 141, 3) := by decide +kernel
theorem d_X_back_57 : decode b_X_back 57 = .ok (.iload_n 2, 1) := by decide +kernel
theorem d_X_back_58 : decode b_X_back 58 = .ok (.dup2, 1) := by decide +kernel
theorem d_X_back_59 : decode b_X_back 59 = .ok (.iaload, 1) := by decide +kernel
theorem d_X_back_60 : decode b_X_back 60 = .ok (.aload_n 0, 1) := by decide +kernel
theorem d_X_back_61 : decode b_X_back 61 = .ok (.getfield 19, 3) := by decide +kernel
theorem d_X_back_64 : decode b_X_back 64 = .ok (.getfield 144, 3) := by decide +kernel
theorem d_X_back_67 : decode b_X_back 67 = .ok (.iload_n 1, 1) := by decide +kernel
theorem d_X_back_68 : decode b_X_back 68 = .ok (.iaload, 1) := by decide +kernel
theorem d_X_back_69 : decode b_X_back 69 = .ok (.isub, 1) := by decide +kernel
theorem d_X_back_70 : decode b_X_back 70 = .ok (.iastore, 1) := by decide +kernel
theorem d_X_back_71 : decode b_X_back 71 = .ok (.aload_n 0, 1) := by decide +kernel
theorem d_X_back_72 : decode b_X_back 72 = .ok (.iload_n 2, 1) := by decide +kernel
theorem d_X_back_73 : decode b_X_back 73 = .ok (.invokevirtual 147, 3) := by decide +kernel
theorem d_X_back_76 : decode b_X_back 76 = .ok (.ireturn, 1) := by decide +kernel
def wp_X_back (post : Int32 → ((Nat → Int32) × (Nat → Int32) × (Nat → Int32) × (Nat → Int32) × (Nat → Int32) × (Int32) × (Nat → Int32) × (Int32)) → Prop) (px : String → Prop) (a_1 : Int32) (v_slots_most : Nat → Int32) (v_slots_sold : Nat → Int32) (v_tickets_slot : Nat → Int32) (v_tickets_guests : Nat → Int32) (v_tickets_kind : Nat → Int32) (v_tickets_returned : Nat → Int32) (v_tickets_made : Int32) (v_requests_slot : Nat → Int32) (v_requests_guests : Nat → Int32) (v_requests_kind : Nat → Int32) (v_requests_ticket : Nat → Int32) (v_requests_made : Int32) (v_requests_served : Int32) (v_doors_seconds : Nat → Int32) : Prop := wp_X_needTicket (fun _ => (vp_in a_1 60 ∧ (((v_tickets_returned a_1.toNatClampNeg) = 0 → wp_XD_anyLetIn (fun r_3 _ => ((r_3 = 0 → (vp_in a_1 60 ∧ (∀ x_6 : Int32, x_6 = v_tickets_slot a_1.toNatClampNeg → (vp_in a_1 60 ∧ (∀ f_8 : Nat → Int32, f_8 = upd v_tickets_returned a_1.toNatClampNeg (vp_nar .boolean (1 : Int32)) → (vp_in x_6 8 ∧ (vp_in a_1 60 ∧ (vp_in x_6 8 ∧ (∀ f_12 : Nat → Int32, f_12 = upd v_slots_sold x_6.toNatClampNeg ((v_slots_sold x_6.toNatClampNeg) - (v_tickets_guests a_1.toNatClampNeg)) → wp_X_serveWaiting (fun r_13 u => match u with | (f_14, f_15, f_16, f_17, x_18, f_19, x_20) => post r_13 (f_14, f_15, f_16, f_17, f_8, x_18, f_19, x_20)) x_6 v_slots_most f_12 v_tickets_slot v_tickets_guests v_tickets_kind v_tickets_made v_requests_slot v_requests_guests v_requests_kind v_requests_ticket v_requests_made v_requests_served))))))))) ∧ (¬ (r_3 = 0) → post (-1 : Int32) (v_slots_sold, v_tickets_slot, v_tickets_guests, v_tickets_kind, v_tickets_returned, v_tickets_made, v_requests_ticket, v_requests_served)))) a_1 v_doors_seconds) ∧ (¬ ((v_tickets_returned a_1.toNatClampNeg) = 0) → post (-1 : Int32) (v_slots_sold, v_tickets_slot, v_tickets_guests, v_tickets_kind, v_tickets_returned, v_tickets_made, v_requests_ticket, v_requests_served))))) (px) a_1 v_tickets_made
set_option maxHeartbeats 4000000 in
set_option maxRecDepth 100000 in
theorem c_X_back (l : Launch) (hl9 : l.stackTraces = false) (dC : Nat → ClassId) (dI : Nat → Nat → Nat) (cI cJ cZ : ClassId) (q_0 q_slots q_slots_most q_slots_sold q_tickets q_tickets_slot q_tickets_guests q_tickets_kind q_tickets_returned q_requests q_requests_slot q_requests_guests q_requests_kind q_requests_ticket q_doors q_doors_seconds q_chances q_tariff q_slots_places q_slots_above q_slots_below q_doors_order q_doors_firstIn q_doors_doubles q_doors_goneOut : Nat) (a_1 : Int32) (v_slots_most : Nat → Int32) (v_slots_sold : Nat → Int32) (v_slots_made : Int32) (v_tickets_slot : Nat → Int32) (v_tickets_guests : Nat → Int32) (v_tickets_kind : Nat → Int32) (v_tickets_returned : Nat → Int32) (v_tickets_made : Int32) (v_requests_slot : Nat → Int32) (v_requests_guests : Nat → Int32) (v_requests_kind : Nat → Int32) (v_requests_ticket : Nat → Int32) (v_requests_made : Int32) (v_requests_served : Int32) (v_doors_seconds : Nat → Int32) (v_doors_found : Int32) (post : Int32 → ((Nat → Int32) × (Nat → Int32) × (Nat → Int32) × (Nat → Int32) × (Nat → Int32) × (Int32) × (Nat → Int32) × (Int32)) → Prop) (px : String → Prop) (hw : wp_X_back post px a_1 v_slots_most v_slots_sold v_tickets_slot v_tickets_guests v_tickets_kind v_tickets_returned v_tickets_made v_requests_slot v_requests_guests v_requests_kind v_requests_ticket v_requests_made v_requests_served v_doors_seconds) : Kix l y_X_back b_X_back 3 (some .int) ({ frames := 7, cells := 1, slots := 6, locals := 103 } : Room) dC dI cI cJ cZ [.ref q_0, .int a_1] [(q_0, .inr (0, [.ref q_slots, .ref q_tickets, .ref q_requests, .ref q_chances, .ref q_tariff, .ref q_doors])), (q_slots, .inr (1, [.ref q_slots_places, .ref q_slots_above, .ref q_slots_below, .ref q_slots_most, .ref q_slots_sold, .int v_slots_made])), (q_slots_most, .inl (cI, 8, .inl v_slots_most)), (q_slots_sold, .inl (cI, 8, .inl v_slots_sold)), (q_tickets, .inr (2, [.ref q_tickets_slot, .ref q_tickets_guests, .ref q_tickets_kind, .ref q_tickets_returned, .int v_tickets_made])), (q_tickets_slot, .inl (cI, 60, .inl v_tickets_slot)), (q_tickets_guests, .inl (cI, 60, .inl v_tickets_guests)), (q_tickets_kind, .inl (cI, 60, .inl v_tickets_kind)), (q_tickets_returned, .inl (cZ, 60, .inl v_tickets_returned)), (q_requests, .inr (3, [.ref q_requests_slot, .ref q_requests_guests, .ref q_requests_kind, .ref q_requests_ticket, .int v_requests_made, .int v_requests_served])), (q_requests_slot, .inl (cI, 30, .inl v_requests_slot)), (q_requests_guests, .inl (cI, 30, .inl v_requests_guests)), (q_requests_kind, .inl (cI, 30, .inl v_requests_kind)), (q_requests_ticket, .inl (cI, 30, .inl v_requests_ticket)), (q_doors, .inr (6, [.ref q_doors_seconds, .ref q_doors_order, .ref q_doors_firstIn, .ref q_doors_doubles, .int v_doors_found, .ref q_doors_goneOut])), (q_doors_seconds, .inl (cI, 360, .inl v_doors_seconds))] false px post (fun u : (Nat → Int32) × (Nat → Int32) × (Nat → Int32) × (Nat → Int32) × (Nat → Int32) × (Int32) × (Nat → Int32) × (Int32) => [(q_0, .inr (0, [.ref q_slots, .ref q_tickets, .ref q_requests, .ref q_chances, .ref q_tariff, .ref q_doors])), (q_slots, .inr (1, [.ref q_slots_places, .ref q_slots_above, .ref q_slots_below, .ref q_slots_most, .ref q_slots_sold, .int v_slots_made])), (q_slots_most, .inl (cI, 8, .inl v_slots_most)), (q_slots_sold, .inl (cI, 8, .inl u.1)), (q_tickets, .inr (2, [.ref q_tickets_slot, .ref q_tickets_guests, .ref q_tickets_kind, .ref q_tickets_returned, .int u.2.2.2.2.2.1])), (q_tickets_slot, .inl (cI, 60, .inl u.2.1)), (q_tickets_guests, .inl (cI, 60, .inl u.2.2.1)), (q_tickets_kind, .inl (cI, 60, .inl u.2.2.2.1)), (q_tickets_returned, .inl (cZ, 60, .inl u.2.2.2.2.1)), (q_requests, .inr (3, [.ref q_requests_slot, .ref q_requests_guests, .ref q_requests_kind, .ref q_requests_ticket, .int v_requests_made, .int u.2.2.2.2.2.2.2])), (q_requests_slot, .inl (cI, 30, .inl v_requests_slot)), (q_requests_guests, .inl (cI, 30, .inl v_requests_guests)), (q_requests_kind, .inl (cI, 30, .inl v_requests_kind)), (q_requests_ticket, .inl (cI, 30, .inl u.2.2.2.2.2.2.1)), (q_doors, .inr (6, [.ref q_doors_seconds, .ref q_doors_order, .ref q_doors_firstIn, .ref q_doors_doubles, .int v_doors_found, .ref q_doors_goneOut])), (q_doors_seconds, .inl (cI, 360, .inl v_doors_seconds))]) := by
  refine mkix hl9 (own := R_X) rfl (by decide) ?_
  intro p e s m args below meth c A fr C0 hEx hfr hAe hnm eav hP hD
  obtain rfl : A = fr := (hfr.trans hAe.symm).symm
  have hN : ∀ q ∈ ([] : List Loc), s.heap.size ≤ q.base := fun q h => by cases h
  have hP0 := hP
  have hD0 := hD
  obtain ⟨-, hx, hb, hml, hr, hown, hts, hlocks, hK, hZ, hA, hNS⟩ := id C0
  subst eav
  have hS : va_S A s.heap s.heap [] := va_S.rf
  have hl := lv_entry ([.ref q_0, .int a_1]) (n := 3) (Nat.le_of_ble_eq_true rfl)
  rw [lg_entry_eq]
  generalize (lg_sl ([.ref q_0, .int a_1]) ++ List.replicate (3 - (lg_sl ([.ref q_0, .int a_1])).length) Slot.unset).toArray = ls at hl ⊢
  have hl : lv_has ls 3 [(0, .ref q_0), (1, .int a_1)] := hl
  unfold wp_X_back at hw
  refine lv_aload_n hx hb d_X_back_0 rfl (lv_at hl 0 rfl) ?_
  refine lv_iload_n hx hb d_X_back_1 rfl (lv_at hl 1 rfl) ?_
  refine jxn_v C0 hP hD hS hN [0, 4] [1, 2, 3, 5, 6, 7, 8, 9, 10, 11, 12, 13, 14, 15] (ru_Vx C0 (As := [.int a_1]) (rest := []) (c_X_needTicket l hl9 dC dI cI cJ cZ q_0 q_tickets q_slots q_requests q_chances q_tariff q_doors q_tickets_slot q_tickets_guests q_tickets_kind q_tickets_returned a_1 v_tickets_made _ _ hw _) k_148 k_149 k_150 k_151 k_86 (n9 := 1) (by decide +kernel) rfl (ci := 0) rfl rfl ⟨Nat.le_of_ble_eq_true rfl, Nat.le_of_ble_eq_true rfl⟩ hP hD hS [0, 4] rfl (by decide) hl.1 rfl (Nat.le_of_ble_eq_true rfl) d_X_back_2 ⟨Nat.le_of_ble_eq_true rfl, Nat.le_of_ble_eq_true rfl⟩) rfl rfl (by decide) (by decide) (fun E ce q9 H locs hw hP hD hS hN hce hcv hcl => ?_) (fun u H locs hw hP hD hS hN => ?_)
  · exact xoi C0 hEx hw (hP.sub [14, 0, 1, 2, 15, 3, 4, 5, 6, 7, 8, 9, 10, 11, 12, 13] rfl) (hD.sub [14, 0, 1, 2, 15, 3, 4, 5, 6, 7, 8, 9, 10, 11, 12, 13] (by decide) rfl) hS hS.2.2 hce hcv hcl (by decide) (by decide)
  · try dsimp only at hw
    have hP : va_P (dC, dI) classes [(q_slots, .inr (1, [.ref q_slots_places, .ref q_slots_above, .ref q_slots_below, .ref q_slots_most, .ref q_slots_sold, .int v_slots_made])), (q_slots_most, .inl (cI, 8, .inl v_slots_most)), (q_slots_sold, .inl (cI, 8, .inl v_slots_sold)), (q_tickets_slot, .inl (cI, 60, .inl v_tickets_slot)), (q_tickets_guests, .inl (cI, 60, .inl v_tickets_guests)), (q_tickets_kind, .inl (cI, 60, .inl v_tickets_kind)), (q_tickets_returned, .inl (cZ, 60, .inl v_tickets_returned)), (q_requests, .inr (3, [.ref q_requests_slot, .ref q_requests_guests, .ref q_requests_kind, .ref q_requests_ticket, .int v_requests_made, .int v_requests_served])), (q_requests_slot, .inl (cI, 30, .inl v_requests_slot)), (q_requests_guests, .inl (cI, 30, .inl v_requests_guests)), (q_requests_kind, .inl (cI, 30, .inl v_requests_kind)), (q_requests_ticket, .inl (cI, 30, .inl v_requests_ticket)), (q_doors, .inr (6, [.ref q_doors_seconds, .ref q_doors_order, .ref q_doors_firstIn, .ref q_doors_doubles, .int v_doors_found, .ref q_doors_goneOut])), (q_doors_seconds, .inl (cI, 360, .inl v_doors_seconds)), (q_0, .inr (0, [.ref q_slots, .ref q_tickets, .ref q_requests, .ref q_chances, .ref q_tariff, .ref q_doors])), (q_tickets, .inr (2, [.ref q_tickets_slot, .ref q_tickets_guests, .ref q_tickets_kind, .ref q_tickets_returned, .int v_tickets_made]))] H := hP
    have hD : va_D A [(q_slots, .inr (1, [.ref q_slots_places, .ref q_slots_above, .ref q_slots_below, .ref q_slots_most, .ref q_slots_sold, .int v_slots_made])), (q_slots_most, .inl (cI, 8, .inl v_slots_most)), (q_slots_sold, .inl (cI, 8, .inl v_slots_sold)), (q_tickets_slot, .inl (cI, 60, .inl v_tickets_slot)), (q_tickets_guests, .inl (cI, 60, .inl v_tickets_guests)), (q_tickets_kind, .inl (cI, 60, .inl v_tickets_kind)), (q_tickets_returned, .inl (cZ, 60, .inl v_tickets_returned)), (q_requests, .inr (3, [.ref q_requests_slot, .ref q_requests_guests, .ref q_requests_kind, .ref q_requests_ticket, .int v_requests_made, .int v_requests_served])), (q_requests_slot, .inl (cI, 30, .inl v_requests_slot)), (q_requests_guests, .inl (cI, 30, .inl v_requests_guests)), (q_requests_kind, .inl (cI, 30, .inl v_requests_kind)), (q_requests_ticket, .inl (cI, 30, .inl v_requests_ticket)), (q_doors, .inr (6, [.ref q_doors_seconds, .ref q_doors_order, .ref q_doors_firstIn, .ref q_doors_doubles, .int v_doors_found, .ref q_doors_goneOut])), (q_doors_seconds, .inl (cI, 360, .inl v_doors_seconds)), (q_0, .inr (0, [.ref q_slots, .ref q_tickets, .ref q_requests, .ref q_chances, .ref q_tariff, .ref q_doors])), (q_tickets, .inr (2, [.ref q_tickets_slot, .ref q_tickets_guests, .ref q_tickets_kind, .ref q_tickets_returned, .int v_tickets_made]))] := hD
    refine lv_aload_n hx hb d_X_back_5 rfl (lv_at hl 0 rfl) ?_
    refine va_get (D := (dC, dI)) (ci := 0) (v := .ref q_tickets) (C := R_X) (T := F_X) (N := 6) hx hb hts i_X hown hK hP 14 rfl rfl 1 (by decide) (hts _ k_27) (fun _ h9 => h9) rfl d_X_back_6 ?_
    refine va_getN (D := (dC, dI)) (ci := 2) (v := .ref q_tickets_returned) (C := R_XT) (T := F_XT) (N := 5) hx hb hts i_XT hown hK hP 15 rfl rfl 3 (by decide) (va_Nw.use rfl (zn hZ z_13)) (fun _ h9 => h9) rfl d_X_back_9 ?_
    refine lv_iload_n hx hb d_X_back_12 rfl (lv_at hl 1 rfl) ?_
    obtain ⟨h_1, hw⟩ := hw
    refine va_zald hx hb hK hP 6 2 rfl rfl h_1 d_X_back_13 ?_
    refine lv_if_ne (tgt := 28) hx hb d_X_back_14 (by decide) (fun c_2 => ?_) (fun c_2 => ?_)
    · have hw := hw.2 c_2
      refine lv_iconst (v := (-1 : Int32)) hx hb d_X_back_28 (by decide) ?_
      exact rx_i (u := (v_slots_sold, v_tickets_slot, v_tickets_guests, v_tickets_kind, v_tickets_returned, v_tickets_made, v_requests_ticket, v_requests_served)) C0 hw (hP.sub [14, 0, 1, 2, 15, 3, 4, 5, 6, 7, 8, 9, 10, 11, 12, 13] rfl) (hD.sub [14, 0, 1, 2, 15, 3, 4, 5, 6, 7, 8, 9, 10, 11, 12, 13] (by decide) rfl) hS hS.2.2 (by decide) (by decide) d_X_back_29
    · have hw := hw.1 c_2
      refine lv_aload_n hx hb d_X_back_17 rfl (lv_at hl 0 rfl) ?_
      refine va_get (D := (dC, dI)) (ci := 0) (v := .ref q_doors) (C := R_X) (T := F_X) (N := 6) hx hb hts i_X hown hK hP 14 rfl rfl 5 (by decide) (hts _ k_76) (fun _ h9 => h9) rfl d_X_back_18 ?_
      refine lv_iload_n hx hb d_X_back_21 rfl (lv_at hl 1 rfl) ?_
      refine jn_i C0 hP hD hS [12, 13] [0, 1, 2, 3, 4, 5, 6, 7, 8, 9, 10, 11, 14, 15] (ru_V C0 (As := [.int a_1]) (rest := []) (c_XD_anyLetIn l hl9 dC dI cI cJ cZ q_doors q_doors_seconds q_doors_order q_doors_firstIn q_doors_doubles q_doors_goneOut a_1 v_doors_seconds v_doors_found _ hw _) k_156 k_157 k_158 k_159 k_62 (n9 := 1) (by decide +kernel) rfl (ci := 6) rfl rfl ⟨Nat.le_of_ble_eq_true rfl, Nat.le_of_ble_eq_true rfl⟩ hP hD hS [12, 13] rfl (by decide) hl.1 rfl (Nat.le_of_ble_eq_true rfl) d_X_back_22 ⟨Nat.le_of_ble_eq_true rfl, Nat.le_of_ble_eq_true rfl⟩) rfl rfl (by decide) (by decide) (fun r_3 u H locs hw hP hD hS => ?_)
      try dsimp only at hw
      have hP : va_P (dC, dI) classes [(q_slots, .inr (1, [.ref q_slots_places, .ref q_slots_above, .ref q_slots_below, .ref q_slots_most, .ref q_slots_sold, .int v_slots_made])), (q_slots_most, .inl (cI, 8, .inl v_slots_most)), (q_slots_sold, .inl (cI, 8, .inl v_slots_sold)), (q_tickets_slot, .inl (cI, 60, .inl v_tickets_slot)), (q_tickets_guests, .inl (cI, 60, .inl v_tickets_guests)), (q_tickets_kind, .inl (cI, 60, .inl v_tickets_kind)), (q_tickets_returned, .inl (cZ, 60, .inl v_tickets_returned)), (q_requests, .inr (3, [.ref q_requests_slot, .ref q_requests_guests, .ref q_requests_kind, .ref q_requests_ticket, .int v_requests_made, .int v_requests_served])), (q_requests_slot, .inl (cI, 30, .inl v_requests_slot)), (q_requests_guests, .inl (cI, 30, .inl v_requests_guests)), (q_requests_kind, .inl (cI, 30, .inl v_requests_kind)), (q_requests_ticket, .inl (cI, 30, .inl v_requests_ticket)), (q_0, .inr (0, [.ref q_slots, .ref q_tickets, .ref q_requests, .ref q_chances, .ref q_tariff, .ref q_doors])), (q_tickets, .inr (2, [.ref q_tickets_slot, .ref q_tickets_guests, .ref q_tickets_kind, .ref q_tickets_returned, .int v_tickets_made])), (q_doors, .inr (6, [.ref q_doors_seconds, .ref q_doors_order, .ref q_doors_firstIn, .ref q_doors_doubles, .int v_doors_found, .ref q_doors_goneOut])), (q_doors_seconds, .inl (cI, 360, .inl v_doors_seconds))] H := hP
      have hD : va_D A [(q_slots, .inr (1, [.ref q_slots_places, .ref q_slots_above, .ref q_slots_below, .ref q_slots_most, .ref q_slots_sold, .int v_slots_made])), (q_slots_most, .inl (cI, 8, .inl v_slots_most)), (q_slots_sold, .inl (cI, 8, .inl v_slots_sold)), (q_tickets_slot, .inl (cI, 60, .inl v_tickets_slot)), (q_tickets_guests, .inl (cI, 60, .inl v_tickets_guests)), (q_tickets_kind, .inl (cI, 60, .inl v_tickets_kind)), (q_tickets_returned, .inl (cZ, 60, .inl v_tickets_returned)), (q_requests, .inr (3, [.ref q_requests_slot, .ref q_requests_guests, .ref q_requests_kind, .ref q_requests_ticket, .int v_requests_made, .int v_requests_served])), (q_requests_slot, .inl (cI, 30, .inl v_requests_slot)), (q_requests_guests, .inl (cI, 30, .inl v_requests_guests)), (q_requests_kind, .inl (cI, 30, .inl v_requests_kind)), (q_requests_ticket, .inl (cI, 30, .inl v_requests_ticket)), (q_0, .inr (0, [.ref q_slots, .ref q_tickets, .ref q_requests, .ref q_chances, .ref q_tariff, .ref q_doors])), (q_tickets, .inr (2, [.ref q_tickets_slot, .ref q_tickets_guests, .ref q_tickets_kind, .ref q_tickets_returned, .int v_tickets_made])), (q_doors, .inr (6, [.ref q_doors_seconds, .ref q_doors_order, .ref q_doors_firstIn, .ref q_doors_doubles, .int v_doors_found, .ref q_doors_goneOut])), (q_doors_seconds, .inl (cI, 360, .inl v_doors_seconds))] := hD
      refine lv_if_eq (tgt := 30) hx hb d_X_back_25 (by decide) (fun c_4 => ?_) (fun c_4 => ?_)
      · have hw := hw.1 c_4
        refine lv_aload_n hx hb d_X_back_30 rfl (lv_at hl 0 rfl) ?_
        refine va_get (D := (dC, dI)) (ci := 0) (v := .ref q_tickets) (C := R_X) (T := F_X) (N := 6) hx hb hts i_X hown hK hP 12 rfl rfl 1 (by decide) (hts _ k_27) (fun _ h9 => h9) rfl d_X_back_31 ?_
        refine va_getN (D := (dC, dI)) (ci := 2) (v := .ref q_tickets_slot) (C := R_XT) (T := F_XT) (N := 5) hx hb hts i_XT hown hK hP 13 rfl rfl 0 (by decide) (va_Nw.use rfl (zn hZ z_14)) (fun _ h9 => h9) rfl d_X_back_34 ?_
        refine lv_iload_n hx hb d_X_back_37 rfl (lv_at hl 1 rfl) ?_
        obtain ⟨h_5, hw⟩ := hw
        refine va_iald hx hb hK hP 3 0 rfl rfl h_5 d_X_back_38 ?_
        refine lv_topi (fun x_6 ex_6 => ?_)
        have hw := hw x_6 ex_6
        refine lv_istore_n (lv' := [(2, .int x_6), (0, .ref q_0), (1, .int a_1)]) hx hb d_X_back_39 rfl hl (by decide) rfl (fun ls hl => ?_)
        refine lv_aload_n hx hb d_X_back_40 rfl (lv_at hl 1 rfl) ?_
        refine va_get (D := (dC, dI)) (ci := 0) (v := .ref q_tickets) (C := R_X) (T := F_X) (N := 6) hx hb hts i_X hown hK hP 12 rfl rfl 1 (by decide) (hts _ k_27) (fun _ h9 => h9) rfl d_X_back_41 ?_
        refine va_getN (D := (dC, dI)) (ci := 2) (v := .ref q_tickets_returned) (C := R_XT) (T := F_XT) (N := 5) hx hb hts i_XT hown hK hP 13 rfl rfl 3 (by decide) (va_Nw.use rfl (zn hZ z_13)) (fun _ h9 => h9) rfl d_X_back_44 ?_
        refine lv_iload_n hx hb d_X_back_47 rfl (lv_at hl 2 rfl) ?_
        refine lv_iconst (v := (1 : Int32)) hx hb d_X_back_48 (by decide) ?_
        obtain ⟨h_7, hw⟩ := hw
        refine va_zast hx hb hK hP hD hS 6 2 rfl rfl h_7 d_X_back_49 (fun H locs hP hD hS => ?_)
        obtain ⟨f_8, ef_8⟩ : ∃ g : Nat → Int32, g = upd v_tickets_returned a_1.toNatClampNeg (vp_nar .boolean (1 : Int32)) := ⟨_, rfl⟩
        have hw := hw f_8 ef_8
        have hP : va_P (dC, dI) classes [(q_slots, .inr (1, [.ref q_slots_places, .ref q_slots_above, .ref q_slots_below, .ref q_slots_most, .ref q_slots_sold, .int v_slots_made])), (q_slots_most, .inl (cI, 8, .inl v_slots_most)), (q_slots_sold, .inl (cI, 8, .inl v_slots_sold)), (q_tickets_slot, .inl (cI, 60, .inl v_tickets_slot)), (q_tickets_guests, .inl (cI, 60, .inl v_tickets_guests)), (q_tickets_kind, .inl (cI, 60, .inl v_tickets_kind)), (q_tickets_returned, .inl (cZ, 60, .inl f_8)), (q_requests, .inr (3, [.ref q_requests_slot, .ref q_requests_guests, .ref q_requests_kind, .ref q_requests_ticket, .int v_requests_made, .int v_requests_served])), (q_requests_slot, .inl (cI, 30, .inl v_requests_slot)), (q_requests_guests, .inl (cI, 30, .inl v_requests_guests)), (q_requests_kind, .inl (cI, 30, .inl v_requests_kind)), (q_requests_ticket, .inl (cI, 30, .inl v_requests_ticket)), (q_0, .inr (0, [.ref q_slots, .ref q_tickets, .ref q_requests, .ref q_chances, .ref q_tariff, .ref q_doors])), (q_tickets, .inr (2, [.ref q_tickets_slot, .ref q_tickets_guests, .ref q_tickets_kind, .ref q_tickets_returned, .int v_tickets_made])), (q_doors, .inr (6, [.ref q_doors_seconds, .ref q_doors_order, .ref q_doors_firstIn, .ref q_doors_doubles, .int v_doors_found, .ref q_doors_goneOut])), (q_doors_seconds, .inl (cI, 360, .inl v_doors_seconds))] H := by rw [ef_8]; exact hP
        have hD : va_D A [(q_slots, .inr (1, [.ref q_slots_places, .ref q_slots_above, .ref q_slots_below, .ref q_slots_most, .ref q_slots_sold, .int v_slots_made])), (q_slots_most, .inl (cI, 8, .inl v_slots_most)), (q_slots_sold, .inl (cI, 8, .inl v_slots_sold)), (q_tickets_slot, .inl (cI, 60, .inl v_tickets_slot)), (q_tickets_guests, .inl (cI, 60, .inl v_tickets_guests)), (q_tickets_kind, .inl (cI, 60, .inl v_tickets_kind)), (q_tickets_returned, .inl (cZ, 60, .inl f_8)), (q_requests, .inr (3, [.ref q_requests_slot, .ref q_requests_guests, .ref q_requests_kind, .ref q_requests_ticket, .int v_requests_made, .int v_requests_served])), (q_requests_slot, .inl (cI, 30, .inl v_requests_slot)), (q_requests_guests, .inl (cI, 30, .inl v_requests_guests)), (q_requests_kind, .inl (cI, 30, .inl v_requests_kind)), (q_requests_ticket, .inl (cI, 30, .inl v_requests_ticket)), (q_0, .inr (0, [.ref q_slots, .ref q_tickets, .ref q_requests, .ref q_chances, .ref q_tariff, .ref q_doors])), (q_tickets, .inr (2, [.ref q_tickets_slot, .ref q_tickets_guests, .ref q_tickets_kind, .ref q_tickets_returned, .int v_tickets_made])), (q_doors, .inr (6, [.ref q_doors_seconds, .ref q_doors_order, .ref q_doors_firstIn, .ref q_doors_doubles, .int v_doors_found, .ref q_doors_goneOut])), (q_doors_seconds, .inl (cI, 360, .inl v_doors_seconds))] := by rw [ef_8]; exact hD
        refine lv_aload_n hx hb d_X_back_50 rfl (lv_at hl 1 rfl) ?_
        refine va_get (D := (dC, dI)) (ci := 0) (v := .ref q_slots) (C := R_X) (T := F_X) (N := 6) hx hb hts i_X hown hK hP 12 rfl rfl 0 (by decide) (hts _ k_15) (fun _ h9 => h9) rfl d_X_back_51 ?_
        refine va_getN (D := (dC, dI)) (ci := 1) (v := .ref q_slots_sold) (C := R_XS) (T := F_XS) (N := 6) hx hb hts i_XS hown hK hP 0 rfl rfl 4 (by decide) (va_Nw.use rfl (zn hZ z_12)) (fun _ h9 => h9) rfl d_X_back_54 ?_
        refine lv_iload_n hx hb d_X_back_57 rfl (lv_at hl 0 rfl) ?_
        refine lv_dup2_11 hx hb d_X_back_58 rfl rfl ?_
        obtain ⟨h_9, hw⟩ := hw
        refine va_iald hx hb hK hP 2 0 rfl rfl h_9 d_X_back_59 ?_
        refine lv_aload_n hx hb d_X_back_60 rfl (lv_at hl 1 rfl) ?_
        refine va_get (D := (dC, dI)) (ci := 0) (v := .ref q_tickets) (C := R_X) (T := F_X) (N := 6) hx hb hts i_X hown hK hP 12 rfl rfl 1 (by decide) (hts _ k_27) (fun _ h9 => h9) rfl d_X_back_61 ?_
        refine va_getN (D := (dC, dI)) (ci := 2) (v := .ref q_tickets_guests) (C := R_XT) (T := F_XT) (N := 5) hx hb hts i_XT hown hK hP 13 rfl rfl 1 (by decide) (va_Nw.use rfl (zn hZ z_15)) (fun _ h9 => h9) rfl d_X_back_64 ?_
        refine lv_iload_n hx hb d_X_back_67 rfl (lv_at hl 2 rfl) ?_
        obtain ⟨h_10, hw⟩ := hw
        refine va_iald hx hb hK hP 4 0 rfl rfl h_10 d_X_back_68 ?_
        refine lv_isub hx hb d_X_back_69 ?_
        obtain ⟨h_11, hw⟩ := hw
        refine va_iast hx hb hK hP hD hS 2 0 rfl rfl h_11 d_X_back_70 (fun H locs hP hD hS => ?_)
        obtain ⟨f_12, ef_12⟩ : ∃ g : Nat → Int32, g = upd v_slots_sold x_6.toNatClampNeg ((v_slots_sold x_6.toNatClampNeg) - (v_tickets_guests a_1.toNatClampNeg)) := ⟨_, rfl⟩
        have hw := hw f_12 ef_12
        have hP : va_P (dC, dI) classes [(q_slots, .inr (1, [.ref q_slots_places, .ref q_slots_above, .ref q_slots_below, .ref q_slots_most, .ref q_slots_sold, .int v_slots_made])), (q_slots_most, .inl (cI, 8, .inl v_slots_most)), (q_slots_sold, .inl (cI, 8, .inl f_12)), (q_tickets_slot, .inl (cI, 60, .inl v_tickets_slot)), (q_tickets_guests, .inl (cI, 60, .inl v_tickets_guests)), (q_tickets_kind, .inl (cI, 60, .inl v_tickets_kind)), (q_tickets_returned, .inl (cZ, 60, .inl f_8)), (q_requests, .inr (3, [.ref q_requests_slot, .ref q_requests_guests, .ref q_requests_kind, .ref q_requests_ticket, .int v_requests_made, .int v_requests_served])), (q_requests_slot, .inl (cI, 30, .inl v_requests_slot)), (q_requests_guests, .inl (cI, 30, .inl v_requests_guests)), (q_requests_kind, .inl (cI, 30, .inl v_requests_kind)), (q_requests_ticket, .inl (cI, 30, .inl v_requests_ticket)), (q_0, .inr (0, [.ref q_slots, .ref q_tickets, .ref q_requests, .ref q_chances, .ref q_tariff, .ref q_doors])), (q_tickets, .inr (2, [.ref q_tickets_slot, .ref q_tickets_guests, .ref q_tickets_kind, .ref q_tickets_returned, .int v_tickets_made])), (q_doors, .inr (6, [.ref q_doors_seconds, .ref q_doors_order, .ref q_doors_firstIn, .ref q_doors_doubles, .int v_doors_found, .ref q_doors_goneOut])), (q_doors_seconds, .inl (cI, 360, .inl v_doors_seconds))] H := by rw [ef_12]; exact hP
        have hD : va_D A [(q_slots, .inr (1, [.ref q_slots_places, .ref q_slots_above, .ref q_slots_below, .ref q_slots_most, .ref q_slots_sold, .int v_slots_made])), (q_slots_most, .inl (cI, 8, .inl v_slots_most)), (q_slots_sold, .inl (cI, 8, .inl f_12)), (q_tickets_slot, .inl (cI, 60, .inl v_tickets_slot)), (q_tickets_guests, .inl (cI, 60, .inl v_tickets_guests)), (q_tickets_kind, .inl (cI, 60, .inl v_tickets_kind)), (q_tickets_returned, .inl (cZ, 60, .inl f_8)), (q_requests, .inr (3, [.ref q_requests_slot, .ref q_requests_guests, .ref q_requests_kind, .ref q_requests_ticket, .int v_requests_made, .int v_requests_served])), (q_requests_slot, .inl (cI, 30, .inl v_requests_slot)), (q_requests_guests, .inl (cI, 30, .inl v_requests_guests)), (q_requests_kind, .inl (cI, 30, .inl v_requests_kind)), (q_requests_ticket, .inl (cI, 30, .inl v_requests_ticket)), (q_0, .inr (0, [.ref q_slots, .ref q_tickets, .ref q_requests, .ref q_chances, .ref q_tariff, .ref q_doors])), (q_tickets, .inr (2, [.ref q_tickets_slot, .ref q_tickets_guests, .ref q_tickets_kind, .ref q_tickets_returned, .int v_tickets_made])), (q_doors, .inr (6, [.ref q_doors_seconds, .ref q_doors_order, .ref q_doors_firstIn, .ref q_doors_doubles, .int v_doors_found, .ref q_doors_goneOut])), (q_doors_seconds, .inl (cI, 360, .inl v_doors_seconds))] := by rw [ef_12]; exact hD
        refine lv_aload_n hx hb d_X_back_71 rfl (lv_at hl 1 rfl) ?_
        refine lv_iload_n hx hb d_X_back_72 rfl (lv_at hl 0 rfl) ?_
        refine jn_i C0 hP hD hS [12, 0, 1, 2, 13, 3, 4, 5, 7, 8, 9, 10, 11] [6, 14, 15] (ru_V C0 (As := [.int x_6]) (rest := []) (c_X_serveWaiting l hl9 dC dI cI cJ cZ q_0 q_slots q_slots_most q_slots_sold q_tickets q_tickets_slot q_tickets_guests q_tickets_kind q_requests q_requests_slot q_requests_guests q_requests_kind q_requests_ticket q_chances q_tariff q_doors q_slots_places q_slots_above q_slots_below q_tickets_returned x_6 v_slots_most f_12 v_slots_made v_tickets_slot v_tickets_guests v_tickets_kind v_tickets_made v_requests_slot v_requests_guests v_requests_kind v_requests_ticket v_requests_made v_requests_served _ hw _) k_169 k_170 k_171 k_172 k_86 (n9 := 1) (by decide +kernel) rfl (ci := 0) rfl rfl ⟨Nat.le_of_ble_eq_true rfl, Nat.le_of_ble_eq_true rfl⟩ hP hD hS [12, 0, 1, 2, 13, 3, 4, 5, 7, 8, 9, 10, 11] rfl (by decide) hl.1 rfl (Nat.le_of_ble_eq_true rfl) d_X_back_73 ⟨Nat.le_of_ble_eq_true rfl, Nat.le_of_ble_eq_true rfl⟩) rfl rfl (by decide) (by decide) (fun r_13 u H locs hw hP hD hS => ?_)
        obtain ⟨f_14, f_15, f_16, f_17, x_18, f_19, x_20⟩ := u
        try dsimp only at hw
        have hP : va_P (dC, dI) classes [(q_tickets_returned, .inl (cZ, 60, .inl f_8)), (q_doors, .inr (6, [.ref q_doors_seconds, .ref q_doors_order, .ref q_doors_firstIn, .ref q_doors_doubles, .int v_doors_found, .ref q_doors_goneOut])), (q_doors_seconds, .inl (cI, 360, .inl v_doors_seconds)), (q_0, .inr (0, [.ref q_slots, .ref q_tickets, .ref q_requests, .ref q_chances, .ref q_tariff, .ref q_doors])), (q_slots, .inr (1, [.ref q_slots_places, .ref q_slots_above, .ref q_slots_below, .ref q_slots_most, .ref q_slots_sold, .int v_slots_made])), (q_slots_most, .inl (cI, 8, .inl v_slots_most)), (q_slots_sold, .inl (cI, 8, .inl f_14)), (q_tickets, .inr (2, [.ref q_tickets_slot, .ref q_tickets_guests, .ref q_tickets_kind, .ref q_tickets_returned, .int x_18])), (q_tickets_slot, .inl (cI, 60, .inl f_15)), (q_tickets_guests, .inl (cI, 60, .inl f_16)), (q_tickets_kind, .inl (cI, 60, .inl f_17)), (q_requests, .inr (3, [.ref q_requests_slot, .ref q_requests_guests, .ref q_requests_kind, .ref q_requests_ticket, .int v_requests_made, .int x_20])), (q_requests_slot, .inl (cI, 30, .inl v_requests_slot)), (q_requests_guests, .inl (cI, 30, .inl v_requests_guests)), (q_requests_kind, .inl (cI, 30, .inl v_requests_kind)), (q_requests_ticket, .inl (cI, 30, .inl f_19))] H := hP
        have hD : va_D A [(q_tickets_returned, .inl (cZ, 60, .inl f_8)), (q_doors, .inr (6, [.ref q_doors_seconds, .ref q_doors_order, .ref q_doors_firstIn, .ref q_doors_doubles, .int v_doors_found, .ref q_doors_goneOut])), (q_doors_seconds, .inl (cI, 360, .inl v_doors_seconds)), (q_0, .inr (0, [.ref q_slots, .ref q_tickets, .ref q_requests, .ref q_chances, .ref q_tariff, .ref q_doors])), (q_slots, .inr (1, [.ref q_slots_places, .ref q_slots_above, .ref q_slots_below, .ref q_slots_most, .ref q_slots_sold, .int v_slots_made])), (q_slots_most, .inl (cI, 8, .inl v_slots_most)), (q_slots_sold, .inl (cI, 8, .inl f_14)), (q_tickets, .inr (2, [.ref q_tickets_slot, .ref q_tickets_guests, .ref q_tickets_kind, .ref q_tickets_returned, .int x_18])), (q_tickets_slot, .inl (cI, 60, .inl f_15)), (q_tickets_guests, .inl (cI, 60, .inl f_16)), (q_tickets_kind, .inl (cI, 60, .inl f_17)), (q_requests, .inr (3, [.ref q_requests_slot, .ref q_requests_guests, .ref q_requests_kind, .ref q_requests_ticket, .int v_requests_made, .int x_20])), (q_requests_slot, .inl (cI, 30, .inl v_requests_slot)), (q_requests_guests, .inl (cI, 30, .inl v_requests_guests)), (q_requests_kind, .inl (cI, 30, .inl v_requests_kind)), (q_requests_ticket, .inl (cI, 30, .inl f_19))] := hD
        exact rx_i (u := (f_14, f_15, f_16, f_17, f_8, x_18, f_19, x_20)) C0 hw (hP.sub [3, 4, 5, 6, 7, 8, 9, 10, 0, 11, 12, 13, 14, 15, 1, 2] rfl) (hD.sub [3, 4, 5, 6, 7, 8, 9, 10, 0, 11, 12, 13, 14, 15, 1, 2] (by decide) rfl) hS hS.2.2 (by decide) (by decide) d_X_back_76
      · have hw := hw.2 c_4
        refine lv_iconst (v := (-1 : Int32)) hx hb d_X_back_28 (by decide) ?_
        exact rx_i (u := (v_slots_sold, v_tickets_slot, v_tickets_guests, v_tickets_kind, v_tickets_returned, v_tickets_made, v_requests_ticket, v_requests_served)) C0 hw (hP.sub [12, 0, 1, 2, 13, 3, 4, 5, 6, 7, 8, 9, 10, 11, 14, 15] rfl) (hD.sub [12, 0, 1, 2, 13, 3, 4, 5, 6, 7, 8, 9, 10, 11, 14, 15] (by decide) rfl) hS hS.2.2 (by decide) (by decide) d_X_back_29
theorem d_X_waits_0 : decode b_X_waits 0 = .ok (.aload_n 0, 1) := by decide +kernel
theorem d_X_waits_1 : decode b_X_waits 1 = .ok (.iload_n 1, 1) := by decide +kernel
theorem d_X_waits_2 : decode b_X_waits 2 = .ok (.invokevirtual 71, 3) := by decide +kernel
theorem d_X_waits_5 : decode b_X_waits 5 = .ok (.iload_n 3, 1) := by decide +kernel
theorem d_X_waits_6 : decode b_X_waits 6 = .ok (.invokestatic 110, 3) := by decide +kernel
theorem d_X_waits_9 : decode b_X_waits 9 = .ok (.aload_n 0, 1) := by decide +kernel
theorem d_X_waits_10 : decode b_X_waits 10 = .ok (.getfield 26, 3) := by decide +kernel
theorem d_X_waits_13 : decode b_X_waits 13 = .ok (.getfield 150, 3) := by decide +kernel
theorem d_X_waits_16 : decode b_X_waits 16 = .ok (.bipush 30, 2) := by decide +kernel
theorem d_X_waits_18 : decode b_X_waits 18 = .ok (.if_icmp .lt 13, 3) := by decide +kernel
theorem d_X_waits_21 : decode b_X_waits 21 = .ok (.new 55, 3) := by decide +kernel
theorem d_X_waits_24 : decode b_X_waits 24 = .ok (.dup, 1) := by decide +kernel
theorem d_X_waits_25 : decode b_X_waits 25 = .ok (.ldc 151, 2) := by decide +kernel
theorem d_X_waits_27 : decode b_X_waits 27 = .ok (.invokespecial 59, 3) := by decide +kernel
theorem d_X_waits_30 : decode b_X_waits 30 = .ok (.athrow, 1) := by decide +kernel
theorem d_X_waits_31 : decode b_X_waits 31 = .ok (.iload_n 2, 1) := by decide +kernel
theorem d_X_waits_32 : decode b_X_waits 32 = .ok (.invokestatic 116, 3) := by decide +kernel
theorem d_X_waits_35 : decode b_X_waits 35 = .ok (.aload_n 0, 1) := by decide +kernel
theorem d_X_waits_36 : decode b_X_waits 36 = .ok (.getfield 26, 3) := by decide +kernel
theorem d_X_waits_39 : decode b_X_waits 39 = .ok (.iload_n 1, 1) := by decide +kernel
theorem d_X_waits_40 : decode b_X_waits 40 = .ok (.iload_n 2, 1) := by decide +kernel
theorem d_X_waits_41 : decode b_X_waits 41 = .ok (.iload_n 3, 1) := by decide +kernel
theorem d_X_waits_42 : decode b_X_waits 42 = .ok (.invokevirtual 153, 3) := by decide +kernel
theorem d_X_waits_45 : decode b_X_waits 45 = .ok (.ireturn, 1) := by decide +kernel
def wp_X_waits (post : Int32 → ((Nat → Int32) × (Nat → Int32) × (Nat → Int32) × (Nat → Int32) × (Int32)) → Prop) (px : String → Prop) (a_1 : Int32) (a_2 : Int32) (a_3 : Int32) (v_slots_made : Int32) (v_requests_slot : Nat → Int32) (v_requests_guests : Nat → Int32) (v_requests_kind : Nat → Int32) (v_requests_ticket : Nat → Int32) (v_requests_made : Int32) : Prop := wp_X_needSlot (fun _ => wp_X_needKind (fun _ => ((v_requests_made < (30 : Int32) → wp_X_needGroup (fun _ => wp_XR_add (fun r_2 u => match u with | (f_3, f_4, f_5, f_6, x_7) => post r_2 (f_3, f_4, f_5, f_6, x_7)) a_1 a_2 a_3 v_requests_slot v_requests_guests v_requests_kind v_requests_ticket v_requests_made) (px) a_2) ∧ (¬ (v_requests_made < (30 : Int32)) → px "java/lang/IllegalStateException"))) (px) a_3) (px) a_1 v_slots_made
set_option maxHeartbeats 4000000 in
set_option maxRecDepth 100000 in
theorem c_X_waits (l : Launch) (hl9 : l.stackTraces = false) (dC : Nat → ClassId) (dI : Nat → Nat → Nat) (cI cJ cZ : ClassId) (q_0 q_slots q_requests q_requests_slot q_requests_guests q_requests_kind q_requests_ticket q_tickets q_chances q_tariff q_doors q_slots_places q_slots_above q_slots_below q_slots_most q_slots_sold : Nat) (a_1 : Int32) (a_2 : Int32) (a_3 : Int32) (v_slots_made : Int32) (v_requests_slot : Nat → Int32) (v_requests_guests : Nat → Int32) (v_requests_kind : Nat → Int32) (v_requests_ticket : Nat → Int32) (v_requests_made : Int32) (v_requests_served : Int32) (post : Int32 → ((Nat → Int32) × (Nat → Int32) × (Nat → Int32) × (Nat → Int32) × (Int32)) → Prop) (px : String → Prop) (hw : wp_X_waits post px a_1 a_2 a_3 v_slots_made v_requests_slot v_requests_guests v_requests_kind v_requests_ticket v_requests_made) : Kix l y_X_waits b_X_waits 4 (some .int) ({ frames := 7, cells := 1, slots := 6, locals := 103 } : Room) dC dI cI cJ cZ [.ref q_0, .int a_1, .int a_2, .int a_3] [(q_0, .inr (0, [.ref q_slots, .ref q_tickets, .ref q_requests, .ref q_chances, .ref q_tariff, .ref q_doors])), (q_slots, .inr (1, [.ref q_slots_places, .ref q_slots_above, .ref q_slots_below, .ref q_slots_most, .ref q_slots_sold, .int v_slots_made])), (q_requests, .inr (3, [.ref q_requests_slot, .ref q_requests_guests, .ref q_requests_kind, .ref q_requests_ticket, .int v_requests_made, .int v_requests_served])), (q_requests_slot, .inl (cI, 30, .inl v_requests_slot)), (q_requests_guests, .inl (cI, 30, .inl v_requests_guests)), (q_requests_kind, .inl (cI, 30, .inl v_requests_kind)), (q_requests_ticket, .inl (cI, 30, .inl v_requests_ticket))] false px post (fun u : (Nat → Int32) × (Nat → Int32) × (Nat → Int32) × (Nat → Int32) × (Int32) => [(q_0, .inr (0, [.ref q_slots, .ref q_tickets, .ref q_requests, .ref q_chances, .ref q_tariff, .ref q_doors])), (q_slots, .inr (1, [.ref q_slots_places, .ref q_slots_above, .ref q_slots_below, .ref q_slots_most, .ref q_slots_sold, .int v_slots_made])), (q_requests, .inr (3, [.ref q_requests_slot, .ref q_requests_guests, .ref q_requests_kind, .ref q_requests_ticket, .int u.2.2.2.2, .int v_requests_served])), (q_requests_slot, .inl (cI, 30, .inl u.1)), (q_requests_guests, .inl (cI, 30, .inl u.2.1)), (q_requests_kind, .inl (cI, 30, .inl u.2.2.1)), (q_requests_ticket, .inl (cI, 30, .inl u.2.2.2.1))]) := by
  refine mkix hl9 (own := R_X) rfl (by decide) ?_
  intro p e s m args below meth c A fr C0 hEx hfr hAe hnm eav hP hD
  obtain rfl : A = fr := (hfr.trans hAe.symm).symm
  have hN : ∀ q ∈ ([] : List Loc), s.heap.size ≤ q.base := fun q h => by cases h
  have hP0 := hP
  have hD0 := hD
  obtain ⟨-, hx, hb, hml, hr, hown, hts, hlocks, hK, hZ, hA, hNS⟩ := id C0
  subst eav
  have hS : va_S A s.heap s.heap [] := va_S.rf
  have hl := lv_entry ([.ref q_0, .int a_1, .int a_2, .int a_3]) (n := 4) (Nat.le_of_ble_eq_true rfl)
  rw [lg_entry_eq]
  generalize (lg_sl ([.ref q_0, .int a_1, .int a_2, .int a_3]) ++ List.replicate (4 - (lg_sl ([.ref q_0, .int a_1, .int a_2, .int a_3])).length) Slot.unset).toArray = ls at hl ⊢
  have hl : lv_has ls 4 [(0, .ref q_0), (1, .int a_1), (2, .int a_2), (3, .int a_3)] := hl
  unfold wp_X_waits at hw
  refine lv_aload_n hx hb d_X_waits_0 rfl (lv_at hl 0 rfl) ?_
  refine lv_iload_n hx hb d_X_waits_1 rfl (lv_at hl 1 rfl) ?_
  refine jxn_v C0 hP hD hS hN [0, 1] [2, 3, 4, 5, 6] (ru_Vx C0 (As := [.int a_1]) (rest := []) (c_X_needSlot l hl9 dC dI cI cJ cZ q_0 q_slots q_tickets q_requests q_chances q_tariff q_doors q_slots_places q_slots_above q_slots_below q_slots_most q_slots_sold a_1 v_slots_made _ _ hw _) k_82 k_83 k_84 k_85 k_86 (n9 := 1) (by decide +kernel) rfl (ci := 0) rfl rfl ⟨Nat.le_of_ble_eq_true rfl, Nat.le_of_ble_eq_true rfl⟩ hP hD hS [0, 1] rfl (by decide) hl.1 rfl (Nat.le_of_ble_eq_true rfl) d_X_waits_2 ⟨Nat.le_of_ble_eq_true rfl, Nat.le_of_ble_eq_true rfl⟩) rfl rfl (by decide) (by decide) (fun E ce q9 H locs hw hP hD hS hN hce hcv hcl => ?_) (fun u H locs hw hP hD hS hN => ?_)
  · exact xoi C0 hEx hw (hP.sub [5, 6, 0, 1, 2, 3, 4] rfl) (hD.sub [5, 6, 0, 1, 2, 3, 4] (by decide) rfl) hS hS.2.2 hce hcv hcl (by decide) (by decide)
  · try dsimp only at hw
    have hP : va_P (dC, dI) classes [(q_requests, .inr (3, [.ref q_requests_slot, .ref q_requests_guests, .ref q_requests_kind, .ref q_requests_ticket, .int v_requests_made, .int v_requests_served])), (q_requests_slot, .inl (cI, 30, .inl v_requests_slot)), (q_requests_guests, .inl (cI, 30, .inl v_requests_guests)), (q_requests_kind, .inl (cI, 30, .inl v_requests_kind)), (q_requests_ticket, .inl (cI, 30, .inl v_requests_ticket)), (q_0, .inr (0, [.ref q_slots, .ref q_tickets, .ref q_requests, .ref q_chances, .ref q_tariff, .ref q_doors])), (q_slots, .inr (1, [.ref q_slots_places, .ref q_slots_above, .ref q_slots_below, .ref q_slots_most, .ref q_slots_sold, .int v_slots_made]))] H := hP
    have hD : va_D A [(q_requests, .inr (3, [.ref q_requests_slot, .ref q_requests_guests, .ref q_requests_kind, .ref q_requests_ticket, .int v_requests_made, .int v_requests_served])), (q_requests_slot, .inl (cI, 30, .inl v_requests_slot)), (q_requests_guests, .inl (cI, 30, .inl v_requests_guests)), (q_requests_kind, .inl (cI, 30, .inl v_requests_kind)), (q_requests_ticket, .inl (cI, 30, .inl v_requests_ticket)), (q_0, .inr (0, [.ref q_slots, .ref q_tickets, .ref q_requests, .ref q_chances, .ref q_tariff, .ref q_doors])), (q_slots, .inr (1, [.ref q_slots_places, .ref q_slots_above, .ref q_slots_below, .ref q_slots_most, .ref q_slots_sold, .int v_slots_made]))] := hD
    refine lv_iload_n hx hb d_X_waits_5 rfl (lv_at hl 3 rfl) ?_
    refine jxn_v C0 hP hD hS hN [] [0, 1, 2, 3, 4, 5, 6] (ru_Sx C0 (As := [.int a_3]) (rest := []) (c_X_needKind l hl9 dC dI cI cJ cZ a_3 _ _ hw _) k_129 k_130 k_131 k_86 (n9 := 1) (by decide +kernel) rfl ⟨Nat.le_of_ble_eq_true rfl, Nat.le_of_ble_eq_true rfl⟩ hP hD hS [] rfl (by decide) hl.1 rfl (Nat.le_of_ble_eq_true rfl) d_X_waits_6 ⟨Nat.le_of_ble_eq_true rfl, Nat.le_of_ble_eq_true rfl⟩) rfl rfl (by decide) (by decide) (fun E ce q9 H locs hw hP hD hS hN hce hcv hcl => ?_) (fun u H locs hw hP hD hS hN => ?_)
    · exact xoi C0 hEx hw (hP.sub [5, 6, 0, 1, 2, 3, 4] rfl) (hD.sub [5, 6, 0, 1, 2, 3, 4] (by decide) rfl) hS hS.2.2 hce hcv hcl (by decide) (by decide)
    · try dsimp only at hw
      have hP : va_P (dC, dI) classes [(q_requests, .inr (3, [.ref q_requests_slot, .ref q_requests_guests, .ref q_requests_kind, .ref q_requests_ticket, .int v_requests_made, .int v_requests_served])), (q_requests_slot, .inl (cI, 30, .inl v_requests_slot)), (q_requests_guests, .inl (cI, 30, .inl v_requests_guests)), (q_requests_kind, .inl (cI, 30, .inl v_requests_kind)), (q_requests_ticket, .inl (cI, 30, .inl v_requests_ticket)), (q_0, .inr (0, [.ref q_slots, .ref q_tickets, .ref q_requests, .ref q_chances, .ref q_tariff, .ref q_doors])), (q_slots, .inr (1, [.ref q_slots_places, .ref q_slots_above, .ref q_slots_below, .ref q_slots_most, .ref q_slots_sold, .int v_slots_made]))] H := hP
      have hD : va_D A [(q_requests, .inr (3, [.ref q_requests_slot, .ref q_requests_guests, .ref q_requests_kind, .ref q_requests_ticket, .int v_requests_made, .int v_requests_served])), (q_requests_slot, .inl (cI, 30, .inl v_requests_slot)), (q_requests_guests, .inl (cI, 30, .inl v_requests_guests)), (q_requests_kind, .inl (cI, 30, .inl v_requests_kind)), (q_requests_ticket, .inl (cI, 30, .inl v_requests_ticket)), (q_0, .inr (0, [.ref q_slots, .ref q_tickets, .ref q_requests, .ref q_chances, .ref q_tariff, .ref q_doors])), (q_slots, .inr (1, [.ref q_slots_places, .ref q_slots_above, .ref q_slots_below, .ref q_slots_most, .ref q_slots_sold, .int v_slots_made]))] := hD
      refine lv_aload_n hx hb d_X_waits_9 rfl (lv_at hl 0 rfl) ?_
      refine va_get (D := (dC, dI)) (ci := 0) (v := .ref q_requests) (C := R_X) (T := F_X) (N := 6) hx hb hts i_X hown hK hP 5 rfl rfl 2 (by decide) (hts _ k_38) (fun _ h9 => h9) rfl d_X_waits_10 ?_
      refine va_getN (D := (dC, dI)) (ci := 3) (v := .int v_requests_made) (C := R_XR) (T := F_XR) (N := 6) hx hb hts i_XR hown hK hP 0 rfl rfl 4 (by decide) (va_Nw.use rfl (zn hZ z_16)) (fun _ h9 => h9) rfl d_X_waits_13 ?_
      refine lv_bipush (v := (30 : Int32)) hx hb d_X_waits_16 (by decide) ?_
      refine lv_icmp_lt (tgt := 31) hx hb d_X_waits_18 (by decide) (fun c_1 => ?_) (fun c_1 => ?_)
      · have hw := hw.1 c_1
        refine lv_iload_n hx hb d_X_waits_31 rfl (lv_at hl 2 rfl) ?_
        refine jxn_v C0 hP hD hS hN [] [0, 1, 2, 3, 4, 5, 6] (ru_Sx C0 (As := [.int a_2]) (rest := []) (c_X_needGroup l hl9 dC dI cI cJ cZ a_2 _ _ hw _) k_132 k_133 k_134 k_86 (n9 := 1) (by decide +kernel) rfl ⟨Nat.le_of_ble_eq_true rfl, Nat.le_of_ble_eq_true rfl⟩ hP hD hS [] rfl (by decide) hl.1 rfl (Nat.le_of_ble_eq_true rfl) d_X_waits_32 ⟨Nat.le_of_ble_eq_true rfl, Nat.le_of_ble_eq_true rfl⟩) rfl rfl (by decide) (by decide) (fun E ce q9 H locs hw hP hD hS hN hce hcv hcl => ?_) (fun u H locs hw hP hD hS hN => ?_)
        · exact xoi C0 hEx hw (hP.sub [5, 6, 0, 1, 2, 3, 4] rfl) (hD.sub [5, 6, 0, 1, 2, 3, 4] (by decide) rfl) hS hS.2.2 hce hcv hcl (by decide) (by decide)
        · try dsimp only at hw
          have hP : va_P (dC, dI) classes [(q_requests, .inr (3, [.ref q_requests_slot, .ref q_requests_guests, .ref q_requests_kind, .ref q_requests_ticket, .int v_requests_made, .int v_requests_served])), (q_requests_slot, .inl (cI, 30, .inl v_requests_slot)), (q_requests_guests, .inl (cI, 30, .inl v_requests_guests)), (q_requests_kind, .inl (cI, 30, .inl v_requests_kind)), (q_requests_ticket, .inl (cI, 30, .inl v_requests_ticket)), (q_0, .inr (0, [.ref q_slots, .ref q_tickets, .ref q_requests, .ref q_chances, .ref q_tariff, .ref q_doors])), (q_slots, .inr (1, [.ref q_slots_places, .ref q_slots_above, .ref q_slots_below, .ref q_slots_most, .ref q_slots_sold, .int v_slots_made]))] H := hP
          have hD : va_D A [(q_requests, .inr (3, [.ref q_requests_slot, .ref q_requests_guests, .ref q_requests_kind, .ref q_requests_ticket, .int v_requests_made, .int v_requests_served])), (q_requests_slot, .inl (cI, 30, .inl v_requests_slot)), (q_requests_guests, .inl (cI, 30, .inl v_requests_guests)), (q_requests_kind, .inl (cI, 30, .inl v_requests_kind)), (q_requests_ticket, .inl (cI, 30, .inl v_requests_ticket)), (q_0, .inr (0, [.ref q_slots, .ref q_tickets, .ref q_requests, .ref q_chances, .ref q_tariff, .ref q_doors])), (q_slots, .inr (1, [.ref q_slots_places, .ref q_slots_above, .ref q_slots_below, .ref q_slots_most, .ref q_slots_sold, .int v_slots_made]))] := hD
          refine lv_aload_n hx hb d_X_waits_35 rfl (lv_at hl 0 rfl) ?_
          refine va_get (D := (dC, dI)) (ci := 0) (v := .ref q_requests) (C := R_X) (T := F_X) (N := 6) hx hb hts i_X hown hK hP 5 rfl rfl 2 (by decide) (hts _ k_38) (fun _ h9 => h9) rfl d_X_waits_36 ?_
          refine lv_iload_n hx hb d_X_waits_39 rfl (lv_at hl 1 rfl) ?_
          refine lv_iload_n hx hb d_X_waits_40 rfl (lv_at hl 2 rfl) ?_
          refine lv_iload_n hx hb d_X_waits_41 rfl (lv_at hl 3 rfl) ?_
          refine jn_i C0 hP hD hS [0, 1, 2, 3, 4] [5, 6] (ru_V C0 (As := [.int a_1, .int a_2, .int a_3]) (rest := []) (c_XR_add l hl9 dC dI cI cJ cZ q_requests q_requests_slot q_requests_guests q_requests_kind q_requests_ticket a_1 a_2 a_3 v_requests_slot v_requests_guests v_requests_kind v_requests_ticket v_requests_made v_requests_served _ hw _) k_174 k_175 k_176 k_177 k_30 (n9 := 3) (by decide +kernel) rfl (ci := 3) rfl rfl ⟨Nat.le_of_ble_eq_true rfl, Nat.le_of_ble_eq_true rfl⟩ hP hD hS [0, 1, 2, 3, 4] rfl (by decide) hl.1 rfl (Nat.le_of_ble_eq_true rfl) d_X_waits_42 ⟨Nat.le_of_ble_eq_true rfl, Nat.le_of_ble_eq_true rfl⟩) rfl rfl (by decide) (by decide) (fun r_2 u H locs hw hP hD hS => ?_)
          obtain ⟨f_3, f_4, f_5, f_6, x_7⟩ := u
          try dsimp only at hw
          have hP : va_P (dC, dI) classes [(q_0, .inr (0, [.ref q_slots, .ref q_tickets, .ref q_requests, .ref q_chances, .ref q_tariff, .ref q_doors])), (q_slots, .inr (1, [.ref q_slots_places, .ref q_slots_above, .ref q_slots_below, .ref q_slots_most, .ref q_slots_sold, .int v_slots_made])), (q_requests, .inr (3, [.ref q_requests_slot, .ref q_requests_guests, .ref q_requests_kind, .ref q_requests_ticket, .int x_7, .int v_requests_served])), (q_requests_slot, .inl (cI, 30, .inl f_3)), (q_requests_guests, .inl (cI, 30, .inl f_4)), (q_requests_kind, .inl (cI, 30, .inl f_5)), (q_requests_ticket, .inl (cI, 30, .inl f_6))] H := hP
          have hD : va_D A [(q_0, .inr (0, [.ref q_slots, .ref q_tickets, .ref q_requests, .ref q_chances, .ref q_tariff, .ref q_doors])), (q_slots, .inr (1, [.ref q_slots_places, .ref q_slots_above, .ref q_slots_below, .ref q_slots_most, .ref q_slots_sold, .int v_slots_made])), (q_requests, .inr (3, [.ref q_requests_slot, .ref q_requests_guests, .ref q_requests_kind, .ref q_requests_ticket, .int x_7, .int v_requests_served])), (q_requests_slot, .inl (cI, 30, .inl f_3)), (q_requests_guests, .inl (cI, 30, .inl f_4)), (q_requests_kind, .inl (cI, 30, .inl f_5)), (q_requests_ticket, .inl (cI, 30, .inl f_6))] := hD
          exact rx_i (u := (f_3, f_4, f_5, f_6, x_7)) C0 hw hP hD hS hS.2.2 (by decide) (by decide) d_X_waits_45
      · have hw := hw.2 c_1
        exact thS_i C0 hEx ta_1 sb_10 hw hP0 hD0 hN hS.2.2 hl.1 (by decide) (by decide) (by decide) (by decide) d_X_waits_21 d_X_waits_24 d_X_waits_25 d_X_waits_27 d_X_waits_30
theorem d_X_given_0 : decode b_X_given 0 = .ok (.iload_n 1, 1) := by decide +kernel
theorem d_X_given_1 : decode b_X_given 1 = .ok (.ifCond .lt 14, 3) := by decide +kernel
theorem d_X_given_4 : decode b_X_given 4 = .ok (.iload_n 1, 1) := by decide +kernel
theorem d_X_given_5 : decode b_X_given 5 = .ok (.aload_n 0, 1) := by decide +kernel
theorem d_X_given_6 : decode b_X_given 6 = .ok (.getfield 26, 3) := by decide +kernel
theorem d_X_given_9 : decode b_X_given 9 = .ok (.getfield 150, 3) := by decide +kernel
theorem d_X_given_12 : decode b_X_given 12 = .ok (.if_icmp .lt 13, 3) := by decide +kernel
theorem d_X_given_15 : decode b_X_given 15 = .ok (.new 96, 3) := by decide +kernel
theorem d_X_given_18 : decode b_X_given 18 = .ok (.dup, 1) := by decide +kernel
theorem d_X_given_19 : decode b_X_given 19 = .ok (.ldc 156, 2) := by decide +kernel
theorem d_X_given_21 : decode b_X_given 21 = .ok (.invokespecial 100, 3) := by decide +kernel
theorem d_X_given_24 : decode b_X_given 24 = .ok (.athrow, 1) := by decide +kernel
theorem d_X_given_25 : decode b_X_given 25 = .ok (.aload_n 0, 1) := by decide +kernel
theorem d_X_given_26 : decode b_X_given 26 = .ok (.getfield 26, 3) := by decide +kernel
theorem d_X_given_29 : decode b_X_given 29 = .ok (.getfield 158, 3) := by decide +kernel
theorem d_X_given_32 : decode b_X_given 32 = .ok (.iload_n 1, 1) := by decide +kernel
theorem d_X_given_33 : decode b_X_given 33 = .ok (.iaload, 1) := by decide +kernel
theorem d_X_given_34 : decode b_X_given 34 = .ok (.ireturn, 1) := by decide +kernel
def wp_X_given (post : Int32 → Unit → Prop) (px : String → Prop) (a_1 : Int32) (v_requests_ticket : Nat → Int32) (v_requests_made : Int32) : Prop := ((a_1 < 0 → px "java/lang/IndexOutOfBoundsException") ∧ (¬ (a_1 < 0) → ((a_1 < v_requests_made → (vp_in a_1 30 ∧ post (v_requests_ticket a_1.toNatClampNeg) ())) ∧ (¬ (a_1 < v_requests_made) → px "java/lang/IndexOutOfBoundsException"))))
set_option maxHeartbeats 4000000 in
set_option maxRecDepth 100000 in
theorem c_X_given (l : Launch) (hl9 : l.stackTraces = false) (dC : Nat → ClassId) (dI : Nat → Nat → Nat) (cI cJ cZ : ClassId) (q_0 q_requests q_requests_ticket q_slots q_tickets q_chances q_tariff q_doors q_requests_slot q_requests_guests q_requests_kind : Nat) (a_1 : Int32) (v_requests_ticket : Nat → Int32) (v_requests_made : Int32) (v_requests_served : Int32) (post : Int32 → Unit → Prop) (px : String → Prop) (hw : wp_X_given post px a_1 v_requests_ticket v_requests_made) : Kix l y_X_given b_X_given 2 (some .int) ({ frames := 6, cells := 1, slots := 6, locals := 82 } : Room) dC dI cI cJ cZ [.ref q_0, .int a_1] [(q_0, .inr (0, [.ref q_slots, .ref q_tickets, .ref q_requests, .ref q_chances, .ref q_tariff, .ref q_doors])), (q_requests, .inr (3, [.ref q_requests_slot, .ref q_requests_guests, .ref q_requests_kind, .ref q_requests_ticket, .int v_requests_made, .int v_requests_served])), (q_requests_ticket, .inl (cI, 30, .inl v_requests_ticket))] true px post (fun u : Unit => [(q_0, .inr (0, [.ref q_slots, .ref q_tickets, .ref q_requests, .ref q_chances, .ref q_tariff, .ref q_doors])), (q_requests, .inr (3, [.ref q_requests_slot, .ref q_requests_guests, .ref q_requests_kind, .ref q_requests_ticket, .int v_requests_made, .int v_requests_served])), (q_requests_ticket, .inl (cI, 30, .inl v_requests_ticket))]) := by
  refine mkix hl9 (own := R_X) rfl (by decide) ?_
  intro p e s m args below meth c A fr C0 hEx hfr hAe hnm eav hP hD
  subst hfr
  have hN : ∀ q ∈ ([] : List Loc), s.heap.size ≤ q.base := fun q h => by cases h
  have hP0 := hP
  have hD0 := hD
  obtain ⟨-, hx, hb, hml, hr, hown, hts, hlocks, hK, hZ, hA, hNS⟩ := id C0
  subst eav
  have hS : va_S A s.heap s.heap [] := va_S.rf
  have hl := lv_entry ([.ref q_0, .int a_1]) (n := 2) (Nat.le_of_ble_eq_true rfl)
  rw [lg_entry_eq]
  generalize (lg_sl ([.ref q_0, .int a_1]) ++ List.replicate (2 - (lg_sl ([.ref q_0, .int a_1])).length) Slot.unset).toArray = ls at hl ⊢
  have hl : lv_has ls 2 [(0, .ref q_0), (1, .int a_1)] := hl
  unfold wp_X_given at hw
  refine lv_iload_n hx hb d_X_given_0 rfl (lv_at hl 1 rfl) ?_
  refine lv_if_lt (tgt := 15) hx hb d_X_given_1 (by decide) (fun c_1 => ?_) (fun c_1 => ?_)
  · have hw := hw.1 c_1
    exact thS_i C0 hEx ta_2 sb_11 hw hP0 hD0 hN (fun q h => by cases h) hl.1 (by decide) (by decide) (by decide) (by decide) d_X_given_15 d_X_given_18 d_X_given_19 d_X_given_21 d_X_given_24
  · have hw := hw.2 c_1
    refine lv_iload_n hx hb d_X_given_4 rfl (lv_at hl 1 rfl) ?_
    refine lv_aload_n hx hb d_X_given_5 rfl (lv_at hl 0 rfl) ?_
    refine va_get (D := (dC, dI)) (ci := 0) (v := .ref q_requests) (C := R_X) (T := F_X) (N := 6) hx hb hts i_X hown hK hP 0 rfl rfl 2 (by decide) (hts _ k_38) (fun _ h9 => h9) rfl d_X_given_6 ?_
    refine va_getN (D := (dC, dI)) (ci := 3) (v := .int v_requests_made) (C := R_XR) (T := F_XR) (N := 6) hx hb hts i_XR hown hK hP 1 rfl rfl 4 (by decide) (va_Nw.use rfl (zn hZ z_16)) (fun _ h9 => h9) rfl d_X_given_9 ?_
    refine lv_icmp_lt (tgt := 25) hx hb d_X_given_12 (by decide) (fun c_2 => ?_) (fun c_2 => ?_)
    · have hw := hw.1 c_2
      refine lv_aload_n hx hb d_X_given_25 rfl (lv_at hl 0 rfl) ?_
      refine va_get (D := (dC, dI)) (ci := 0) (v := .ref q_requests) (C := R_X) (T := F_X) (N := 6) hx hb hts i_X hown hK hP 0 rfl rfl 2 (by decide) (hts _ k_38) (fun _ h9 => h9) rfl d_X_given_26 ?_
      refine va_getN (D := (dC, dI)) (ci := 3) (v := .ref q_requests_ticket) (C := R_XR) (T := F_XR) (N := 6) hx hb hts i_XR hown hK hP 1 rfl rfl 3 (by decide) (va_Nw.use rfl (zn hZ z_19)) (fun _ h9 => h9) rfl d_X_given_29 ?_
      refine lv_iload_n hx hb d_X_given_32 rfl (lv_at hl 1 rfl) ?_
      obtain ⟨h_3, hw⟩ := hw
      refine va_iald hx hb hK hP 2 0 rfl rfl h_3 d_X_given_33 ?_
      exact rx_i (u := ()) C0 hw hP hD hS (fun q h => by cases h) (by decide) (by decide) d_X_given_34
    · have hw := hw.2 c_2
      exact thS_i C0 hEx ta_2 sb_11 hw hP0 hD0 hN (fun q h => by cases h) hl.1 (by decide) (by decide) (by decide) (by decide) d_X_given_15 d_X_given_18 d_X_given_19 d_X_given_21 d_X_given_24
theorem d_X_unit_0 : decode b_X_unit 0 = .ok (.aload_n 0, 1) := by decide +kernel
theorem d_X_unit_1 : decode b_X_unit 1 = .ok (.getfield 40, 3) := by decide +kernel
theorem d_X_unit_4 : decode b_X_unit 4 = .ok (.getfield 161, 3) := by decide +kernel
theorem d_X_unit_7 : decode b_X_unit 7 = .ok (.bipush 60, 2) := by decide +kernel
theorem d_X_unit_9 : decode b_X_unit 9 = .ok (.if_icmp .lt 13, 3) := by decide +kernel
theorem d_X_unit_12 : decode b_X_unit 12 = .ok (.new 55, 3) := by decide +kernel
theorem d_X_unit_15 : decode b_X_unit 15 = .ok (.dup, 1) := by decide +kernel
theorem d_X_unit_16 : decode b_X_unit 16 = .ok (.ldc 164, 2) := by decide +kernel
theorem d_X_unit_18 : decode b_X_unit 18 = .ok (.invokespecial 59, 3) := by decide +kernel
theorem d_X_unit_21 : decode b_X_unit 21 = .ok (.athrow, 1) := by decide +kernel
theorem d_X_unit_22 : decode b_X_unit 22 = .ok (.iload_n 1, 1) := by decide +kernel
theorem d_X_unit_23 : decode b_X_unit 23 = .ok (.bipush 33, 2) := by decide +kernel
theorem d_X_unit_25 : decode b_X_unit 25 = .ok (.if_icmp .lt 9, 3) := by decide +kernel
theorem d_X_unit_28 : decode b_X_unit 28 = .ok (.iload_n 1, 1) := by decide +kernel
theorem d_X_unit_29 : decode b_X_unit 29 = .ok (.bipush 126, 2) := by decide +kernel
theorem d_X_unit_31 : decode b_X_unit 31 = .ok (.if_icmp .le 13, 3) := by decide +kernel
theorem d_X_unit_34 : decode b_X_unit 34 = .ok (.new 62, 3) := by decide +kernel
theorem d_X_unit_37 : decode b_X_unit 37 = .ok (.dup, 1) := by decide +kernel
theorem d_X_unit_38 : decode b_X_unit 38 = .ok (.ldc 166, 2) := by decide +kernel
theorem d_X_unit_40 : decode b_X_unit 40 = .ok (.invokespecial 66, 3) := by decide +kernel
theorem d_X_unit_43 : decode b_X_unit 43 = .ok (.athrow, 1) := by decide +kernel
theorem d_X_unit_44 : decode b_X_unit 44 = .ok (.aload_n 0, 1) := by decide +kernel
theorem d_X_unit_45 : decode b_X_unit 45 = .ok (.getfield 40, 3) := by decide +kernel
theorem d_X_unit_48 : decode b_X_unit 48 = .ok (.iload_n 1, 1) := by decide +kernel
theorem d_X_unit_49 : decode b_X_unit 49 = .ok (.invokevirtual 168, 3) := by decide +kernel
theorem d_X_unit_52 : decode b_X_unit 52 = .ok (.ireturn, 1) := by decide +kernel
def wp_X_unit (post : Int32 → ((Nat → Int32) × (Int32)) → Prop) (px : String → Prop) (a_1 : Int32) (v_tariff_text : Nat → Int32) (v_tariff_length : Int32) : Prop := ((v_tariff_length < (60 : Int32) → ((a_1 < (33 : Int32) → px "java/lang/IllegalArgumentException") ∧ (¬ (a_1 < (33 : Int32)) → ((a_1 ≤ (126 : Int32) → wp_XF_collect (fun r_4 u => match u with | (f_5, x_6) => post r_4 (f_5, x_6)) a_1 v_tariff_text v_tariff_length) ∧ (¬ (a_1 ≤ (126 : Int32)) → px "java/lang/IllegalArgumentException"))))) ∧ (¬ (v_tariff_length < (60 : Int32)) → px "java/lang/IllegalStateException"))
set_option maxHeartbeats 4000000 in
set_option maxRecDepth 100000 in
theorem c_X_unit (l : Launch) (hl9 : l.stackTraces = false) (dC : Nat → ClassId) (dI : Nat → Nat → Nat) (cI cJ cZ : ClassId) (q_0 q_tariff q_tariff_text q_slots q_tickets q_requests q_chances q_doors q_tariff_prices q_tariff_percents q_tariff_newPrices q_tariff_newPercents : Nat) (a_1 : Int32) (v_tariff_text : Nat → Int32) (v_tariff_length : Int32) (v_tariff_clauses : Int32) (v_tariff_newClauses : Int32) (v_tariff_state : Int32) (v_tariff_subject : Int32) (v_tariff_number : Int32) (v_tariff_digits : Int32) (post : Int32 → ((Nat → Int32) × (Int32)) → Prop) (px : String → Prop) (hw : wp_X_unit post px a_1 v_tariff_text v_tariff_length) : Kix l y_X_unit b_X_unit 2 (some .int) ({ frames := 6, cells := 1, slots := 6, locals := 82 } : Room) dC dI cI cJ cZ [.ref q_0, .int a_1] [(q_0, .inr (0, [.ref q_slots, .ref q_tickets, .ref q_requests, .ref q_chances, .ref q_tariff, .ref q_doors])), (q_tariff, .inr (5, [.ref q_tariff_text, .int v_tariff_length, .ref q_tariff_prices, .ref q_tariff_percents, .int v_tariff_clauses, .ref q_tariff_newPrices, .ref q_tariff_newPercents, .int v_tariff_newClauses, .int v_tariff_state, .int v_tariff_subject, .int v_tariff_number, .int v_tariff_digits])), (q_tariff_text, .inl (cI, 60, .inl v_tariff_text))] false px post (fun u : (Nat → Int32) × (Int32) => [(q_0, .inr (0, [.ref q_slots, .ref q_tickets, .ref q_requests, .ref q_chances, .ref q_tariff, .ref q_doors])), (q_tariff, .inr (5, [.ref q_tariff_text, .int u.2, .ref q_tariff_prices, .ref q_tariff_percents, .int v_tariff_clauses, .ref q_tariff_newPrices, .ref q_tariff_newPercents, .int v_tariff_newClauses, .int v_tariff_state, .int v_tariff_subject, .int v_tariff_number, .int v_tariff_digits])), (q_tariff_text, .inl (cI, 60, .inl u.1))]) := by
  refine mkix hl9 (own := R_X) rfl (by decide) ?_
  intro p e s m args below meth c A fr C0 hEx hfr hAe hnm eav hP hD
  obtain rfl : A = fr := (hfr.trans hAe.symm).symm
  have hN : ∀ q ∈ ([] : List Loc), s.heap.size ≤ q.base := fun q h => by cases h
  have hP0 := hP
  have hD0 := hD
  obtain ⟨-, hx, hb, hml, hr, hown, hts, hlocks, hK, hZ, hA, hNS⟩ := id C0
  subst eav
  have hS : va_S A s.heap s.heap [] := va_S.rf
  have hl := lv_entry ([.ref q_0, .int a_1]) (n := 2) (Nat.le_of_ble_eq_true rfl)
  rw [lg_entry_eq]
  generalize (lg_sl ([.ref q_0, .int a_1]) ++ List.replicate (2 - (lg_sl ([.ref q_0, .int a_1])).length) Slot.unset).toArray = ls at hl ⊢
  have hl : lv_has ls 2 [(0, .ref q_0), (1, .int a_1)] := hl
  unfold wp_X_unit at hw
  refine lv_aload_n hx hb d_X_unit_0 rfl (lv_at hl 0 rfl) ?_
  refine va_get (D := (dC, dI)) (ci := 0) (v := .ref q_tariff) (C := R_X) (T := F_X) (N := 6) hx hb hts i_X hown hK hP 0 rfl rfl 4 (by decide) (hts _ k_59) (fun _ h9 => h9) rfl d_X_unit_1 ?_
  refine va_getN (D := (dC, dI)) (ci := 5) (v := .int v_tariff_length) (C := R_XF) (T := F_XF) (N := 12) hx hb hts i_XF hown hK hP 1 rfl rfl 1 (by decide) (va_Nw.use rfl (zn hZ z_20)) (fun _ h9 => h9) rfl d_X_unit_4 ?_
  refine lv_bipush (v := (60 : Int32)) hx hb d_X_unit_7 (by decide) ?_
  refine lv_icmp_lt (tgt := 22) hx hb d_X_unit_9 (by decide) (fun c_1 => ?_) (fun c_1 => ?_)
  · have hw := hw.1 c_1
    refine lv_iload_n hx hb d_X_unit_22 rfl (lv_at hl 1 rfl) ?_
    refine lv_bipush (v := (33 : Int32)) hx hb d_X_unit_23 (by decide) ?_
    refine lv_icmp_lt (tgt := 34) hx hb d_X_unit_25 (by decide) (fun c_2 => ?_) (fun c_2 => ?_)
    · have hw := hw.1 c_2
      exact thS_i C0 hEx ta_0 sb_12 hw hP0 hD0 hN hS.2.2 hl.1 (by decide) (by decide) (by decide) (by decide) d_X_unit_34 d_X_unit_37 d_X_unit_38 d_X_unit_40 d_X_unit_43
    · have hw := hw.2 c_2
      refine lv_iload_n hx hb d_X_unit_28 rfl (lv_at hl 1 rfl) ?_
      refine lv_bipush (v := (126 : Int32)) hx hb d_X_unit_29 (by decide) ?_
      refine lv_icmp_le (tgt := 44) hx hb d_X_unit_31 (by decide) (fun c_3 => ?_) (fun c_3 => ?_)
      · have hw := hw.1 c_3
        refine lv_aload_n hx hb d_X_unit_44 rfl (lv_at hl 0 rfl) ?_
        refine va_get (D := (dC, dI)) (ci := 0) (v := .ref q_tariff) (C := R_X) (T := F_X) (N := 6) hx hb hts i_X hown hK hP 0 rfl rfl 4 (by decide) (hts _ k_59) (fun _ h9 => h9) rfl d_X_unit_45 ?_
        refine lv_iload_n hx hb d_X_unit_48 rfl (lv_at hl 1 rfl) ?_
        refine jn_i C0 hP hD hS [1, 2] [0] (ru_V C0 (As := [.int a_1]) (rest := []) (c_XF_collect l hl9 dC dI cI cJ cZ q_tariff q_tariff_text q_tariff_prices q_tariff_percents q_tariff_newPrices q_tariff_newPercents a_1 v_tariff_text v_tariff_length v_tariff_clauses v_tariff_newClauses v_tariff_state v_tariff_subject v_tariff_number v_tariff_digits _ hw _) k_179 k_180 k_181 k_182 k_50 (n9 := 1) (by decide +kernel) rfl (ci := 5) rfl rfl ⟨Nat.le_of_ble_eq_true rfl, Nat.le_of_ble_eq_true rfl⟩ hP hD hS [1, 2] rfl (by decide) hl.1 rfl (Nat.le_of_ble_eq_true rfl) d_X_unit_49 ⟨Nat.le_of_ble_eq_true rfl, Nat.le_of_ble_eq_true rfl⟩) rfl rfl (by decide) (by decide) (fun r_4 u H locs hw hP hD hS => ?_)
        obtain ⟨f_5, x_6⟩ := u
        try dsimp only at hw
        have hP : va_P (dC, dI) classes [(q_0, .inr (0, [.ref q_slots, .ref q_tickets, .ref q_requests, .ref q_chances, .ref q_tariff, .ref q_doors])), (q_tariff, .inr (5, [.ref q_tariff_text, .int x_6, .ref q_tariff_prices, .ref q_tariff_percents, .int v_tariff_clauses, .ref q_tariff_newPrices, .ref q_tariff_newPercents, .int v_tariff_newClauses, .int v_tariff_state, .int v_tariff_subject, .int v_tariff_number, .int v_tariff_digits])), (q_tariff_text, .inl (cI, 60, .inl f_5))] H := hP
        have hD : va_D A [(q_0, .inr (0, [.ref q_slots, .ref q_tickets, .ref q_requests, .ref q_chances, .ref q_tariff, .ref q_doors])), (q_tariff, .inr (5, [.ref q_tariff_text, .int x_6, .ref q_tariff_prices, .ref q_tariff_percents, .int v_tariff_clauses, .ref q_tariff_newPrices, .ref q_tariff_newPercents, .int v_tariff_newClauses, .int v_tariff_state, .int v_tariff_subject, .int v_tariff_number, .int v_tariff_digits])), (q_tariff_text, .inl (cI, 60, .inl f_5))] := hD
        exact rx_i (u := (f_5, x_6)) C0 hw hP hD hS hS.2.2 (by decide) (by decide) d_X_unit_52
      · have hw := hw.2 c_3
        exact thS_i C0 hEx ta_0 sb_12 hw hP0 hD0 hN hS.2.2 hl.1 (by decide) (by decide) (by decide) (by decide) d_X_unit_34 d_X_unit_37 d_X_unit_38 d_X_unit_40 d_X_unit_43
  · have hw := hw.2 c_1
    exact thS_i C0 hEx ta_1 sb_13 hw hP0 hD0 hN hS.2.2 hl.1 (by decide) (by decide) (by decide) (by decide) d_X_unit_12 d_X_unit_15 d_X_unit_16 d_X_unit_18 d_X_unit_21
theorem d_X_rules_0 : decode b_X_rules 0 = .ok (.aload_n 0, 1) := by decide +kernel
theorem d_X_rules_1 : decode b_X_rules 1 = .ok (.getfield 40, 3) := by decide +kernel
theorem d_X_rules_4 : decode b_X_rules 4 = .ok (.invokevirtual 171, 3) := by decide +kernel
theorem d_X_rules_7 : decode b_X_rules 7 = .ok (.ireturn, 1) := by decide +kernel
def wp_X_rules (post : Int32 → ((Int32) × (Nat → Int32) × (Nat → Int32) × (Int32) × (Nat → Int32) × (Nat → Int32) × (Int32) × (Int32) × (Int32) × (Int32) × (Int32)) → Prop) (v_tariff_text : Nat → Int32) (v_tariff_length : Int32) (v_tariff_prices : Nat → Int32) (v_tariff_percents : Nat → Int32) (v_tariff_clauses : Int32) (v_tariff_newPrices : Nat → Int32) (v_tariff_newPercents : Nat → Int32) (v_tariff_newClauses : Int32) (v_tariff_state : Int32) (v_tariff_subject : Int32) (v_tariff_number : Int32) (v_tariff_digits : Int32) : Prop := wp_XF_adopt (fun r_1 u => match u with | (x_2, f_3, f_4, x_5, f_6, f_7, x_8, x_9, x_10, x_11, x_12) => post r_1 (x_2, f_3, f_4, x_5, f_6, f_7, x_8, x_9, x_10, x_11, x_12)) v_tariff_text v_tariff_length v_tariff_prices v_tariff_percents v_tariff_clauses v_tariff_newPrices v_tariff_newPercents v_tariff_newClauses v_tariff_state v_tariff_subject v_tariff_number v_tariff_digits
set_option maxHeartbeats 4000000 in
set_option maxRecDepth 100000 in
theorem c_X_rules (l : Launch) (hl9 : l.stackTraces = false) (dC : Nat → ClassId) (dI : Nat → Nat → Nat) (cI cJ cZ : ClassId) (q_0 q_tariff q_tariff_text q_tariff_prices q_tariff_percents q_tariff_newPrices q_tariff_newPercents q_slots q_tickets q_requests q_chances q_doors : Nat) (v_tariff_text : Nat → Int32) (v_tariff_length : Int32) (v_tariff_prices : Nat → Int32) (v_tariff_percents : Nat → Int32) (v_tariff_clauses : Int32) (v_tariff_newPrices : Nat → Int32) (v_tariff_newPercents : Nat → Int32) (v_tariff_newClauses : Int32) (v_tariff_state : Int32) (v_tariff_subject : Int32) (v_tariff_number : Int32) (v_tariff_digits : Int32) (post : Int32 → ((Int32) × (Nat → Int32) × (Nat → Int32) × (Int32) × (Nat → Int32) × (Nat → Int32) × (Int32) × (Int32) × (Int32) × (Int32) × (Int32)) → Prop) (hw : wp_X_rules post v_tariff_text v_tariff_length v_tariff_prices v_tariff_percents v_tariff_clauses v_tariff_newPrices v_tariff_newPercents v_tariff_newClauses v_tariff_state v_tariff_subject v_tariff_number v_tariff_digits) : Ki l y_X_rules b_X_rules 1 (some .int) ({ frames := 6, cells := 0, slots := 0, locals := 127 } : Room) dC dI cI cJ cZ [.ref q_0] [(q_0, .inr (0, [.ref q_slots, .ref q_tickets, .ref q_requests, .ref q_chances, .ref q_tariff, .ref q_doors])), (q_tariff, .inr (5, [.ref q_tariff_text, .int v_tariff_length, .ref q_tariff_prices, .ref q_tariff_percents, .int v_tariff_clauses, .ref q_tariff_newPrices, .ref q_tariff_newPercents, .int v_tariff_newClauses, .int v_tariff_state, .int v_tariff_subject, .int v_tariff_number, .int v_tariff_digits])), (q_tariff_text, .inl (cI, 60, .inl v_tariff_text)), (q_tariff_prices, .inl (cI, 5, .inl v_tariff_prices)), (q_tariff_percents, .inl (cI, 10, .inl v_tariff_percents)), (q_tariff_newPrices, .inl (cI, 5, .inl v_tariff_newPrices)), (q_tariff_newPercents, .inl (cI, 10, .inl v_tariff_newPercents))] post (fun u : (Int32) × (Nat → Int32) × (Nat → Int32) × (Int32) × (Nat → Int32) × (Nat → Int32) × (Int32) × (Int32) × (Int32) × (Int32) × (Int32) => [(q_0, .inr (0, [.ref q_slots, .ref q_tickets, .ref q_requests, .ref q_chances, .ref q_tariff, .ref q_doors])), (q_tariff, .inr (5, [.ref q_tariff_text, .int u.1, .ref q_tariff_prices, .ref q_tariff_percents, .int u.2.2.2.1, .ref q_tariff_newPrices, .ref q_tariff_newPercents, .int u.2.2.2.2.2.2.1, .int u.2.2.2.2.2.2.2.1, .int u.2.2.2.2.2.2.2.2.1, .int u.2.2.2.2.2.2.2.2.2.1, .int u.2.2.2.2.2.2.2.2.2.2])), (q_tariff_text, .inl (cI, 60, .inl v_tariff_text)), (q_tariff_prices, .inl (cI, 5, .inl u.2.1)), (q_tariff_percents, .inl (cI, 10, .inl u.2.2.1)), (q_tariff_newPrices, .inl (cI, 5, .inl u.2.2.2.2.1)), (q_tariff_newPercents, .inl (cI, 10, .inl u.2.2.2.2.2.1))]) := by
  refine mki hl9 (own := R_X) rfl (by decide) ?_
  intro p e s m args below meth c A C0 hnm eav hP hD
  obtain ⟨-, hx, hb, hml, hr, hown, hts, hlocks, hK, hZ, hA, hNS⟩ := id C0
  subst eav
  have hS : va_S A s.heap s.heap [] := va_S.rf
  have hl := lv_entry ([.ref q_0]) (n := 1) (Nat.le_of_ble_eq_true rfl)
  rw [lg_entry_eq]
  generalize (lg_sl ([.ref q_0]) ++ List.replicate (1 - (lg_sl ([.ref q_0])).length) Slot.unset).toArray = ls at hl ⊢
  have hl : lv_has ls 1 [(0, .ref q_0)] := hl
  unfold wp_X_rules at hw
  refine lv_aload_n hx hb d_X_rules_0 rfl (lv_at hl 0 rfl) ?_
  refine va_get (D := (dC, dI)) (ci := 0) (v := .ref q_tariff) (C := R_X) (T := F_X) (N := 6) hx hb hts i_X hown hK hP 0 rfl rfl 4 (by decide) (hts _ k_59) (fun _ h9 => h9) rfl d_X_rules_1 ?_
  refine jn_i C0 hP hD hS [1, 2, 3, 4, 5, 6] [0] (ru_V C0 (As := []) (rest := []) (c_XF_adopt l hl9 dC dI cI cJ cZ q_tariff q_tariff_text q_tariff_prices q_tariff_percents q_tariff_newPrices q_tariff_newPercents v_tariff_text v_tariff_length v_tariff_prices v_tariff_percents v_tariff_clauses v_tariff_newPrices v_tariff_newPercents v_tariff_newClauses v_tariff_state v_tariff_subject v_tariff_number v_tariff_digits _ hw _) k_235 k_236 k_237 k_238 k_50 (n9 := 0) (by decide +kernel) rfl (ci := 5) rfl rfl ⟨Nat.le_of_ble_eq_true rfl, Nat.le_of_ble_eq_true rfl⟩ hP hD hS [1, 2, 3, 4, 5, 6] rfl (by decide) hl.1 rfl (Nat.le_of_ble_eq_true rfl) d_X_rules_4 ⟨Nat.le_of_ble_eq_true rfl, Nat.le_of_ble_eq_true rfl⟩) rfl rfl (by decide) (by decide) (fun r_1 u H locs hw hP hD hS => ?_)
  obtain ⟨x_2, f_3, f_4, x_5, f_6, f_7, x_8, x_9, x_10, x_11, x_12⟩ := u
  try dsimp only at hw
  have hP : va_P (dC, dI) classes [(q_0, .inr (0, [.ref q_slots, .ref q_tickets, .ref q_requests, .ref q_chances, .ref q_tariff, .ref q_doors])), (q_tariff, .inr (5, [.ref q_tariff_text, .int x_2, .ref q_tariff_prices, .ref q_tariff_percents, .int x_5, .ref q_tariff_newPrices, .ref q_tariff_newPercents, .int x_8, .int x_9, .int x_10, .int x_11, .int x_12])), (q_tariff_text, .inl (cI, 60, .inl v_tariff_text)), (q_tariff_prices, .inl (cI, 5, .inl f_3)), (q_tariff_percents, .inl (cI, 10, .inl f_4)), (q_tariff_newPrices, .inl (cI, 5, .inl f_6)), (q_tariff_newPercents, .inl (cI, 10, .inl f_7))] H := hP
  have hD : va_D A [(q_0, .inr (0, [.ref q_slots, .ref q_tickets, .ref q_requests, .ref q_chances, .ref q_tariff, .ref q_doors])), (q_tariff, .inr (5, [.ref q_tariff_text, .int x_2, .ref q_tariff_prices, .ref q_tariff_percents, .int x_5, .ref q_tariff_newPrices, .ref q_tariff_newPercents, .int x_8, .int x_9, .int x_10, .int x_11, .int x_12])), (q_tariff_text, .inl (cI, 60, .inl v_tariff_text)), (q_tariff_prices, .inl (cI, 5, .inl f_3)), (q_tariff_percents, .inl (cI, 10, .inl f_4)), (q_tariff_newPrices, .inl (cI, 5, .inl f_6)), (q_tariff_newPercents, .inl (cI, 10, .inl f_7))] := hD
  exact rt_i (u := (x_2, f_3, f_4, x_5, f_6, f_7, x_8, x_9, x_10, x_11, x_12)) C0 hw hP hD hS (by decide) (by decide) d_X_rules_7
theorem d_X_price_0 : decode b_X_price 0 = .ok (.aload_n 0, 1) := by decide +kernel
theorem d_X_price_1 : decode b_X_price 1 = .ok (.iload_n 1, 1) := by decide +kernel
theorem d_X_price_2 : decode b_X_price 2 = .ok (.invokevirtual 127, 3) := by decide +kernel
theorem d_X_price_5 : decode b_X_price 5 = .ok (.aload_n 0, 1) := by decide +kernel
theorem d_X_price_6 : decode b_X_price 6 = .ok (.getfield 40, 3) := by decide +kernel
theorem d_X_price_9 : decode b_X_price 9 = .ok (.aload_n 0, 1) := by decide +kernel
theorem d_X_price_10 : decode b_X_price 10 = .ok (.getfield 19, 3) := by decide +kernel
theorem d_X_price_13 : decode b_X_price 13 = .ok (.getfield 144, 3) := by decide +kernel
theorem d_X_price_16 : decode b_X_price 16 = .ok (.iload_n 1, 1) := by decide +kernel
theorem d_X_price_17 : decode b_X_price 17 = .ok (.iaload, 1) := by decide +kernel
theorem d_X_price_18 : decode b_X_price 18 = .ok (.aload_n 0, 1) := by decide +kernel
theorem d_X_price_19 : decode b_X_price 19 = .ok (.getfield 19, 3) := by decide +kernel
theorem d_X_price_22 : decode b_X_price 22 = .ok (.getfield 175, 3) := by decide +kernel
theorem d_X_price_25 : decode b_X_price 25 = .ok (.iload_n 1, 1) := by decide +kernel
theorem d_X_price_26 : decode b_X_price 26 = .ok (.iaload, 1) := by decide +kernel
theorem d_X_price_27 : decode b_X_price 27 = .ok (.invokevirtual 178, 3) := by decide +kernel
theorem d_X_price_30 : decode b_X_price 30 = .ok (.ireturn, 1) := by decide +kernel
def wp_X_price (post : Int32 → Unit → Prop) (px : String → Prop) (a_1 : Int32) (v_tickets_guests : Nat → Int32) (v_tickets_kind : Nat → Int32) (v_tickets_made : Int32) (v_tariff_prices : Nat → Int32) (v_tariff_percents : Nat → Int32) : Prop := wp_X_needTicket (fun _ => (vp_in a_1 60 ∧ (vp_in a_1 60 ∧ wp_XF_cost (fun r_3 _ => post r_3 ()) (v_tickets_guests a_1.toNatClampNeg) (v_tickets_kind a_1.toNatClampNeg) v_tariff_prices v_tariff_percents))) (px) a_1 v_tickets_made
set_option maxHeartbeats 4000000 in
set_option maxRecDepth 100000 in
theorem c_X_price (l : Launch) (hl9 : l.stackTraces = false) (dC : Nat → ClassId) (dI : Nat → Nat → Nat) (cI cJ cZ : ClassId) (q_0 q_tickets q_tickets_guests q_tickets_kind q_tariff q_tariff_prices q_tariff_percents q_slots q_requests q_chances q_doors q_tickets_slot q_tickets_returned q_tariff_text q_tariff_newPrices q_tariff_newPercents : Nat) (a_1 : Int32) (v_tickets_guests : Nat → Int32) (v_tickets_kind : Nat → Int32) (v_tickets_made : Int32) (v_tariff_length : Int32) (v_tariff_prices : Nat → Int32) (v_tariff_percents : Nat → Int32) (v_tariff_clauses : Int32) (v_tariff_newClauses : Int32) (v_tariff_state : Int32) (v_tariff_subject : Int32) (v_tariff_number : Int32) (v_tariff_digits : Int32) (post : Int32 → Unit → Prop) (px : String → Prop) (hw : wp_X_price post px a_1 v_tickets_guests v_tickets_kind v_tickets_made v_tariff_prices v_tariff_percents) : Kix l y_X_price b_X_price 2 (some .int) ({ frames := 7, cells := 1, slots := 6, locals := 103 } : Room) dC dI cI cJ cZ [.ref q_0, .int a_1] [(q_0, .inr (0, [.ref q_slots, .ref q_tickets, .ref q_requests, .ref q_chances, .ref q_tariff, .ref q_doors])), (q_tickets, .inr (2, [.ref q_tickets_slot, .ref q_tickets_guests, .ref q_tickets_kind, .ref q_tickets_returned, .int v_tickets_made])), (q_tickets_guests, .inl (cI, 60, .inl v_tickets_guests)), (q_tickets_kind, .inl (cI, 60, .inl v_tickets_kind)), (q_tariff, .inr (5, [.ref q_tariff_text, .int v_tariff_length, .ref q_tariff_prices, .ref q_tariff_percents, .int v_tariff_clauses, .ref q_tariff_newPrices, .ref q_tariff_newPercents, .int v_tariff_newClauses, .int v_tariff_state, .int v_tariff_subject, .int v_tariff_number, .int v_tariff_digits])), (q_tariff_prices, .inl (cI, 5, .inl v_tariff_prices)), (q_tariff_percents, .inl (cI, 10, .inl v_tariff_percents))] false px post (fun u : Unit => [(q_0, .inr (0, [.ref q_slots, .ref q_tickets, .ref q_requests, .ref q_chances, .ref q_tariff, .ref q_doors])), (q_tickets, .inr (2, [.ref q_tickets_slot, .ref q_tickets_guests, .ref q_tickets_kind, .ref q_tickets_returned, .int v_tickets_made])), (q_tickets_guests, .inl (cI, 60, .inl v_tickets_guests)), (q_tickets_kind, .inl (cI, 60, .inl v_tickets_kind)), (q_tariff, .inr (5, [.ref q_tariff_text, .int v_tariff_length, .ref q_tariff_prices, .ref q_tariff_percents, .int v_tariff_clauses, .ref q_tariff_newPrices, .ref q_tariff_newPercents, .int v_tariff_newClauses, .int v_tariff_state, .int v_tariff_subject, .int v_tariff_number, .int v_tariff_digits])), (q_tariff_prices, .inl (cI, 5, .inl v_tariff_prices)), (q_tariff_percents, .inl (cI, 10, .inl v_tariff_percents))]) := by
  refine mkix hl9 (own := R_X) rfl (by decide) ?_
  intro p e s m args below meth c A fr C0 hEx hfr hAe hnm eav hP hD
  obtain rfl : A = fr := (hfr.trans hAe.symm).symm
  have hN : ∀ q ∈ ([] : List Loc), s.heap.size ≤ q.base := fun q h => by cases h
  have hP0 := hP
  have hD0 := hD
  obtain ⟨-, hx, hb, hml, hr, hown, hts, hlocks, hK, hZ, hA, hNS⟩ := id C0
  subst eav
  have hS : va_S A s.heap s.heap [] := va_S.rf
  have hl := lv_entry ([.ref q_0, .int a_1]) (n := 2) (Nat.le_of_ble_eq_true rfl)
  rw [lg_entry_eq]
  generalize (lg_sl ([.ref q_0, .int a_1]) ++ List.replicate (2 - (lg_sl ([.ref q_0, .int a_1])).length) Slot.unset).toArray = ls at hl ⊢
  have hl : lv_has ls 2 [(0, .ref q_0), (1, .int a_1)] := hl
  unfold wp_X_price at hw
  refine lv_aload_n hx hb d_X_price_0 rfl (lv_at hl 0 rfl) ?_
  refine lv_iload_n hx hb d_X_price_1 rfl (lv_at hl 1 rfl) ?_
  refine jxn_v C0 hP hD hS hN [0, 1] [2, 3, 4, 5, 6] (ru_Vx C0 (As := [.int a_1]) (rest := []) (c_X_needTicket l hl9 dC dI cI cJ cZ q_0 q_tickets q_slots q_requests q_chances q_tariff q_doors q_tickets_slot q_tickets_guests q_tickets_kind q_tickets_returned a_1 v_tickets_made _ _ hw _) k_148 k_149 k_150 k_151 k_86 (n9 := 1) (by decide +kernel) rfl (ci := 0) rfl rfl ⟨Nat.le_of_ble_eq_true rfl, Nat.le_of_ble_eq_true rfl⟩ hP hD hS [0, 1] rfl (by decide) hl.1 rfl (Nat.le_of_ble_eq_true rfl) d_X_price_2 ⟨Nat.le_of_ble_eq_true rfl, Nat.le_of_ble_eq_true rfl⟩) rfl rfl (by decide) (by decide) (fun E ce q9 H locs hw hP hD hS hN hce hcv hcl => ?_) (fun u H locs hw hP hD hS hN => ?_)
  · exact xoi C0 hEx hw (hP.sub [5, 6, 0, 1, 2, 3, 4] rfl) (hD.sub [5, 6, 0, 1, 2, 3, 4] (by decide) rfl) hS hS.2.2 hce hcv hcl (by decide) (by decide)
  · try dsimp only at hw
    have hP : va_P (dC, dI) classes [(q_tickets_guests, .inl (cI, 60, .inl v_tickets_guests)), (q_tickets_kind, .inl (cI, 60, .inl v_tickets_kind)), (q_tariff, .inr (5, [.ref q_tariff_text, .int v_tariff_length, .ref q_tariff_prices, .ref q_tariff_percents, .int v_tariff_clauses, .ref q_tariff_newPrices, .ref q_tariff_newPercents, .int v_tariff_newClauses, .int v_tariff_state, .int v_tariff_subject, .int v_tariff_number, .int v_tariff_digits])), (q_tariff_prices, .inl (cI, 5, .inl v_tariff_prices)), (q_tariff_percents, .inl (cI, 10, .inl v_tariff_percents)), (q_0, .inr (0, [.ref q_slots, .ref q_tickets, .ref q_requests, .ref q_chances, .ref q_tariff, .ref q_doors])), (q_tickets, .inr (2, [.ref q_tickets_slot, .ref q_tickets_guests, .ref q_tickets_kind, .ref q_tickets_returned, .int v_tickets_made]))] H := hP
    have hD : va_D A [(q_tickets_guests, .inl (cI, 60, .inl v_tickets_guests)), (q_tickets_kind, .inl (cI, 60, .inl v_tickets_kind)), (q_tariff, .inr (5, [.ref q_tariff_text, .int v_tariff_length, .ref q_tariff_prices, .ref q_tariff_percents, .int v_tariff_clauses, .ref q_tariff_newPrices, .ref q_tariff_newPercents, .int v_tariff_newClauses, .int v_tariff_state, .int v_tariff_subject, .int v_tariff_number, .int v_tariff_digits])), (q_tariff_prices, .inl (cI, 5, .inl v_tariff_prices)), (q_tariff_percents, .inl (cI, 10, .inl v_tariff_percents)), (q_0, .inr (0, [.ref q_slots, .ref q_tickets, .ref q_requests, .ref q_chances, .ref q_tariff, .ref q_doors])), (q_tickets, .inr (2, [.ref q_tickets_slot, .ref q_tickets_guests, .ref q_tickets_kind, .ref q_tickets_returned, .int v_tickets_made]))] := hD
    refine lv_aload_n hx hb d_X_price_5 rfl (lv_at hl 0 rfl) ?_
    refine va_get (D := (dC, dI)) (ci := 0) (v := .ref q_tariff) (C := R_X) (T := F_X) (N := 6) hx hb hts i_X hown hK hP 5 rfl rfl 4 (by decide) (hts _ k_59) (fun _ h9 => h9) rfl d_X_price_6 ?_
    refine lv_aload_n hx hb d_X_price_9 rfl (lv_at hl 0 rfl) ?_
    refine va_get (D := (dC, dI)) (ci := 0) (v := .ref q_tickets) (C := R_X) (T := F_X) (N := 6) hx hb hts i_X hown hK hP 5 rfl rfl 1 (by decide) (hts _ k_27) (fun _ h9 => h9) rfl d_X_price_10 ?_
    refine va_getN (D := (dC, dI)) (ci := 2) (v := .ref q_tickets_guests) (C := R_XT) (T := F_XT) (N := 5) hx hb hts i_XT hown hK hP 6 rfl rfl 1 (by decide) (va_Nw.use rfl (zn hZ z_15)) (fun _ h9 => h9) rfl d_X_price_13 ?_
    refine lv_iload_n hx hb d_X_price_16 rfl (lv_at hl 1 rfl) ?_
    obtain ⟨h_1, hw⟩ := hw
    refine va_iald hx hb hK hP 0 0 rfl rfl h_1 d_X_price_17 ?_
    refine lv_aload_n hx hb d_X_price_18 rfl (lv_at hl 0 rfl) ?_
    refine va_get (D := (dC, dI)) (ci := 0) (v := .ref q_tickets) (C := R_X) (T := F_X) (N := 6) hx hb hts i_X hown hK hP 5 rfl rfl 1 (by decide) (hts _ k_27) (fun _ h9 => h9) rfl d_X_price_19 ?_
    refine va_getN (D := (dC, dI)) (ci := 2) (v := .ref q_tickets_kind) (C := R_XT) (T := F_XT) (N := 5) hx hb hts i_XT hown hK hP 6 rfl rfl 2 (by decide) (va_Nw.use rfl (zn hZ z_21)) (fun _ h9 => h9) rfl d_X_price_22 ?_
    refine lv_iload_n hx hb d_X_price_25 rfl (lv_at hl 1 rfl) ?_
    obtain ⟨h_2, hw⟩ := hw
    refine va_iald hx hb hK hP 1 0 rfl rfl h_2 d_X_price_26 ?_
    refine jn_i C0 hP hD hS [2, 3, 4] [0, 1, 5, 6] (ru_V C0 (As := [.int (v_tickets_guests a_1.toNatClampNeg), .int (v_tickets_kind a_1.toNatClampNeg)]) (rest := []) (c_XF_cost l hl9 dC dI cI cJ cZ q_tariff q_tariff_prices q_tariff_percents q_tariff_text q_tariff_newPrices q_tariff_newPercents (v_tickets_guests a_1.toNatClampNeg) (v_tickets_kind a_1.toNatClampNeg) v_tariff_length v_tariff_prices v_tariff_percents v_tariff_clauses v_tariff_newClauses v_tariff_state v_tariff_subject v_tariff_number v_tariff_digits _ hw _) k_239 k_240 k_241 k_242 k_50 (n9 := 2) (by decide +kernel) rfl (ci := 5) rfl rfl ⟨Nat.le_of_ble_eq_true rfl, Nat.le_of_ble_eq_true rfl⟩ hP hD hS [2, 3, 4] rfl (by decide) hl.1 rfl (Nat.le_of_ble_eq_true rfl) d_X_price_27 ⟨Nat.le_of_ble_eq_true rfl, Nat.le_of_ble_eq_true rfl⟩) rfl rfl (by decide) (by decide) (fun r_3 u H locs hw hP hD hS => ?_)
    try dsimp only at hw
    have hP : va_P (dC, dI) classes [(q_tickets_guests, .inl (cI, 60, .inl v_tickets_guests)), (q_tickets_kind, .inl (cI, 60, .inl v_tickets_kind)), (q_0, .inr (0, [.ref q_slots, .ref q_tickets, .ref q_requests, .ref q_chances, .ref q_tariff, .ref q_doors])), (q_tickets, .inr (2, [.ref q_tickets_slot, .ref q_tickets_guests, .ref q_tickets_kind, .ref q_tickets_returned, .int v_tickets_made])), (q_tariff, .inr (5, [.ref q_tariff_text, .int v_tariff_length, .ref q_tariff_prices, .ref q_tariff_percents, .int v_tariff_clauses, .ref q_tariff_newPrices, .ref q_tariff_newPercents, .int v_tariff_newClauses, .int v_tariff_state, .int v_tariff_subject, .int v_tariff_number, .int v_tariff_digits])), (q_tariff_prices, .inl (cI, 5, .inl v_tariff_prices)), (q_tariff_percents, .inl (cI, 10, .inl v_tariff_percents))] H := hP
    have hD : va_D A [(q_tickets_guests, .inl (cI, 60, .inl v_tickets_guests)), (q_tickets_kind, .inl (cI, 60, .inl v_tickets_kind)), (q_0, .inr (0, [.ref q_slots, .ref q_tickets, .ref q_requests, .ref q_chances, .ref q_tariff, .ref q_doors])), (q_tickets, .inr (2, [.ref q_tickets_slot, .ref q_tickets_guests, .ref q_tickets_kind, .ref q_tickets_returned, .int v_tickets_made])), (q_tariff, .inr (5, [.ref q_tariff_text, .int v_tariff_length, .ref q_tariff_prices, .ref q_tariff_percents, .int v_tariff_clauses, .ref q_tariff_newPrices, .ref q_tariff_newPercents, .int v_tariff_newClauses, .int v_tariff_state, .int v_tariff_subject, .int v_tariff_number, .int v_tariff_digits])), (q_tariff_prices, .inl (cI, 5, .inl v_tariff_prices)), (q_tariff_percents, .inl (cI, 10, .inl v_tariff_percents))] := hD
    exact rx_i (u := ()) C0 hw (hP.sub [2, 3, 0, 1, 4, 5, 6] rfl) (hD.sub [2, 3, 0, 1, 4, 5, 6] (by decide) rfl) hS hS.2.2 (by decide) (by decide) d_X_price_30
theorem d_X_about_0 : decode b_X_about 0 = .ok (.aload_n 0, 1) := by decide +kernel
theorem d_X_about_1 : decode b_X_about 1 = .ok (.iload_n 1, 1) := by decide +kernel
theorem d_X_about_2 : decode b_X_about 2 = .ok (.invokevirtual 127, 3) := by decide +kernel
theorem d_X_about_5 : decode b_X_about 5 = .ok (.iload_n 2, 1) := by decide +kernel
theorem d_X_about_6 : decode b_X_about 6 = .ok (.tableswitch 78 0 3 #[30, 40, 50, 60], 30) := by decide +kernel
theorem d_X_about_36 : decode b_X_about 36 = .ok (.aload_n 0, 1) := by decide +kernel
theorem d_X_about_37 : decode b_X_about 37 = .ok (.getfield 19, 3) := by decide +kernel
theorem d_X_about_40 : decode b_X_about 40 = .ok (.getfield 138, 3) := by decide +kernel
theorem d_X_about_43 : decode b_X_about 43 = .ok (.iload_n 1, 1) := by decide +kernel
theorem d_X_about_44 : decode b_X_about 44 = .ok (.iaload, 1) := by decide +kernel
theorem d_X_about_45 : decode b_X_about 45 = .ok (.ireturn, 1) := by decide +kernel
theorem d_X_about_46 : decode b_X_about 46 = .ok (.aload_n 0, 1) := by decide +kernel
theorem d_X_about_47 : decode b_X_about 47 = .ok (.getfield 19, 3) := by decide +kernel
theorem d_X_about_50 : decode b_X_about 50 = .ok (.getfield 144, 3) := by decide +kernel
theorem d_X_about_53 : decode b_X_about 53 = .ok (.iload_n 1, 1) := by decide +kernel
theorem d_X_about_54 : decode b_X_about 54 = .ok (.iaload, 1) := by decide +kernel
theorem d_X_about_55 : decode b_X_about 55 = .ok (.ireturn, 1) := by decide +kernel
theorem d_X_about_56 : decode b_X_about 56 = .ok (.aload_n 0, 1) := by decide +kernel
theorem d_X_about_57 : decode b_X_about 57 = .ok (.getfield 19, 3) := by decide +kernel
theorem d_X_about_60 : decode b_X_about 60 = .ok (.getfield 175, 3) := by decide +kernel
theorem d_X_about_63 : decode b_X_about 63 = .ok (.iload_n 1, 1) := by decide +kernel
theorem d_X_about_64 : decode b_X_about 64 = .ok (.iaload, 1) := by decide +kernel
theorem d_X_about_65 : decode b_X_about 65 = .ok (.ireturn, 1) := by decide +kernel
theorem d_X_about_66 : decode b_X_about 66 = .ok (.aload_n 0, 1) := by decide +kernel
theorem d_X_about_67 : decode b_X_about 67 = .ok (.getfield 19, 3) := by decide +kernel
theorem d_X_about_70 : decode b_X_about 70 = .ok (.getfield 130, 3) := by decide +kernel
theorem d_X_about_73 : decode b_X_about 73 = .ok (.iload_n 1, 1) := by decide +kernel
theorem d_X_about_74 : decode b_X_about 74 = .ok (.baload, 1) := by decide +kernel
theorem d_X_about_75 : decode b_X_about 75 = .ok (.ifCond .eq 7, 3) := by decide +kernel
theorem d_X_about_78 : decode b_X_about 78 = .ok (.iconst 1, 1) := by decide +kernel
theorem d_X_about_79 : decode b_X_about 79 = .ok (.goto 4, 3) := by decide +kernel
theorem d_X_about_82 : decode b_X_about 82 = .ok (.iconst 0, 1) := by decide +kernel
theorem d_X_about_83 : decode b_X_about 83 = .ok (.ireturn, 1) := by decide +kernel
theorem d_X_about_84 : decode b_X_about 84 = .ok (.new 96, 3) := by decide +kernel
theorem d_X_about_87 : decode b_X_about 87 = .ok (.dup, 1) := by decide +kernel
theorem d_X_about_88 : decode b_X_about 88 = .ok (.ldc 182, 2) := by decide +kernel
theorem d_X_about_90 : decode b_X_about 90 = .ok (.invokespecial 100, 3) := by decide +kernel
theorem d_X_about_93 : decode b_X_about 93 = .ok (.athrow, 1) := by decide +kernel
def wp_X_about (post : Int32 → Unit → Prop) (px : String → Prop) (a_1 : Int32) (a_2 : Int32) (v_tickets_slot : Nat → Int32) (v_tickets_guests : Nat → Int32) (v_tickets_kind : Nat → Int32) (v_tickets_returned : Nat → Int32) (v_tickets_made : Int32) : Prop := wp_X_needTicket (fun _ => ((a_2 < (0 : Int32) → px "java/lang/IndexOutOfBoundsException") ∧ (¬ (a_2 < (0 : Int32)) → (((3 : Int32) < a_2 → px "java/lang/IndexOutOfBoundsException") ∧ (¬ ((3 : Int32) < a_2) → ((a_2 = (0 : Int32) → (vp_in a_1 60 ∧ post (v_tickets_slot a_1.toNatClampNeg) ())) ∧ (¬ (a_2 = (0 : Int32)) → ((a_2 = (1 : Int32) → (vp_in a_1 60 ∧ post (v_tickets_guests a_1.toNatClampNeg) ())) ∧ (¬ (a_2 = (1 : Int32)) → ((a_2 = (2 : Int32) → (vp_in a_1 60 ∧ post (v_tickets_kind a_1.toNatClampNeg) ())) ∧ (¬ (a_2 = (2 : Int32)) → ((a_2 = (3 : Int32) → (vp_in a_1 60 ∧ (((v_tickets_returned a_1.toNatClampNeg) = 0 → post (0 : Int32) ()) ∧ (¬ ((v_tickets_returned a_1.toNatClampNeg) = 0) → post (1 : Int32) ())))) ∧ (¬ (a_2 = (3 : Int32)) → True))))))))))))) (px) a_1 v_tickets_made
set_option maxHeartbeats 4000000 in
set_option maxRecDepth 100000 in
theorem c_X_about (l : Launch) (hl9 : l.stackTraces = false) (dC : Nat → ClassId) (dI : Nat → Nat → Nat) (cI cJ cZ : ClassId) (q_0 q_tickets q_tickets_slot q_tickets_guests q_tickets_kind q_tickets_returned q_slots q_requests q_chances q_tariff q_doors : Nat) (a_1 : Int32) (a_2 : Int32) (v_tickets_slot : Nat → Int32) (v_tickets_guests : Nat → Int32) (v_tickets_kind : Nat → Int32) (v_tickets_returned : Nat → Int32) (v_tickets_made : Int32) (post : Int32 → Unit → Prop) (px : String → Prop) (hw : wp_X_about post px a_1 a_2 v_tickets_slot v_tickets_guests v_tickets_kind v_tickets_returned v_tickets_made) : Kix l y_X_about b_X_about 3 (some .int) ({ frames := 7, cells := 1, slots := 6, locals := 103 } : Room) dC dI cI cJ cZ [.ref q_0, .int a_1, .int a_2] [(q_0, .inr (0, [.ref q_slots, .ref q_tickets, .ref q_requests, .ref q_chances, .ref q_tariff, .ref q_doors])), (q_tickets, .inr (2, [.ref q_tickets_slot, .ref q_tickets_guests, .ref q_tickets_kind, .ref q_tickets_returned, .int v_tickets_made])), (q_tickets_slot, .inl (cI, 60, .inl v_tickets_slot)), (q_tickets_guests, .inl (cI, 60, .inl v_tickets_guests)), (q_tickets_kind, .inl (cI, 60, .inl v_tickets_kind)), (q_tickets_returned, .inl (cZ, 60, .inl v_tickets_returned))] false px post (fun u : Unit => [(q_0, .inr (0, [.ref q_slots, .ref q_tickets, .ref q_requests, .ref q_chances, .ref q_tariff, .ref q_doors])), (q_tickets, .inr (2, [.ref q_tickets_slot, .ref q_tickets_guests, .ref q_tickets_kind, .ref q_tickets_returned, .int v_tickets_made])), (q_tickets_slot, .inl (cI, 60, .inl v_tickets_slot)), (q_tickets_guests, .inl (cI, 60, .inl v_tickets_guests)), (q_tickets_kind, .inl (cI, 60, .inl v_tickets_kind)), (q_tickets_returned, .inl (cZ, 60, .inl v_tickets_returned))]) := by
  refine mkix hl9 (own := R_X) rfl (by decide) ?_
  intro p e s m args below meth c A fr C0 hEx hfr hAe hnm eav hP hD
  obtain rfl : A = fr := (hfr.trans hAe.symm).symm
  have hN : ∀ q ∈ ([] : List Loc), s.heap.size ≤ q.base := fun q h => by cases h
  have hP0 := hP
  have hD0 := hD
  obtain ⟨-, hx, hb, hml, hr, hown, hts, hlocks, hK, hZ, hA, hNS⟩ := id C0
  subst eav
  have hS : va_S A s.heap s.heap [] := va_S.rf
  have hl := lv_entry ([.ref q_0, .int a_1, .int a_2]) (n := 3) (Nat.le_of_ble_eq_true rfl)
  rw [lg_entry_eq]
  generalize (lg_sl ([.ref q_0, .int a_1, .int a_2]) ++ List.replicate (3 - (lg_sl ([.ref q_0, .int a_1, .int a_2])).length) Slot.unset).toArray = ls at hl ⊢
  have hl : lv_has ls 3 [(0, .ref q_0), (1, .int a_1), (2, .int a_2)] := hl
  unfold wp_X_about at hw
  refine lv_aload_n hx hb d_X_about_0 rfl (lv_at hl 0 rfl) ?_
  refine lv_iload_n hx hb d_X_about_1 rfl (lv_at hl 1 rfl) ?_
  refine jxn_v C0 hP hD hS hN [0, 1] [2, 3, 4, 5] (ru_Vx C0 (As := [.int a_1]) (rest := []) (c_X_needTicket l hl9 dC dI cI cJ cZ q_0 q_tickets q_slots q_requests q_chances q_tariff q_doors q_tickets_slot q_tickets_guests q_tickets_kind q_tickets_returned a_1 v_tickets_made _ _ hw _) k_148 k_149 k_150 k_151 k_86 (n9 := 1) (by decide +kernel) rfl (ci := 0) rfl rfl ⟨Nat.le_of_ble_eq_true rfl, Nat.le_of_ble_eq_true rfl⟩ hP hD hS [0, 1] rfl (by decide) hl.1 rfl (Nat.le_of_ble_eq_true rfl) d_X_about_2 ⟨Nat.le_of_ble_eq_true rfl, Nat.le_of_ble_eq_true rfl⟩) rfl rfl (by decide) (by decide) (fun E ce q9 H locs hw hP hD hS hN hce hcv hcl => ?_) (fun u H locs hw hP hD hS hN => ?_)
  · exact xoi C0 hEx hw (hP.sub [4, 5, 0, 1, 2, 3] rfl) (hD.sub [4, 5, 0, 1, 2, 3] (by decide) rfl) hS hS.2.2 hce hcv hcl (by decide) (by decide)
  · try dsimp only at hw
    have hP : va_P (dC, dI) classes [(q_tickets_slot, .inl (cI, 60, .inl v_tickets_slot)), (q_tickets_guests, .inl (cI, 60, .inl v_tickets_guests)), (q_tickets_kind, .inl (cI, 60, .inl v_tickets_kind)), (q_tickets_returned, .inl (cZ, 60, .inl v_tickets_returned)), (q_0, .inr (0, [.ref q_slots, .ref q_tickets, .ref q_requests, .ref q_chances, .ref q_tariff, .ref q_doors])), (q_tickets, .inr (2, [.ref q_tickets_slot, .ref q_tickets_guests, .ref q_tickets_kind, .ref q_tickets_returned, .int v_tickets_made]))] H := hP
    have hD : va_D A [(q_tickets_slot, .inl (cI, 60, .inl v_tickets_slot)), (q_tickets_guests, .inl (cI, 60, .inl v_tickets_guests)), (q_tickets_kind, .inl (cI, 60, .inl v_tickets_kind)), (q_tickets_returned, .inl (cZ, 60, .inl v_tickets_returned)), (q_0, .inr (0, [.ref q_slots, .ref q_tickets, .ref q_requests, .ref q_chances, .ref q_tariff, .ref q_doors])), (q_tickets, .inr (2, [.ref q_tickets_slot, .ref q_tickets_guests, .ref q_tickets_kind, .ref q_tickets_returned, .int v_tickets_made]))] := hD
    refine lv_iload_n hx hb d_X_about_5 rfl (lv_at hl 2 rfl) ?_
    by_cases c_1 : a_2 < (0 : Int32)
    · have hw := hw.1 c_1
      refine lv_tableOut (tgt := 84) hx hb d_X_about_6 (Or.inl (by have q := Int32.lt_iff_toInt_lt.mp c_1; rw [show (0 : Int32).toInt = 0 by decide] at q; exact q)) (by decide) ?_
      exact thS_i C0 hEx ta_2 sb_14 hw hP0 hD0 hN hS.2.2 hl.1 (by decide) (by decide) (by decide) (by decide) d_X_about_84 d_X_about_87 d_X_about_88 d_X_about_90 d_X_about_93
    have hw := hw.2 c_1
    by_cases c_2 : (3 : Int32) < a_2
    · have hw := hw.1 c_2
      refine lv_tableOut (tgt := 84) hx hb d_X_about_6 (Or.inr (by have q := Int32.lt_iff_toInt_lt.mp c_2; rw [show (3 : Int32).toInt = 3 by decide] at q; exact q)) (by decide) ?_
      exact thS_i C0 hEx ta_2 sb_14 hw hP0 hD0 hN hS.2.2 hl.1 (by decide) (by decide) (by decide) (by decide) d_X_about_84 d_X_about_87 d_X_about_88 d_X_about_90 d_X_about_93
    have hw := hw.2 c_2
    by_cases c_3 : a_2 = (0 : Int32)
    · have hw := hw.1 c_3
      refine lv_tableIn (off := 30) (tgt := 36) hx hb d_X_about_6 (by rw [c_3]; decide) (by rw [c_3]; decide) (by rw [c_3]; decide) (by decide) ?_
      refine lv_aload_n hx hb d_X_about_36 rfl (lv_at hl 0 rfl) ?_
      refine va_get (D := (dC, dI)) (ci := 0) (v := .ref q_tickets) (C := R_X) (T := F_X) (N := 6) hx hb hts i_X hown hK hP 4 rfl rfl 1 (by decide) (hts _ k_27) (fun _ h9 => h9) rfl d_X_about_37 ?_
      refine va_getN (D := (dC, dI)) (ci := 2) (v := .ref q_tickets_slot) (C := R_XT) (T := F_XT) (N := 5) hx hb hts i_XT hown hK hP 5 rfl rfl 0 (by decide) (va_Nw.use rfl (zn hZ z_14)) (fun _ h9 => h9) rfl d_X_about_40 ?_
      refine lv_iload_n hx hb d_X_about_43 rfl (lv_at hl 1 rfl) ?_
      obtain ⟨h_4, hw⟩ := hw
      refine va_iald hx hb hK hP 0 0 rfl rfl h_4 d_X_about_44 ?_
      exact rx_i (u := ()) C0 hw (hP.sub [4, 5, 0, 1, 2, 3] rfl) (hD.sub [4, 5, 0, 1, 2, 3] (by decide) rfl) hS hS.2.2 (by decide) (by decide) d_X_about_45
    have hw := hw.2 c_3
    by_cases c_5 : a_2 = (1 : Int32)
    · have hw := hw.1 c_5
      refine lv_tableIn (off := 40) (tgt := 46) hx hb d_X_about_6 (by rw [c_5]; decide) (by rw [c_5]; decide) (by rw [c_5]; decide) (by decide) ?_
      refine lv_aload_n hx hb d_X_about_46 rfl (lv_at hl 0 rfl) ?_
      refine va_get (D := (dC, dI)) (ci := 0) (v := .ref q_tickets) (C := R_X) (T := F_X) (N := 6) hx hb hts i_X hown hK hP 4 rfl rfl 1 (by decide) (hts _ k_27) (fun _ h9 => h9) rfl d_X_about_47 ?_
      refine va_getN (D := (dC, dI)) (ci := 2) (v := .ref q_tickets_guests) (C := R_XT) (T := F_XT) (N := 5) hx hb hts i_XT hown hK hP 5 rfl rfl 1 (by decide) (va_Nw.use rfl (zn hZ z_15)) (fun _ h9 => h9) rfl d_X_about_50 ?_
      refine lv_iload_n hx hb d_X_about_53 rfl (lv_at hl 1 rfl) ?_
      obtain ⟨h_6, hw⟩ := hw
      refine va_iald hx hb hK hP 1 0 rfl rfl h_6 d_X_about_54 ?_
      exact rx_i (u := ()) C0 hw (hP.sub [4, 5, 0, 1, 2, 3] rfl) (hD.sub [4, 5, 0, 1, 2, 3] (by decide) rfl) hS hS.2.2 (by decide) (by decide) d_X_about_55
    have hw := hw.2 c_5
    by_cases c_7 : a_2 = (2 : Int32)
    · have hw := hw.1 c_7
      refine lv_tableIn (off := 50) (tgt := 56) hx hb d_X_about_6 (by rw [c_7]; decide) (by rw [c_7]; decide) (by rw [c_7]; decide) (by decide) ?_
      refine lv_aload_n hx hb d_X_about_56 rfl (lv_at hl 0 rfl) ?_
      refine va_get (D := (dC, dI)) (ci := 0) (v := .ref q_tickets) (C := R_X) (T := F_X) (N := 6) hx hb hts i_X hown hK hP 4 rfl rfl 1 (by decide) (hts _ k_27) (fun _ h9 => h9) rfl d_X_about_57 ?_
      refine va_getN (D := (dC, dI)) (ci := 2) (v := .ref q_tickets_kind) (C := R_XT) (T := F_XT) (N := 5) hx hb hts i_XT hown hK hP 5 rfl rfl 2 (by decide) (va_Nw.use rfl (zn hZ z_21)) (fun _ h9 => h9) rfl d_X_about_60 ?_
      refine lv_iload_n hx hb d_X_about_63 rfl (lv_at hl 1 rfl) ?_
      obtain ⟨h_8, hw⟩ := hw
      refine va_iald hx hb hK hP 2 0 rfl rfl h_8 d_X_about_64 ?_
      exact rx_i (u := ()) C0 hw (hP.sub [4, 5, 0, 1, 2, 3] rfl) (hD.sub [4, 5, 0, 1, 2, 3] (by decide) rfl) hS hS.2.2 (by decide) (by decide) d_X_about_65
    have hw := hw.2 c_7
    by_cases c_9 : a_2 = (3 : Int32)
    · have hw := hw.1 c_9
      refine lv_tableIn (off := 60) (tgt := 66) hx hb d_X_about_6 (by rw [c_9]; decide) (by rw [c_9]; decide) (by rw [c_9]; decide) (by decide) ?_
      refine lv_aload_n hx hb d_X_about_66 rfl (lv_at hl 0 rfl) ?_
      refine va_get (D := (dC, dI)) (ci := 0) (v := .ref q_tickets) (C := R_X) (T := F_X) (N := 6) hx hb hts i_X hown hK hP 4 rfl rfl 1 (by decide) (hts _ k_27) (fun _ h9 => h9) rfl d_X_about_67 ?_
      refine va_getN (D := (dC, dI)) (ci := 2) (v := .ref q_tickets_returned) (C := R_XT) (T := F_XT) (N := 5) hx hb hts i_XT hown hK hP 5 rfl rfl 3 (by decide) (va_Nw.use rfl (zn hZ z_13)) (fun _ h9 => h9) rfl d_X_about_70 ?_
      refine lv_iload_n hx hb d_X_about_73 rfl (lv_at hl 1 rfl) ?_
      obtain ⟨h_10, hw⟩ := hw
      refine va_zald hx hb hK hP 3 2 rfl rfl h_10 d_X_about_74 ?_
      refine lv_if_eq (tgt := 82) hx hb d_X_about_75 (by decide) (fun c_11 => ?_) (fun c_11 => ?_)
      · have hw := hw.1 c_11
        refine lv_iconst (v := (0 : Int32)) hx hb d_X_about_82 (by decide) ?_
        exact rx_i (u := ()) C0 hw (hP.sub [4, 5, 0, 1, 2, 3] rfl) (hD.sub [4, 5, 0, 1, 2, 3] (by decide) rfl) hS hS.2.2 (by decide) (by decide) d_X_about_83
      · have hw := hw.2 c_11
        refine lv_iconst (v := (1 : Int32)) hx hb d_X_about_78 (by decide) ?_
        refine lv_goto (tgt := 83) hx hb d_X_about_79 (by decide) ?_
        exact rx_i (u := ()) C0 hw (hP.sub [4, 5, 0, 1, 2, 3] rfl) (hD.sub [4, 5, 0, 1, 2, 3] (by decide) rfl) hS hS.2.2 (by decide) (by decide) d_X_about_83
    have hw := hw.2 c_9
    exfalso
    have q1 : ¬ a_2.toInt < 0 := fun q => c_1 (Int32.lt_iff_toInt_lt.mpr (by rw [show (0 : Int32).toInt = 0 by decide]; exact q))
    have q2 : ¬ 3 < a_2.toInt := fun q => c_2 (Int32.lt_iff_toInt_lt.mpr (by rw [show (3 : Int32).toInt = 3 by decide]; exact q))
    have qc_3 := lv_neT c_3 (show (0 : Int32).toInt = 0 by decide)
    have qc_5 := lv_neT c_5 (show (1 : Int32).toInt = 1 by decide)
    have qc_7 := lv_neT c_7 (show (2 : Int32).toInt = 2 by decide)
    have qc_9 := lv_neT c_9 (show (3 : Int32).toInt = 3 by decide)
    omega
theorem d_X_code_0 : decode b_X_code 0 = .ok (.aload_n 0, 1) := by decide +kernel
theorem d_X_code_1 : decode b_X_code 1 = .ok (.iload_n 1, 1) := by decide +kernel
theorem d_X_code_2 : decode b_X_code 2 = .ok (.invokevirtual 127, 3) := by decide +kernel
theorem d_X_code_5 : decode b_X_code 5 = .ok (.iload_n 2, 1) := by decide +kernel
theorem d_X_code_6 : decode b_X_code 6 = .ok (.ifCond .lt 9, 3) := by decide +kernel
theorem d_X_code_9 : decode b_X_code 9 = .ok (.iload_n 2, 1) := by decide +kernel
theorem d_X_code_10 : decode b_X_code 10 = .ok (.bipush 6, 2) := by decide +kernel
theorem d_X_code_12 : decode b_X_code 12 = .ok (.if_icmp .lt 13, 3) := by decide +kernel
theorem d_X_code_15 : decode b_X_code 15 = .ok (.new 96, 3) := by decide +kernel
theorem d_X_code_18 : decode b_X_code 18 = .ok (.dup, 1) := by decide +kernel
theorem d_X_code_19 : decode b_X_code 19 = .ok (.ldc 184, 2) := by decide +kernel
theorem d_X_code_21 : decode b_X_code 21 = .ok (.invokespecial 100, 3) := by decide +kernel
theorem d_X_code_24 : decode b_X_code 24 = .ok (.athrow, 1) := by decide +kernel
theorem d_X_code_25 : decode b_X_code 25 = .ok (.aload_n 0, 1) := by decide +kernel
theorem d_X_code_26 : decode b_X_code 26 = .ok (.getfield 19, 3) := by decide +kernel
theorem d_X_code_29 : decode b_X_code 29 = .ok (.iload_n 1, 1) := by decide +kernel
theorem d_X_code_30 : decode b_X_code 30 = .ok (.invokevirtual 186, 3) := by decide +kernel
theorem d_X_code_33 : decode b_X_code 33 = .ok (.i2l, 1) := by decide +kernel
theorem d_X_code_34 : decode b_X_code 34 = .ok (.iconst 5, 1) := by decide +kernel
theorem d_X_code_35 : decode b_X_code 35 = .ok (.iload_n 2, 1) := by decide +kernel
theorem d_X_code_36 : decode b_X_code 36 = .ok (.isub, 1) := by decide +kernel
theorem d_X_code_37 : decode b_X_code 37 = .ok (.invokestatic 189, 3) := by decide +kernel
theorem d_X_code_40 : decode b_X_code 40 = .ok (.ireturn, 1) := by decide +kernel
def wp_X_code (post : Int32 → Unit → Prop) (px : String → Prop) (a_1 : Int32) (a_2 : Int32) (v_tickets_slot : Nat → Int32) (v_tickets_made : Int32) : Prop := wp_X_needTicket (fun _ => ((a_2 < 0 → px "java/lang/IndexOutOfBoundsException") ∧ (¬ (a_2 < 0) → ((a_2 < (6 : Int32) → wp_XT_codeOf (fun r_3 _ => wp_X_digitOf (fun r_4 _ => post r_4 ()) r_3.toInt64 ((5 : Int32) - a_2)) a_1 v_tickets_slot) ∧ (¬ (a_2 < (6 : Int32)) → px "java/lang/IndexOutOfBoundsException"))))) (px) a_1 v_tickets_made
set_option maxHeartbeats 4000000 in
set_option maxRecDepth 100000 in
theorem c_X_code (l : Launch) (hl9 : l.stackTraces = false) (dC : Nat → ClassId) (dI : Nat → Nat → Nat) (cI cJ cZ : ClassId) (q_0 q_tickets q_tickets_slot q_slots q_requests q_chances q_tariff q_doors q_tickets_guests q_tickets_kind q_tickets_returned : Nat) (a_1 : Int32) (a_2 : Int32) (v_tickets_slot : Nat → Int32) (v_tickets_made : Int32) (post : Int32 → Unit → Prop) (px : String → Prop) (hw : wp_X_code post px a_1 a_2 v_tickets_slot v_tickets_made) : Kix l y_X_code b_X_code 3 (some .int) ({ frames := 7, cells := 1, slots := 6, locals := 103 } : Room) dC dI cI cJ cZ [.ref q_0, .int a_1, .int a_2] [(q_0, .inr (0, [.ref q_slots, .ref q_tickets, .ref q_requests, .ref q_chances, .ref q_tariff, .ref q_doors])), (q_tickets, .inr (2, [.ref q_tickets_slot, .ref q_tickets_guests, .ref q_tickets_kind, .ref q_tickets_returned, .int v_tickets_made])), (q_tickets_slot, .inl (cI, 60, .inl v_tickets_slot))] false px post (fun u : Unit => [(q_0, .inr (0, [.ref q_slots, .ref q_tickets, .ref q_requests, .ref q_chances, .ref q_tariff, .ref q_doors])), (q_tickets, .inr (2, [.ref q_tickets_slot, .ref q_tickets_guests, .ref q_tickets_kind, .ref q_tickets_returned, .int v_tickets_made])), (q_tickets_slot, .inl (cI, 60, .inl v_tickets_slot))]) := by
  refine mkix hl9 (own := R_X) rfl (by decide) ?_
  intro p e s m args below meth c A fr C0 hEx hfr hAe hnm eav hP hD
  obtain rfl : A = fr := (hfr.trans hAe.symm).symm
  have hN : ∀ q ∈ ([] : List Loc), s.heap.size ≤ q.base := fun q h => by cases h
  have hP0 := hP
  have hD0 := hD
  obtain ⟨-, hx, hb, hml, hr, hown, hts, hlocks, hK, hZ, hA, hNS⟩ := id C0
  subst eav
  have hS : va_S A s.heap s.heap [] := va_S.rf
  have hl := lv_entry ([.ref q_0, .int a_1, .int a_2]) (n := 3) (Nat.le_of_ble_eq_true rfl)
  rw [lg_entry_eq]
  generalize (lg_sl ([.ref q_0, .int a_1, .int a_2]) ++ List.replicate (3 - (lg_sl ([.ref q_0, .int a_1, .int a_2])).length) Slot.unset).toArray = ls at hl ⊢
  have hl : lv_has ls 3 [(0, .ref q_0), (1, .int a_1), (2, .int a_2)] := hl
  unfold wp_X_code at hw
  refine lv_aload_n hx hb d_X_code_0 rfl (lv_at hl 0 rfl) ?_
  refine lv_iload_n hx hb d_X_code_1 rfl (lv_at hl 1 rfl) ?_
  refine jxn_v C0 hP hD hS hN [0, 1] [2] (ru_Vx C0 (As := [.int a_1]) (rest := []) (c_X_needTicket l hl9 dC dI cI cJ cZ q_0 q_tickets q_slots q_requests q_chances q_tariff q_doors q_tickets_slot q_tickets_guests q_tickets_kind q_tickets_returned a_1 v_tickets_made _ _ hw _) k_148 k_149 k_150 k_151 k_86 (n9 := 1) (by decide +kernel) rfl (ci := 0) rfl rfl ⟨Nat.le_of_ble_eq_true rfl, Nat.le_of_ble_eq_true rfl⟩ hP hD hS [0, 1] rfl (by decide) hl.1 rfl (Nat.le_of_ble_eq_true rfl) d_X_code_2 ⟨Nat.le_of_ble_eq_true rfl, Nat.le_of_ble_eq_true rfl⟩) rfl rfl (by decide) (by decide) (fun E ce q9 H locs hw hP hD hS hN hce hcv hcl => ?_) (fun u H locs hw hP hD hS hN => ?_)
  · exact xoi C0 hEx hw (hP.sub [1, 2, 0] rfl) (hD.sub [1, 2, 0] (by decide) rfl) hS hS.2.2 hce hcv hcl (by decide) (by decide)
  · try dsimp only at hw
    have hP : va_P (dC, dI) classes [(q_tickets_slot, .inl (cI, 60, .inl v_tickets_slot)), (q_0, .inr (0, [.ref q_slots, .ref q_tickets, .ref q_requests, .ref q_chances, .ref q_tariff, .ref q_doors])), (q_tickets, .inr (2, [.ref q_tickets_slot, .ref q_tickets_guests, .ref q_tickets_kind, .ref q_tickets_returned, .int v_tickets_made]))] H := hP
    have hD : va_D A [(q_tickets_slot, .inl (cI, 60, .inl v_tickets_slot)), (q_0, .inr (0, [.ref q_slots, .ref q_tickets, .ref q_requests, .ref q_chances, .ref q_tariff, .ref q_doors])), (q_tickets, .inr (2, [.ref q_tickets_slot, .ref q_tickets_guests, .ref q_tickets_kind, .ref q_tickets_returned, .int v_tickets_made]))] := hD
    refine lv_iload_n hx hb d_X_code_5 rfl (lv_at hl 2 rfl) ?_
    refine lv_if_lt (tgt := 15) hx hb d_X_code_6 (by decide) (fun c_1 => ?_) (fun c_1 => ?_)
    · have hw := hw.1 c_1
      exact thS_i C0 hEx ta_2 sb_15 hw hP0 hD0 hN hS.2.2 hl.1 (by decide) (by decide) (by decide) (by decide) d_X_code_15 d_X_code_18 d_X_code_19 d_X_code_21 d_X_code_24
    · have hw := hw.2 c_1
      refine lv_iload_n hx hb d_X_code_9 rfl (lv_at hl 2 rfl) ?_
      refine lv_bipush (v := (6 : Int32)) hx hb d_X_code_10 (by decide) ?_
      refine lv_icmp_lt (tgt := 25) hx hb d_X_code_12 (by decide) (fun c_2 => ?_) (fun c_2 => ?_)
      · have hw := hw.1 c_2
        refine lv_aload_n hx hb d_X_code_25 rfl (lv_at hl 0 rfl) ?_
        refine va_get (D := (dC, dI)) (ci := 0) (v := .ref q_tickets) (C := R_X) (T := F_X) (N := 6) hx hb hts i_X hown hK hP 1 rfl rfl 1 (by decide) (hts _ k_27) (fun _ h9 => h9) rfl d_X_code_26 ?_
        refine lv_iload_n hx hb d_X_code_29 rfl (lv_at hl 1 rfl) ?_
        refine jn_i C0 hP hD hS [2, 0] [1] (ru_V C0 (As := [.int a_1]) (rest := []) (c_XT_codeOf l hl9 dC dI cI cJ cZ q_tickets q_tickets_slot q_tickets_guests q_tickets_kind q_tickets_returned a_1 v_tickets_slot v_tickets_made _ hw _) k_247 k_248 k_249 k_250 k_18 (n9 := 1) (by decide +kernel) rfl (ci := 2) rfl rfl ⟨Nat.le_of_ble_eq_true rfl, Nat.le_of_ble_eq_true rfl⟩ hP hD hS [2, 0] rfl (by decide) hl.1 rfl (Nat.le_of_ble_eq_true rfl) d_X_code_30 ⟨Nat.le_of_ble_eq_true rfl, Nat.le_of_ble_eq_true rfl⟩) rfl rfl (by decide) (by decide) (fun r_3 u H locs hw hP hD hS => ?_)
        try dsimp only at hw
        have hP : va_P (dC, dI) classes [(q_0, .inr (0, [.ref q_slots, .ref q_tickets, .ref q_requests, .ref q_chances, .ref q_tariff, .ref q_doors])), (q_tickets, .inr (2, [.ref q_tickets_slot, .ref q_tickets_guests, .ref q_tickets_kind, .ref q_tickets_returned, .int v_tickets_made])), (q_tickets_slot, .inl (cI, 60, .inl v_tickets_slot))] H := hP
        have hD : va_D A [(q_0, .inr (0, [.ref q_slots, .ref q_tickets, .ref q_requests, .ref q_chances, .ref q_tariff, .ref q_doors])), (q_tickets, .inr (2, [.ref q_tickets_slot, .ref q_tickets_guests, .ref q_tickets_kind, .ref q_tickets_returned, .int v_tickets_made])), (q_tickets_slot, .inl (cI, 60, .inl v_tickets_slot))] := hD
        refine lv_i2l hx hb d_X_code_33 rfl ?_
        refine lv_iconst (v := (5 : Int32)) hx hb d_X_code_34 (by decide) ?_
        refine lv_iload_n hx hb d_X_code_35 rfl (lv_at hl 2 rfl) ?_
        refine lv_isub hx hb d_X_code_36 ?_
        refine jn_i C0 hP hD hS [] [0, 1, 2] (ru_S C0 (As := [.long r_3.toInt64, .int ((5 : Int32) - a_2)]) (rest := []) (c_X_digitOf l hl9 dC dI cI cJ cZ r_3.toInt64 ((5 : Int32) - a_2) _ hw _) k_123 k_244 k_124 k_86 (n9 := 2) (by decide +kernel) rfl ⟨Nat.le_of_ble_eq_true rfl, Nat.le_of_ble_eq_true rfl⟩ hP hD hS [] rfl (by decide) hl.1 rfl (Nat.le_of_ble_eq_true rfl) d_X_code_37 ⟨Nat.le_of_ble_eq_true rfl, Nat.le_of_ble_eq_true rfl⟩) rfl rfl (by decide) (by decide) (fun r_4 u H locs hw hP hD hS => ?_)
        try dsimp only at hw
        have hP : va_P (dC, dI) classes [(q_0, .inr (0, [.ref q_slots, .ref q_tickets, .ref q_requests, .ref q_chances, .ref q_tariff, .ref q_doors])), (q_tickets, .inr (2, [.ref q_tickets_slot, .ref q_tickets_guests, .ref q_tickets_kind, .ref q_tickets_returned, .int v_tickets_made])), (q_tickets_slot, .inl (cI, 60, .inl v_tickets_slot))] H := hP
        have hD : va_D A [(q_0, .inr (0, [.ref q_slots, .ref q_tickets, .ref q_requests, .ref q_chances, .ref q_tariff, .ref q_doors])), (q_tickets, .inr (2, [.ref q_tickets_slot, .ref q_tickets_guests, .ref q_tickets_kind, .ref q_tickets_returned, .int v_tickets_made])), (q_tickets_slot, .inl (cI, 60, .inl v_tickets_slot))] := hD
        exact rx_i (u := ()) C0 hw hP hD hS hS.2.2 (by decide) (by decide) d_X_code_40
      · have hw := hw.2 c_2
        exact thS_i C0 hEx ta_2 sb_15 hw hP0 hD0 hN hS.2.2 hl.1 (by decide) (by decide) (by decide) (by decide) d_X_code_15 d_X_code_18 d_X_code_19 d_X_code_21 d_X_code_24
theorem d_X_whose_0 : decode b_X_whose 0 = .ok (.iload_n 1, 1) := by decide +kernel
theorem d_X_whose_1 : decode b_X_whose 1 = .ok (.ifCond .lt 23, 3) := by decide +kernel
theorem d_X_whose_4 : decode b_X_whose 4 = .ok (.iload_n 1, 1) := by decide +kernel
theorem d_X_whose_5 : decode b_X_whose 5 = .ok (.ldc 193, 2) := by decide +kernel
theorem d_X_whose_7 : decode b_X_whose 7 = .ok (.if_icmp .gt 17, 3) := by decide +kernel
theorem d_X_whose_10 : decode b_X_whose 10 = .ok (.iload_n 1, 1) := by decide +kernel
theorem d_X_whose_11 : decode b_X_whose 11 = .ok (.bipush 10, 2) := by decide +kernel
theorem d_X_whose_13 : decode b_X_whose 13 = .ok (.irem, 1) := by decide +kernel
theorem d_X_whose_14 : decode b_X_whose 14 = .ok (.iload_n 1, 1) := by decide +kernel
theorem d_X_whose_15 : decode b_X_whose 15 = .ok (.bipush 10, 2) := by decide +kernel
theorem d_X_whose_17 : decode b_X_whose 17 = .ok (.idiv, 1) := by decide +kernel
theorem d_X_whose_18 : decode b_X_whose 18 = .ok (.invokestatic 194, 3) := by decide +kernel
theorem d_X_whose_21 : decode b_X_whose 21 = .ok (.if_icmp .eq 5, 3) := by decide +kernel
theorem d_X_whose_24 : decode b_X_whose 24 = .ok (.iconst (-1), 1) := by decide +kernel
theorem d_X_whose_25 : decode b_X_whose 25 = .ok (.ireturn, 1) := by decide +kernel
theorem d_X_whose_26 : decode b_X_whose 26 = .ok (.aload_n 0, 1) := by decide +kernel
theorem d_X_whose_27 : decode b_X_whose 27 = .ok (.getfield 19, 3) := by decide +kernel
theorem d_X_whose_30 : decode b_X_whose 30 = .ok (.iload_n 1, 1) := by decide +kernel
theorem d_X_whose_31 : decode b_X_whose 31 = .ok (.invokevirtual 197, 3) := by decide +kernel
theorem d_X_whose_34 : decode b_X_whose 34 = .ok (.ireturn, 1) := by decide +kernel
def wp_X_whose (post : Int32 → Unit → Prop) (a_1 : Int32) (v_tickets_slot : Nat → Int32) (v_tickets_made : Int32) : Prop := ((a_1 < 0 → post (-1 : Int32) ()) ∧ (¬ (a_1 < 0) → (((999999 : Int32) < a_1 → post (-1 : Int32) ()) ∧ (¬ ((999999 : Int32) < a_1) → wp_X_checkOf (fun r_3 _ => (((a_1 - a_1 / (10 : Int32) * (10 : Int32)) = r_3 → wp_XT_find (fun r_5 _ => post r_5 ()) a_1 v_tickets_slot v_tickets_made) ∧ (¬ ((a_1 - a_1 / (10 : Int32) * (10 : Int32)) = r_3) → post (-1 : Int32) ()))) (a_1 / (10 : Int32))))))
set_option maxHeartbeats 4000000 in
set_option maxRecDepth 100000 in
theorem c_X_whose (l : Launch) (hl9 : l.stackTraces = false) (dC : Nat → ClassId) (dI : Nat → Nat → Nat) (cI cJ cZ : ClassId) (q_0 q_tickets q_tickets_slot q_slots q_requests q_chances q_tariff q_doors q_tickets_guests q_tickets_kind q_tickets_returned : Nat) (a_1 : Int32) (v_tickets_slot : Nat → Int32) (v_tickets_made : Int32) (post : Int32 → Unit → Prop) (hw : wp_X_whose post a_1 v_tickets_slot v_tickets_made) : Ki l y_X_whose b_X_whose 2 (some .int) ({ frames := 4, cells := 0, slots := 0, locals := 90 } : Room) dC dI cI cJ cZ [.ref q_0, .int a_1] [(q_0, .inr (0, [.ref q_slots, .ref q_tickets, .ref q_requests, .ref q_chances, .ref q_tariff, .ref q_doors])), (q_tickets, .inr (2, [.ref q_tickets_slot, .ref q_tickets_guests, .ref q_tickets_kind, .ref q_tickets_returned, .int v_tickets_made])), (q_tickets_slot, .inl (cI, 60, .inl v_tickets_slot))] post (fun u : Unit => [(q_0, .inr (0, [.ref q_slots, .ref q_tickets, .ref q_requests, .ref q_chances, .ref q_tariff, .ref q_doors])), (q_tickets, .inr (2, [.ref q_tickets_slot, .ref q_tickets_guests, .ref q_tickets_kind, .ref q_tickets_returned, .int v_tickets_made])), (q_tickets_slot, .inl (cI, 60, .inl v_tickets_slot))]) := by
  refine mki hl9 (own := R_X) rfl (by decide) ?_
  intro p e s m args below meth c A C0 hnm eav hP hD
  obtain ⟨-, hx, hb, hml, hr, hown, hts, hlocks, hK, hZ, hA, hNS⟩ := id C0
  subst eav
  have hS : va_S A s.heap s.heap [] := va_S.rf
  have hl := lv_entry ([.ref q_0, .int a_1]) (n := 2) (Nat.le_of_ble_eq_true rfl)
  rw [lg_entry_eq]
  generalize (lg_sl ([.ref q_0, .int a_1]) ++ List.replicate (2 - (lg_sl ([.ref q_0, .int a_1])).length) Slot.unset).toArray = ls at hl ⊢
  have hl : lv_has ls 2 [(0, .ref q_0), (1, .int a_1)] := hl
  unfold wp_X_whose at hw
  refine lv_iload_n hx hb d_X_whose_0 rfl (lv_at hl 1 rfl) ?_
  refine lv_if_lt (tgt := 24) hx hb d_X_whose_1 (by decide) (fun c_1 => ?_) (fun c_1 => ?_)
  · have hw := hw.1 c_1
    refine lv_iconst (v := (-1 : Int32)) hx hb d_X_whose_24 (by decide) ?_
    exact rt_i (u := ()) C0 hw hP hD hS (by decide) (by decide) d_X_whose_25
  · have hw := hw.2 c_1
    refine lv_iload_n hx hb d_X_whose_4 rfl (lv_at hl 1 rfl) ?_
    refine lv_ldc (v := (999999 : Int32)) hx hb hown (hts _ k_251) d_X_whose_5 ?_
    refine lv_icmp_gt (tgt := 24) hx hb d_X_whose_7 (by decide) (fun c_2 => ?_) (fun c_2 => ?_)
    · have hw := hw.1 c_2
      refine lv_iconst (v := (-1 : Int32)) hx hb d_X_whose_24 (by decide) ?_
      exact rt_i (u := ()) C0 hw hP hD hS (by decide) (by decide) d_X_whose_25
    · have hw := hw.2 c_2
      refine lv_iload_n hx hb d_X_whose_10 rfl (lv_at hl 1 rfl) ?_
      refine lv_bipush (v := (10 : Int32)) hx hb d_X_whose_11 (by decide) ?_
      refine lv_irem hx hb d_X_whose_13 (by decide) ?_
      refine lv_iload_n hx hb d_X_whose_14 rfl (lv_at hl 1 rfl) ?_
      refine lv_bipush (v := (10 : Int32)) hx hb d_X_whose_15 (by decide) ?_
      refine lv_idiv hx hb d_X_whose_17 (by decide) ?_
      refine jn_i C0 hP hD hS [] [0, 1, 2] (ru_S C0 (As := [.int (a_1 / (10 : Int32))]) (rest := [.int (a_1 - a_1 / (10 : Int32) * (10 : Int32))]) (c_X_checkOf l hl9 dC dI cI cJ cZ (a_1 / (10 : Int32)) _ hw _) k_245 k_252 k_246 k_86 (n9 := 1) (by decide +kernel) rfl ⟨Nat.le_of_ble_eq_true rfl, Nat.le_of_ble_eq_true rfl⟩ hP hD hS [] rfl (by decide) hl.1 rfl (Nat.le_of_ble_eq_true rfl) d_X_whose_18 ⟨Nat.le_of_ble_eq_true rfl, Nat.le_of_ble_eq_true rfl⟩) rfl rfl (by decide) (by decide) (fun r_3 u H locs hw hP hD hS => ?_)
      try dsimp only at hw
      have hP : va_P (dC, dI) classes [(q_0, .inr (0, [.ref q_slots, .ref q_tickets, .ref q_requests, .ref q_chances, .ref q_tariff, .ref q_doors])), (q_tickets, .inr (2, [.ref q_tickets_slot, .ref q_tickets_guests, .ref q_tickets_kind, .ref q_tickets_returned, .int v_tickets_made])), (q_tickets_slot, .inl (cI, 60, .inl v_tickets_slot))] H := hP
      have hD : va_D A [(q_0, .inr (0, [.ref q_slots, .ref q_tickets, .ref q_requests, .ref q_chances, .ref q_tariff, .ref q_doors])), (q_tickets, .inr (2, [.ref q_tickets_slot, .ref q_tickets_guests, .ref q_tickets_kind, .ref q_tickets_returned, .int v_tickets_made])), (q_tickets_slot, .inl (cI, 60, .inl v_tickets_slot))] := hD
      refine lv_icmp_eq (tgt := 26) hx hb d_X_whose_21 (by decide) (fun c_4 => ?_) (fun c_4 => ?_)
      · have hw := hw.1 c_4
        refine lv_aload_n hx hb d_X_whose_26 rfl (lv_at hl 0 rfl) ?_
        refine va_get (D := (dC, dI)) (ci := 0) (v := .ref q_tickets) (C := R_X) (T := F_X) (N := 6) hx hb hts i_X hown hK hP 0 rfl rfl 1 (by decide) (hts _ k_27) (fun _ h9 => h9) rfl d_X_whose_27 ?_
        refine lv_iload_n hx hb d_X_whose_30 rfl (lv_at hl 1 rfl) ?_
        refine jn_i C0 hP hD hS [1, 2] [0] (ru_V C0 (As := [.int a_1]) (rest := []) (c_XT_find l hl9 dC dI cI cJ cZ q_tickets q_tickets_slot q_tickets_guests q_tickets_kind q_tickets_returned a_1 v_tickets_slot v_tickets_made _ hw _) k_254 k_255 k_256 k_257 k_18 (n9 := 1) (by decide +kernel) rfl (ci := 2) rfl rfl ⟨Nat.le_of_ble_eq_true rfl, Nat.le_of_ble_eq_true rfl⟩ hP hD hS [1, 2] rfl (by decide) hl.1 rfl (Nat.le_of_ble_eq_true rfl) d_X_whose_31 ⟨Nat.le_of_ble_eq_true rfl, Nat.le_of_ble_eq_true rfl⟩) rfl rfl (by decide) (by decide) (fun r_5 u H locs hw hP hD hS => ?_)
        try dsimp only at hw
        have hP : va_P (dC, dI) classes [(q_0, .inr (0, [.ref q_slots, .ref q_tickets, .ref q_requests, .ref q_chances, .ref q_tariff, .ref q_doors])), (q_tickets, .inr (2, [.ref q_tickets_slot, .ref q_tickets_guests, .ref q_tickets_kind, .ref q_tickets_returned, .int v_tickets_made])), (q_tickets_slot, .inl (cI, 60, .inl v_tickets_slot))] H := hP
        have hD : va_D A [(q_0, .inr (0, [.ref q_slots, .ref q_tickets, .ref q_requests, .ref q_chances, .ref q_tariff, .ref q_doors])), (q_tickets, .inr (2, [.ref q_tickets_slot, .ref q_tickets_guests, .ref q_tickets_kind, .ref q_tickets_returned, .int v_tickets_made])), (q_tickets_slot, .inl (cI, 60, .inl v_tickets_slot))] := hD
        exact rt_i (u := ()) C0 hw hP hD hS (by decide) (by decide) d_X_whose_34
      · have hw := hw.2 c_4
        refine lv_iconst (v := (-1 : Int32)) hx hb d_X_whose_24 (by decide) ?_
        exact rt_i (u := ()) C0 hw hP hD hS (by decide) (by decide) d_X_whose_25
theorem d_X_needSecond_0 : decode b_X_needSecond 0 = .ok (.iload_n 0, 1) := by decide +kernel
theorem d_X_needSecond_1 : decode b_X_needSecond 1 = .ok (.ifCond .lt 10, 3) := by decide +kernel
theorem d_X_needSecond_4 : decode b_X_needSecond 4 = .ok (.iload_n 0, 1) := by decide +kernel
theorem d_X_needSecond_5 : decode b_X_needSecond 5 = .ok (.ldc_w 265, 3) := by decide +kernel
theorem d_X_needSecond_8 : decode b_X_needSecond 8 = .ok (.if_icmp .le 14, 3) := by decide +kernel
theorem d_X_needSecond_11 : decode b_X_needSecond 11 = .ok (.new 62, 3) := by decide +kernel
theorem d_X_needSecond_14 : decode b_X_needSecond 14 = .ok (.dup, 1) := by decide +kernel
theorem d_X_needSecond_15 : decode b_X_needSecond 15 = .ok (.ldc_w 266, 3) := by decide +kernel
theorem d_X_needSecond_18 : decode b_X_needSecond 18 = .ok (.invokespecial 66, 3) := by decide +kernel
theorem d_X_needSecond_21 : decode b_X_needSecond 21 = .ok (.athrow, 1) := by decide +kernel
theorem d_X_needSecond_22 : decode b_X_needSecond 22 = .ok (.return_, 1) := by decide +kernel
def wp_X_needSecond (post : Unit → Prop) (px : String → Prop) (a_0 : Int32) : Prop := ((a_0 < 0 → px "java/lang/IllegalArgumentException") ∧ (¬ (a_0 < 0) → ((a_0 ≤ (100000 : Int32) → post ()) ∧ (¬ (a_0 ≤ (100000 : Int32)) → px "java/lang/IllegalArgumentException"))))
set_option maxHeartbeats 4000000 in
set_option maxRecDepth 100000 in
theorem c_X_needSecond (l : Launch) (hl9 : l.stackTraces = false) (dC : Nat → ClassId) (dI : Nat → Nat → Nat) (cI cJ cZ : ClassId) (a_0 : Int32) (post : Unit → Prop) (px : String → Prop) (hw : wp_X_needSecond post px a_0) : Kvx l y_X_needSecond b_X_needSecond 1 none ({ frames := 6, cells := 1, slots := 6, locals := 82 } : Room) dC dI cI cJ cZ [.int a_0] [] true px post (fun u : Unit => []) := by
  refine mkvx hl9 (own := R_X) rfl (by decide) ?_
  intro p e s m args below meth c A fr C0 hEx hfr hAe hnm eav hP hD
  subst hfr
  have hN : ∀ q ∈ ([] : List Loc), s.heap.size ≤ q.base := fun q h => by cases h
  have hP0 := hP
  have hD0 := hD
  obtain ⟨-, hx, hb, hml, hr, hown, hts, hlocks, hK, hZ, hA, hNS⟩ := id C0
  subst eav
  have hS : va_S A s.heap s.heap [] := va_S.rf
  have hl := lv_entry ([.int a_0]) (n := 1) (Nat.le_of_ble_eq_true rfl)
  rw [lg_entry_eq]
  generalize (lg_sl ([.int a_0]) ++ List.replicate (1 - (lg_sl ([.int a_0])).length) Slot.unset).toArray = ls at hl ⊢
  have hl : lv_has ls 1 [(0, .int a_0)] := hl
  unfold wp_X_needSecond at hw
  refine lv_iload_n hx hb d_X_needSecond_0 rfl (lv_at hl 0 rfl) ?_
  refine lv_if_lt (tgt := 11) hx hb d_X_needSecond_1 (by decide) (fun c_1 => ?_) (fun c_1 => ?_)
  · have hw := hw.1 c_1
    exact thSW_v C0 hEx ta_0 sb_17 hw hP0 hD0 hN (fun q h => by cases h) hl.1 (by decide) (by decide) (by decide) (by decide) d_X_needSecond_11 d_X_needSecond_14 d_X_needSecond_15 d_X_needSecond_18 d_X_needSecond_21
  · have hw := hw.2 c_1
    refine lv_iload_n hx hb d_X_needSecond_4 rfl (lv_at hl 0 rfl) ?_
    refine lv_ldcw (v := (100000 : Int32)) hx hb hown (hts _ k_258) d_X_needSecond_5 ?_
    refine lv_icmp_le (tgt := 22) hx hb d_X_needSecond_8 (by decide) (fun c_2 => ?_) (fun c_2 => ?_)
    · have hw := hw.1 c_2
      exact rx_v (u := ()) C0 hw hP hD hS (fun q h => by cases h) (by decide) (by decide) d_X_needSecond_22
    · have hw := hw.2 c_2
      exact thSW_v C0 hEx ta_0 sb_17 hw hP0 hD0 hN (fun q h => by cases h) hl.1 (by decide) (by decide) (by decide) (by decide) d_X_needSecond_11 d_X_needSecond_14 d_X_needSecond_15 d_X_needSecond_18 d_X_needSecond_21
theorem d_X_read_0 : decode b_X_read 0 = .ok (.iload_n 1, 1) := by decide +kernel
theorem d_X_read_1 : decode b_X_read 1 = .ok (.ifCond .lt 9, 3) := by decide +kernel
theorem d_X_read_4 : decode b_X_read 4 = .ok (.iload_n 1, 1) := by decide +kernel
theorem d_X_read_5 : decode b_X_read 5 = .ok (.bipush 6, 2) := by decide +kernel
theorem d_X_read_7 : decode b_X_read 7 = .ok (.if_icmp .lt 13, 3) := by decide +kernel
theorem d_X_read_10 : decode b_X_read 10 = .ok (.new 96, 3) := by decide +kernel
theorem d_X_read_13 : decode b_X_read 13 = .ok (.dup, 1) := by decide +kernel
theorem d_X_read_14 : decode b_X_read 14 = .ok (.ldc 200, 2) := by decide +kernel
theorem d_X_read_16 : decode b_X_read 16 = .ok (.invokespecial 100, 3) := by decide +kernel
theorem d_X_read_19 : decode b_X_read 19 = .ok (.athrow, 1) := by decide +kernel
theorem d_X_read_20 : decode b_X_read 20 = .ok (.aload_n 0, 1) := by decide +kernel
theorem d_X_read_21 : decode b_X_read 21 = .ok (.iload_n 2, 1) := by decide +kernel
theorem d_X_read_22 : decode b_X_read 22 = .ok (.invokevirtual 127, 3) := by decide +kernel
theorem d_X_read_25 : decode b_X_read 25 = .ok (.iload_n 3, 1) := by decide +kernel
theorem d_X_read_26 : decode b_X_read 26 = .ok (.invokestatic 202, 3) := by decide +kernel
theorem d_X_read_29 : decode b_X_read 29 = .ok (.sipush 3600, 3) := by decide +kernel
theorem d_X_read_32 : decode b_X_read 32 = .ok (.aload_n 0, 1) := by decide +kernel
theorem d_X_read_33 : decode b_X_read 33 = .ok (.getfield 19, 3) := by decide +kernel
theorem d_X_read_36 : decode b_X_read 36 = .ok (.getfield 138, 3) := by decide +kernel
theorem d_X_read_39 : decode b_X_read 39 = .ok (.iload_n 2, 1) := by decide +kernel
theorem d_X_read_40 : decode b_X_read 40 = .ok (.iaload, 1) := by decide +kernel
theorem d_X_read_41 : decode b_X_read 41 = .ok (.imul, 1) := by decide +kernel
theorem d_X_read_42 : decode b_X_read 42 = .ok (.istore 4, 2) := by decide +kernel
theorem d_X_read_44 : decode b_X_read 44 = .ok (.aload_n 0, 1) := by decide +kernel
theorem d_X_read_45 : decode b_X_read 45 = .ok (.getfield 47, 3) := by decide +kernel
theorem d_X_read_48 : decode b_X_read 48 = .ok (.iload_n 1, 1) := by decide +kernel
theorem d_X_read_49 : decode b_X_read 49 = .ok (.iload_n 2, 1) := by decide +kernel
theorem d_X_read_50 : decode b_X_read 50 = .ok (.invokevirtual 205, 3) := by decide +kernel
theorem d_X_read_53 : decode b_X_read 53 = .ok (.ifCond .eq 5, 3) := by decide +kernel
theorem d_X_read_56 : decode b_X_read 56 = .ok (.iconst 0, 1) := by decide +kernel
theorem d_X_read_57 : decode b_X_read 57 = .ok (.ireturn, 1) := by decide +kernel
theorem d_X_read_58 : decode b_X_read 58 = .ok (.aload_n 0, 1) := by decide +kernel
theorem d_X_read_59 : decode b_X_read 59 = .ok (.getfield 19, 3) := by decide +kernel
theorem d_X_read_62 : decode b_X_read 62 = .ok (.getfield 130, 3) := by decide +kernel
theorem d_X_read_65 : decode b_X_read 65 = .ok (.iload_n 2, 1) := by decide +kernel
theorem d_X_read_66 : decode b_X_read 66 = .ok (.baload, 1) := by decide +kernel
theorem d_X_read_67 : decode b_X_read 67 = .ok (.ifCond .eq 5, 3) := by decide +kernel
theorem d_X_read_70 : decode b_X_read 70 = .ok (.iconst 2, 1) := by decide +kernel
theorem d_X_read_71 : decode b_X_read 71 = .ok (.ireturn, 1) := by decide +kernel
theorem d_X_read_72 : decode b_X_read 72 = .ok (.iload_n 3, 1) := by decide +kernel
theorem d_X_read_73 : decode b_X_read 73 = .ok (.iload 4, 2) := by decide +kernel
theorem d_X_read_75 : decode b_X_read 75 = .ok (.if_icmp .ge 5, 3) := by decide +kernel
theorem d_X_read_78 : decode b_X_read 78 = .ok (.iconst 3, 1) := by decide +kernel
theorem d_X_read_79 : decode b_X_read 79 = .ok (.ireturn, 1) := by decide +kernel
theorem d_X_read_80 : decode b_X_read 80 = .ok (.iload_n 3, 1) := by decide +kernel
theorem d_X_read_81 : decode b_X_read 81 = .ok (.iload 4, 2) := by decide +kernel
theorem d_X_read_83 : decode b_X_read 83 = .ok (.isub, 1) := by decide +kernel
theorem d_X_read_84 : decode b_X_read 84 = .ok (.sipush 900, 3) := by decide +kernel
theorem d_X_read_87 : decode b_X_read 87 = .ok (.if_icmp .le 5, 3) := by decide +kernel
theorem d_X_read_90 : decode b_X_read 90 = .ok (.iconst 4, 1) := by decide +kernel
theorem d_X_read_91 : decode b_X_read 91 = .ok (.ireturn, 1) := by decide +kernel
theorem d_X_read_92 : decode b_X_read 92 = .ok (.aload_n 0, 1) := by decide +kernel
theorem d_X_read_93 : decode b_X_read 93 = .ok (.getfield 47, 3) := by decide +kernel
theorem d_X_read_96 : decode b_X_read 96 = .ok (.iload_n 1, 1) := by decide +kernel
theorem d_X_read_97 : decode b_X_read 97 = .ok (.iload_n 2, 1) := by decide +kernel
theorem d_X_read_98 : decode b_X_read 98 = .ok (.iload_n 3, 1) := by decide +kernel
theorem d_X_read_99 : decode b_X_read 99 = .ok (.invokevirtual 208, 3) := by decide +kernel
theorem d_X_read_102 : decode b_X_read 102 = .ok (.iconst 1, 1) := by decide +kernel
theorem d_X_read_103 : decode b_X_read 103 = .ok (.ireturn, 1) := by decide +kernel
def wp_X_read (post : Int32 → (Nat → Int32) → Prop) (px : String → Prop) (a_1 : Int32) (a_2 : Int32) (a_3 : Int32) (v_tickets_slot : Nat → Int32) (v_tickets_returned : Nat → Int32) (v_tickets_made : Int32) (v_doors_seconds : Nat → Int32) : Prop := ((a_1 < 0 → px "java/lang/IndexOutOfBoundsException") ∧ (¬ (a_1 < 0) → ((a_1 < (6 : Int32) → wp_X_needTicket (fun _ => wp_X_needSecond (fun _ => (vp_in a_2 60 ∧ (∀ x_4 : Int32, x_4 = (3600 : Int32) * (v_tickets_slot a_2.toNatClampNeg) → wp_XD_hasLetIn (fun r_5 _ => ((r_5 = 0 → (vp_in a_2 60 ∧ (((v_tickets_returned a_2.toNatClampNeg) = 0 → ((x_4 ≤ a_3 → (((a_3 - x_4) ≤ (900 : Int32) → wp_XD_letIn (fun f_11 => post (1 : Int32) f_11) a_1 a_2 a_3 v_doors_seconds) ∧ (¬ ((a_3 - x_4) ≤ (900 : Int32)) → post (4 : Int32) v_doors_seconds))) ∧ (¬ (x_4 ≤ a_3) → post (3 : Int32) v_doors_seconds))) ∧ (¬ ((v_tickets_returned a_2.toNatClampNeg) = 0) → post (2 : Int32) v_doors_seconds)))) ∧ (¬ (r_5 = 0) → post (0 : Int32) v_doors_seconds))) a_1 a_2 v_doors_seconds))) (px) a_3) (px) a_2 v_tickets_made) ∧ (¬ (a_1 < (6 : Int32)) → px "java/lang/IndexOutOfBoundsException"))))
set_option maxHeartbeats 4000000 in
set_option maxRecDepth 100000 in
theorem c_X_read (l : Launch) (hl9 : l.stackTraces = false) (dC : Nat → ClassId) (dI : Nat → Nat → Nat) (cI cJ cZ : ClassId) (q_0 q_tickets q_tickets_slot q_tickets_returned q_doors q_doors_seconds q_slots q_requests q_chances q_tariff q_tickets_guests q_tickets_kind q_doors_order q_doors_firstIn q_doors_doubles q_doors_goneOut : Nat) (a_1 : Int32) (a_2 : Int32) (a_3 : Int32) (v_tickets_slot : Nat → Int32) (v_tickets_returned : Nat → Int32) (v_tickets_made : Int32) (v_doors_seconds : Nat → Int32) (v_doors_found : Int32) (post : Int32 → (Nat → Int32) → Prop) (px : String → Prop) (hw : wp_X_read post px a_1 a_2 a_3 v_tickets_slot v_tickets_returned v_tickets_made v_doors_seconds) : Kix l y_X_read b_X_read 5 (some .int) ({ frames := 7, cells := 1, slots := 6, locals := 103 } : Room) dC dI cI cJ cZ [.ref q_0, .int a_1, .int a_2, .int a_3] [(q_0, .inr (0, [.ref q_slots, .ref q_tickets, .ref q_requests, .ref q_chances, .ref q_tariff, .ref q_doors])), (q_tickets, .inr (2, [.ref q_tickets_slot, .ref q_tickets_guests, .ref q_tickets_kind, .ref q_tickets_returned, .int v_tickets_made])), (q_tickets_slot, .inl (cI, 60, .inl v_tickets_slot)), (q_tickets_returned, .inl (cZ, 60, .inl v_tickets_returned)), (q_doors, .inr (6, [.ref q_doors_seconds, .ref q_doors_order, .ref q_doors_firstIn, .ref q_doors_doubles, .int v_doors_found, .ref q_doors_goneOut])), (q_doors_seconds, .inl (cI, 360, .inl v_doors_seconds))] false px post (fun u : (Nat → Int32) => [(q_0, .inr (0, [.ref q_slots, .ref q_tickets, .ref q_requests, .ref q_chances, .ref q_tariff, .ref q_doors])), (q_tickets, .inr (2, [.ref q_tickets_slot, .ref q_tickets_guests, .ref q_tickets_kind, .ref q_tickets_returned, .int v_tickets_made])), (q_tickets_slot, .inl (cI, 60, .inl v_tickets_slot)), (q_tickets_returned, .inl (cZ, 60, .inl v_tickets_returned)), (q_doors, .inr (6, [.ref q_doors_seconds, .ref q_doors_order, .ref q_doors_firstIn, .ref q_doors_doubles, .int v_doors_found, .ref q_doors_goneOut])), (q_doors_seconds, .inl (cI, 360, .inl u))]) := by
  refine mkix hl9 (own := R_X) rfl (by decide) ?_
  intro p e s m args below meth c A fr C0 hEx hfr hAe hnm eav hP hD
  obtain rfl : A = fr := (hfr.trans hAe.symm).symm
  have hN : ∀ q ∈ ([] : List Loc), s.heap.size ≤ q.base := fun q h => by cases h
  have hP0 := hP
  have hD0 := hD
  obtain ⟨-, hx, hb, hml, hr, hown, hts, hlocks, hK, hZ, hA, hNS⟩ := id C0
  subst eav
  have hS : va_S A s.heap s.heap [] := va_S.rf
  have hl := lv_entry ([.ref q_0, .int a_1, .int a_2, .int a_3]) (n := 5) (Nat.le_of_ble_eq_true rfl)
  rw [lg_entry_eq]
  generalize (lg_sl ([.ref q_0, .int a_1, .int a_2, .int a_3]) ++ List.replicate (5 - (lg_sl ([.ref q_0, .int a_1, .int a_2, .int a_3])).length) Slot.unset).toArray = ls at hl ⊢
  have hl : lv_has ls 5 [(0, .ref q_0), (1, .int a_1), (2, .int a_2), (3, .int a_3)] := hl
  unfold wp_X_read at hw
  refine lv_iload_n hx hb d_X_read_0 rfl (lv_at hl 1 rfl) ?_
  refine lv_if_lt (tgt := 10) hx hb d_X_read_1 (by decide) (fun c_1 => ?_) (fun c_1 => ?_)
  · have hw := hw.1 c_1
    exact thS_i C0 hEx ta_2 sb_16 hw hP0 hD0 hN hS.2.2 hl.1 (by decide) (by decide) (by decide) (by decide) d_X_read_10 d_X_read_13 d_X_read_14 d_X_read_16 d_X_read_19
  · have hw := hw.2 c_1
    refine lv_iload_n hx hb d_X_read_4 rfl (lv_at hl 1 rfl) ?_
    refine lv_bipush (v := (6 : Int32)) hx hb d_X_read_5 (by decide) ?_
    refine lv_icmp_lt (tgt := 20) hx hb d_X_read_7 (by decide) (fun c_2 => ?_) (fun c_2 => ?_)
    · have hw := hw.1 c_2
      refine lv_aload_n hx hb d_X_read_20 rfl (lv_at hl 0 rfl) ?_
      refine lv_iload_n hx hb d_X_read_21 rfl (lv_at hl 2 rfl) ?_
      refine jxn_v C0 hP hD hS hN [0, 1] [2, 3, 4, 5] (ru_Vx C0 (As := [.int a_2]) (rest := []) (c_X_needTicket l hl9 dC dI cI cJ cZ q_0 q_tickets q_slots q_requests q_chances q_tariff q_doors q_tickets_slot q_tickets_guests q_tickets_kind q_tickets_returned a_2 v_tickets_made _ _ hw _) k_148 k_149 k_150 k_151 k_86 (n9 := 1) (by decide +kernel) rfl (ci := 0) rfl rfl ⟨Nat.le_of_ble_eq_true rfl, Nat.le_of_ble_eq_true rfl⟩ hP hD hS [0, 1] rfl (by decide) hl.1 rfl (Nat.le_of_ble_eq_true rfl) d_X_read_22 ⟨Nat.le_of_ble_eq_true rfl, Nat.le_of_ble_eq_true rfl⟩) rfl rfl (by decide) (by decide) (fun E ce q9 H locs hw hP hD hS hN hce hcv hcl => ?_) (fun u H locs hw hP hD hS hN => ?_)
      · exact xoi C0 hEx hw (hP.sub [4, 5, 0, 1, 2, 3] rfl) (hD.sub [4, 5, 0, 1, 2, 3] (by decide) rfl) hS hS.2.2 hce hcv hcl (by decide) (by decide)
      · try dsimp only at hw
        have hP : va_P (dC, dI) classes [(q_tickets_slot, .inl (cI, 60, .inl v_tickets_slot)), (q_tickets_returned, .inl (cZ, 60, .inl v_tickets_returned)), (q_doors, .inr (6, [.ref q_doors_seconds, .ref q_doors_order, .ref q_doors_firstIn, .ref q_doors_doubles, .int v_doors_found, .ref q_doors_goneOut])), (q_doors_seconds, .inl (cI, 360, .inl v_doors_seconds)), (q_0, .inr (0, [.ref q_slots, .ref q_tickets, .ref q_requests, .ref q_chances, .ref q_tariff, .ref q_doors])), (q_tickets, .inr (2, [.ref q_tickets_slot, .ref q_tickets_guests, .ref q_tickets_kind, .ref q_tickets_returned, .int v_tickets_made]))] H := hP
        have hD : va_D A [(q_tickets_slot, .inl (cI, 60, .inl v_tickets_slot)), (q_tickets_returned, .inl (cZ, 60, .inl v_tickets_returned)), (q_doors, .inr (6, [.ref q_doors_seconds, .ref q_doors_order, .ref q_doors_firstIn, .ref q_doors_doubles, .int v_doors_found, .ref q_doors_goneOut])), (q_doors_seconds, .inl (cI, 360, .inl v_doors_seconds)), (q_0, .inr (0, [.ref q_slots, .ref q_tickets, .ref q_requests, .ref q_chances, .ref q_tariff, .ref q_doors])), (q_tickets, .inr (2, [.ref q_tickets_slot, .ref q_tickets_guests, .ref q_tickets_kind, .ref q_tickets_returned, .int v_tickets_made]))] := hD
        refine lv_iload_n hx hb d_X_read_25 rfl (lv_at hl 3 rfl) ?_
        refine jxn_v C0 hP hD hS hN [] [0, 1, 2, 3, 4, 5] (ru_Sx C0 (As := [.int a_3]) (rest := []) (c_X_needSecond l hl9 dC dI cI cJ cZ a_3 _ _ hw _) k_259 k_260 k_261 k_86 (n9 := 1) (by decide +kernel) rfl ⟨Nat.le_of_ble_eq_true rfl, Nat.le_of_ble_eq_true rfl⟩ hP hD hS [] rfl (by decide) hl.1 rfl (Nat.le_of_ble_eq_true rfl) d_X_read_26 ⟨Nat.le_of_ble_eq_true rfl, Nat.le_of_ble_eq_true rfl⟩) rfl rfl (by decide) (by decide) (fun E ce q9 H locs hw hP hD hS hN hce hcv hcl => ?_) (fun u H locs hw hP hD hS hN => ?_)
        · exact xoi C0 hEx hw (hP.sub [4, 5, 0, 1, 2, 3] rfl) (hD.sub [4, 5, 0, 1, 2, 3] (by decide) rfl) hS hS.2.2 hce hcv hcl (by decide) (by decide)
        · try dsimp only at hw
          have hP : va_P (dC, dI) classes [(q_tickets_slot, .inl (cI, 60, .inl v_tickets_slot)), (q_tickets_returned, .inl (cZ, 60, .inl v_tickets_returned)), (q_doors, .inr (6, [.ref q_doors_seconds, .ref q_doors_order, .ref q_doors_firstIn, .ref q_doors_doubles, .int v_doors_found, .ref q_doors_goneOut])), (q_doors_seconds, .inl (cI, 360, .inl v_doors_seconds)), (q_0, .inr (0, [.ref q_slots, .ref q_tickets, .ref q_requests, .ref q_chances, .ref q_tariff, .ref q_doors])), (q_tickets, .inr (2, [.ref q_tickets_slot, .ref q_tickets_guests, .ref q_tickets_kind, .ref q_tickets_returned, .int v_tickets_made]))] H := hP
          have hD : va_D A [(q_tickets_slot, .inl (cI, 60, .inl v_tickets_slot)), (q_tickets_returned, .inl (cZ, 60, .inl v_tickets_returned)), (q_doors, .inr (6, [.ref q_doors_seconds, .ref q_doors_order, .ref q_doors_firstIn, .ref q_doors_doubles, .int v_doors_found, .ref q_doors_goneOut])), (q_doors_seconds, .inl (cI, 360, .inl v_doors_seconds)), (q_0, .inr (0, [.ref q_slots, .ref q_tickets, .ref q_requests, .ref q_chances, .ref q_tariff, .ref q_doors])), (q_tickets, .inr (2, [.ref q_tickets_slot, .ref q_tickets_guests, .ref q_tickets_kind, .ref q_tickets_returned, .int v_tickets_made]))] := hD
          refine lv_sipush (v := (3600 : Int32)) hx hb d_X_read_29 (by decide) ?_
          refine lv_aload_n hx hb d_X_read_32 rfl (lv_at hl 0 rfl) ?_
          refine va_get (D := (dC, dI)) (ci := 0) (v := .ref q_tickets) (C := R_X) (T := F_X) (N := 6) hx hb hts i_X hown hK hP 4 rfl rfl 1 (by decide) (hts _ k_27) (fun _ h9 => h9) rfl d_X_read_33 ?_
          refine va_getN (D := (dC, dI)) (ci := 2) (v := .ref q_tickets_slot) (C := R_XT) (T := F_XT) (N := 5) hx hb hts i_XT hown hK hP 5 rfl rfl 0 (by decide) (va_Nw.use rfl (zn hZ z_14)) (fun _ h9 => h9) rfl d_X_read_36 ?_
          refine lv_iload_n hx hb d_X_read_39 rfl (lv_at hl 2 rfl) ?_
          obtain ⟨h_3, hw⟩ := hw
          refine va_iald hx hb hK hP 0 0 rfl rfl h_3 d_X_read_40 ?_
          refine lv_imul hx hb d_X_read_41 ?_
          refine lv_topi (fun x_4 ex_4 => ?_)
          have hw := hw x_4 ex_4
          refine lv_istore (lv' := [(4, .int x_4), (0, .ref q_0), (1, .int a_1), (2, .int a_2), (3, .int a_3)]) hx hb d_X_read_42 hl (by decide) rfl (fun ls hl => ?_)
          refine lv_aload_n hx hb d_X_read_44 rfl (lv_at hl 1 rfl) ?_
          refine va_get (D := (dC, dI)) (ci := 0) (v := .ref q_doors) (C := R_X) (T := F_X) (N := 6) hx hb hts i_X hown hK hP 4 rfl rfl 5 (by decide) (hts _ k_76) (fun _ h9 => h9) rfl d_X_read_45 ?_
          refine lv_iload_n hx hb d_X_read_48 rfl (lv_at hl 2 rfl) ?_
          refine lv_iload_n hx hb d_X_read_49 rfl (lv_at hl 3 rfl) ?_
          refine jn_i C0 hP hD hS [2, 3] [0, 1, 4, 5] (ru_V C0 (As := [.int a_1, .int a_2]) (rest := []) (c_XD_hasLetIn l hl9 dC dI cI cJ cZ q_doors q_doors_seconds q_doors_order q_doors_firstIn q_doors_doubles q_doors_goneOut a_1 a_2 v_doors_seconds v_doors_found _ hw _) k_152 k_262 k_154 k_155 k_62 (n9 := 2) (by decide +kernel) rfl (ci := 6) rfl rfl ⟨Nat.le_of_ble_eq_true rfl, Nat.le_of_ble_eq_true rfl⟩ hP hD hS [2, 3] rfl (by decide) hl.1 rfl (Nat.le_of_ble_eq_true rfl) d_X_read_50 ⟨Nat.le_of_ble_eq_true rfl, Nat.le_of_ble_eq_true rfl⟩) rfl rfl (by decide) (by decide) (fun r_5 u H locs hw hP hD hS => ?_)
          try dsimp only at hw
          have hP : va_P (dC, dI) classes [(q_tickets_slot, .inl (cI, 60, .inl v_tickets_slot)), (q_tickets_returned, .inl (cZ, 60, .inl v_tickets_returned)), (q_0, .inr (0, [.ref q_slots, .ref q_tickets, .ref q_requests, .ref q_chances, .ref q_tariff, .ref q_doors])), (q_tickets, .inr (2, [.ref q_tickets_slot, .ref q_tickets_guests, .ref q_tickets_kind, .ref q_tickets_returned, .int v_tickets_made])), (q_doors, .inr (6, [.ref q_doors_seconds, .ref q_doors_order, .ref q_doors_firstIn, .ref q_doors_doubles, .int v_doors_found, .ref q_doors_goneOut])), (q_doors_seconds, .inl (cI, 360, .inl v_doors_seconds))] H := hP
          have hD : va_D A [(q_tickets_slot, .inl (cI, 60, .inl v_tickets_slot)), (q_tickets_returned, .inl (cZ, 60, .inl v_tickets_returned)), (q_0, .inr (0, [.ref q_slots, .ref q_tickets, .ref q_requests, .ref q_chances, .ref q_tariff, .ref q_doors])), (q_tickets, .inr (2, [.ref q_tickets_slot, .ref q_tickets_guests, .ref q_tickets_kind, .ref q_tickets_returned, .int v_tickets_made])), (q_doors, .inr (6, [.ref q_doors_seconds, .ref q_doors_order, .ref q_doors_firstIn, .ref q_doors_doubles, .int v_doors_found, .ref q_doors_goneOut])), (q_doors_seconds, .inl (cI, 360, .inl v_doors_seconds))] := hD
          refine lv_if_eq (tgt := 58) hx hb d_X_read_53 (by decide) (fun c_6 => ?_) (fun c_6 => ?_)
          · have hw := hw.1 c_6
            refine lv_aload_n hx hb d_X_read_58 rfl (lv_at hl 1 rfl) ?_
            refine va_get (D := (dC, dI)) (ci := 0) (v := .ref q_tickets) (C := R_X) (T := F_X) (N := 6) hx hb hts i_X hown hK hP 2 rfl rfl 1 (by decide) (hts _ k_27) (fun _ h9 => h9) rfl d_X_read_59 ?_
            refine va_getN (D := (dC, dI)) (ci := 2) (v := .ref q_tickets_returned) (C := R_XT) (T := F_XT) (N := 5) hx hb hts i_XT hown hK hP 3 rfl rfl 3 (by decide) (va_Nw.use rfl (zn hZ z_13)) (fun _ h9 => h9) rfl d_X_read_62 ?_
            refine lv_iload_n hx hb d_X_read_65 rfl (lv_at hl 3 rfl) ?_
            obtain ⟨h_7, hw⟩ := hw
            refine va_zald hx hb hK hP 1 2 rfl rfl h_7 d_X_read_66 ?_
            refine lv_if_eq (tgt := 72) hx hb d_X_read_67 (by decide) (fun c_8 => ?_) (fun c_8 => ?_)
            · have hw := hw.1 c_8
              refine lv_iload_n hx hb d_X_read_72 rfl (lv_at hl 4 rfl) ?_
              refine lv_iload hx hb d_X_read_73 (lv_at hl 0 rfl) ?_
              refine lv_icmp_ge (tgt := 80) hx hb d_X_read_75 (by decide) (fun c_9 => ?_) (fun c_9 => ?_)
              · have hw := hw.1 c_9
                refine lv_iload_n hx hb d_X_read_80 rfl (lv_at hl 4 rfl) ?_
                refine lv_iload hx hb d_X_read_81 (lv_at hl 0 rfl) ?_
                refine lv_isub hx hb d_X_read_83 ?_
                refine lv_sipush (v := (900 : Int32)) hx hb d_X_read_84 (by decide) ?_
                refine lv_icmp_le (tgt := 92) hx hb d_X_read_87 (by decide) (fun c_10 => ?_) (fun c_10 => ?_)
                · have hw := hw.1 c_10
                  refine lv_aload_n hx hb d_X_read_92 rfl (lv_at hl 1 rfl) ?_
                  refine va_get (D := (dC, dI)) (ci := 0) (v := .ref q_doors) (C := R_X) (T := F_X) (N := 6) hx hb hts i_X hown hK hP 2 rfl rfl 5 (by decide) (hts _ k_76) (fun _ h9 => h9) rfl d_X_read_93 ?_
                  refine lv_iload_n hx hb d_X_read_96 rfl (lv_at hl 2 rfl) ?_
                  refine lv_iload_n hx hb d_X_read_97 rfl (lv_at hl 3 rfl) ?_
                  refine lv_iload_n hx hb d_X_read_98 rfl (lv_at hl 4 rfl) ?_
                  refine jn_v C0 hP hD hS [4, 5] [0, 1, 2, 3] (ru_V C0 (As := [.int a_1, .int a_2, .int a_3]) (rest := []) (c_XD_letIn l hl9 dC dI cI cJ cZ q_doors q_doors_seconds q_doors_order q_doors_firstIn q_doors_doubles q_doors_goneOut a_1 a_2 a_3 v_doors_seconds v_doors_found _ hw _) k_263 k_264 k_265 k_266 k_62 (n9 := 3) (by decide +kernel) rfl (ci := 6) rfl rfl ⟨Nat.le_of_ble_eq_true rfl, Nat.le_of_ble_eq_true rfl⟩ hP hD hS [4, 5] rfl (by decide) hl.1 rfl (Nat.le_of_ble_eq_true rfl) d_X_read_99 ⟨Nat.le_of_ble_eq_true rfl, Nat.le_of_ble_eq_true rfl⟩) rfl rfl (by decide) (by decide) (fun u H locs hw hP hD hS => ?_)
                  obtain ⟨f_11, rfl⟩ : ∃ z9, z9 = u := ⟨_, rfl⟩
                  try dsimp only at hw
                  have hP : va_P (dC, dI) classes [(q_tickets_slot, .inl (cI, 60, .inl v_tickets_slot)), (q_tickets_returned, .inl (cZ, 60, .inl v_tickets_returned)), (q_0, .inr (0, [.ref q_slots, .ref q_tickets, .ref q_requests, .ref q_chances, .ref q_tariff, .ref q_doors])), (q_tickets, .inr (2, [.ref q_tickets_slot, .ref q_tickets_guests, .ref q_tickets_kind, .ref q_tickets_returned, .int v_tickets_made])), (q_doors, .inr (6, [.ref q_doors_seconds, .ref q_doors_order, .ref q_doors_firstIn, .ref q_doors_doubles, .int v_doors_found, .ref q_doors_goneOut])), (q_doors_seconds, .inl (cI, 360, .inl f_11))] H := hP
                  have hD : va_D A [(q_tickets_slot, .inl (cI, 60, .inl v_tickets_slot)), (q_tickets_returned, .inl (cZ, 60, .inl v_tickets_returned)), (q_0, .inr (0, [.ref q_slots, .ref q_tickets, .ref q_requests, .ref q_chances, .ref q_tariff, .ref q_doors])), (q_tickets, .inr (2, [.ref q_tickets_slot, .ref q_tickets_guests, .ref q_tickets_kind, .ref q_tickets_returned, .int v_tickets_made])), (q_doors, .inr (6, [.ref q_doors_seconds, .ref q_doors_order, .ref q_doors_firstIn, .ref q_doors_doubles, .int v_doors_found, .ref q_doors_goneOut])), (q_doors_seconds, .inl (cI, 360, .inl f_11))] := hD
                  refine lv_iconst (v := (1 : Int32)) hx hb d_X_read_102 (by decide) ?_
                  exact rx_i (u := f_11) C0 hw (hP.sub [2, 3, 0, 1, 4, 5] rfl) (hD.sub [2, 3, 0, 1, 4, 5] (by decide) rfl) hS hS.2.2 (by decide) (by decide) d_X_read_103
                · have hw := hw.2 c_10
                  refine lv_iconst (v := (4 : Int32)) hx hb d_X_read_90 (by decide) ?_
                  exact rx_i (u := v_doors_seconds) C0 hw (hP.sub [2, 3, 0, 1, 4, 5] rfl) (hD.sub [2, 3, 0, 1, 4, 5] (by decide) rfl) hS hS.2.2 (by decide) (by decide) d_X_read_91
              · have hw := hw.2 c_9
                refine lv_iconst (v := (3 : Int32)) hx hb d_X_read_78 (by decide) ?_
                exact rx_i (u := v_doors_seconds) C0 hw (hP.sub [2, 3, 0, 1, 4, 5] rfl) (hD.sub [2, 3, 0, 1, 4, 5] (by decide) rfl) hS hS.2.2 (by decide) (by decide) d_X_read_79
            · have hw := hw.2 c_8
              refine lv_iconst (v := (2 : Int32)) hx hb d_X_read_70 (by decide) ?_
              exact rx_i (u := v_doors_seconds) C0 hw (hP.sub [2, 3, 0, 1, 4, 5] rfl) (hD.sub [2, 3, 0, 1, 4, 5] (by decide) rfl) hS hS.2.2 (by decide) (by decide) d_X_read_71
          · have hw := hw.2 c_6
            refine lv_iconst (v := (0 : Int32)) hx hb d_X_read_56 (by decide) ?_
            exact rx_i (u := v_doors_seconds) C0 hw (hP.sub [2, 3, 0, 1, 4, 5] rfl) (hD.sub [2, 3, 0, 1, 4, 5] (by decide) rfl) hS hS.2.2 (by decide) (by decide) d_X_read_57
    · have hw := hw.2 c_2
      exact thS_i C0 hEx ta_2 sb_16 hw hP0 hD0 hN hS.2.2 hl.1 (by decide) (by decide) (by decide) (by decide) d_X_read_10 d_X_read_13 d_X_read_14 d_X_read_16 d_X_read_19
theorem d_X_join_0 : decode b_X_join 0 = .ok (.aload_n 0, 1) := by decide +kernel
theorem d_X_join_1 : decode b_X_join 1 = .ok (.getfield 47, 3) := by decide +kernel
theorem d_X_join_4 : decode b_X_join 4 = .ok (.invokevirtual 211, 3) := by decide +kernel
theorem d_X_join_7 : decode b_X_join 7 = .ok (.ireturn, 1) := by decide +kernel
def wp_X_join (post : Int32 → ((Nat → Int32) × (Nat → Int32) × (Nat → Int32) × (Int32)) → Prop) (v_doors_seconds : Nat → Int32) (v_doors_order : Nat → Int32) (v_doors_firstIn : Nat → Int32) (v_doors_doubles : Nat → Int32) (v_doors_found : Int32) : Prop := wp_XD_joinAll (fun r_1 u => match u with | (f_2, f_3, f_4, x_5) => post r_1 (f_2, f_3, f_4, x_5)) v_doors_seconds v_doors_order v_doors_firstIn v_doors_doubles v_doors_found
set_option maxHeartbeats 4000000 in
set_option maxRecDepth 100000 in
theorem c_X_join (l : Launch) (hl9 : l.stackTraces = false) (dC : Nat → ClassId) (dI : Nat → Nat → Nat) (cI cJ cZ : ClassId) (q_0 q_doors q_doors_seconds q_doors_order q_doors_firstIn q_doors_doubles q_slots q_tickets q_requests q_chances q_tariff q_doors_goneOut : Nat) (v_doors_seconds : Nat → Int32) (v_doors_order : Nat → Int32) (v_doors_firstIn : Nat → Int32) (v_doors_doubles : Nat → Int32) (v_doors_found : Int32) (post : Int32 → ((Nat → Int32) × (Nat → Int32) × (Nat → Int32) × (Int32)) → Prop) (hw : wp_X_join post v_doors_seconds v_doors_order v_doors_firstIn v_doors_doubles v_doors_found) : Ki l y_X_join b_X_join 1 (some .int) ({ frames := 3, cells := 0, slots := 0, locals := 69 } : Room) dC dI cI cJ cZ [.ref q_0] [(q_0, .inr (0, [.ref q_slots, .ref q_tickets, .ref q_requests, .ref q_chances, .ref q_tariff, .ref q_doors])), (q_doors, .inr (6, [.ref q_doors_seconds, .ref q_doors_order, .ref q_doors_firstIn, .ref q_doors_doubles, .int v_doors_found, .ref q_doors_goneOut])), (q_doors_seconds, .inl (cI, 360, .inl v_doors_seconds)), (q_doors_order, .inl (cI, 6, .inl v_doors_order)), (q_doors_firstIn, .inl (cI, 60, .inl v_doors_firstIn)), (q_doors_doubles, .inl (cI, 300, .inl v_doors_doubles))] post (fun u : (Nat → Int32) × (Nat → Int32) × (Nat → Int32) × (Int32) => [(q_0, .inr (0, [.ref q_slots, .ref q_tickets, .ref q_requests, .ref q_chances, .ref q_tariff, .ref q_doors])), (q_doors, .inr (6, [.ref q_doors_seconds, .ref q_doors_order, .ref q_doors_firstIn, .ref q_doors_doubles, .int u.2.2.2, .ref q_doors_goneOut])), (q_doors_seconds, .inl (cI, 360, .inl v_doors_seconds)), (q_doors_order, .inl (cI, 6, .inl u.1)), (q_doors_firstIn, .inl (cI, 60, .inl u.2.1)), (q_doors_doubles, .inl (cI, 300, .inl u.2.2.1))]) := by
  refine mki hl9 (own := R_X) rfl (by decide) ?_
  intro p e s m args below meth c A C0 hnm eav hP hD
  obtain ⟨-, hx, hb, hml, hr, hown, hts, hlocks, hK, hZ, hA, hNS⟩ := id C0
  subst eav
  have hS : va_S A s.heap s.heap [] := va_S.rf
  have hl := lv_entry ([.ref q_0]) (n := 1) (Nat.le_of_ble_eq_true rfl)
  rw [lg_entry_eq]
  generalize (lg_sl ([.ref q_0]) ++ List.replicate (1 - (lg_sl ([.ref q_0])).length) Slot.unset).toArray = ls at hl ⊢
  have hl : lv_has ls 1 [(0, .ref q_0)] := hl
  unfold wp_X_join at hw
  refine lv_aload_n hx hb d_X_join_0 rfl (lv_at hl 0 rfl) ?_
  refine va_get (D := (dC, dI)) (ci := 0) (v := .ref q_doors) (C := R_X) (T := F_X) (N := 6) hx hb hts i_X hown hK hP 0 rfl rfl 5 (by decide) (hts _ k_76) (fun _ h9 => h9) rfl d_X_join_1 ?_
  refine jn_i C0 hP hD hS [1, 2, 3, 4, 5] [0] (ru_V C0 (As := []) (rest := []) (c_XD_joinAll l hl9 dC dI cI cJ cZ q_doors q_doors_seconds q_doors_order q_doors_firstIn q_doors_doubles q_doors_goneOut v_doors_seconds v_doors_order v_doors_firstIn v_doors_doubles v_doors_found _ hw _) k_276 k_277 k_278 k_279 k_62 (n9 := 0) (by decide +kernel) rfl (ci := 6) rfl rfl ⟨Nat.le_of_ble_eq_true rfl, Nat.le_of_ble_eq_true rfl⟩ hP hD hS [1, 2, 3, 4, 5] rfl (by decide) hl.1 rfl (Nat.le_of_ble_eq_true rfl) d_X_join_4 ⟨Nat.le_of_ble_eq_true rfl, Nat.le_of_ble_eq_true rfl⟩) rfl rfl (by decide) (by decide) (fun r_1 u H locs hw hP hD hS => ?_)
  obtain ⟨f_2, f_3, f_4, x_5⟩ := u
  try dsimp only at hw
  have hP : va_P (dC, dI) classes [(q_0, .inr (0, [.ref q_slots, .ref q_tickets, .ref q_requests, .ref q_chances, .ref q_tariff, .ref q_doors])), (q_doors, .inr (6, [.ref q_doors_seconds, .ref q_doors_order, .ref q_doors_firstIn, .ref q_doors_doubles, .int x_5, .ref q_doors_goneOut])), (q_doors_seconds, .inl (cI, 360, .inl v_doors_seconds)), (q_doors_order, .inl (cI, 6, .inl f_2)), (q_doors_firstIn, .inl (cI, 60, .inl f_3)), (q_doors_doubles, .inl (cI, 300, .inl f_4))] H := hP
  have hD : va_D A [(q_0, .inr (0, [.ref q_slots, .ref q_tickets, .ref q_requests, .ref q_chances, .ref q_tariff, .ref q_doors])), (q_doors, .inr (6, [.ref q_doors_seconds, .ref q_doors_order, .ref q_doors_firstIn, .ref q_doors_doubles, .int x_5, .ref q_doors_goneOut])), (q_doors_seconds, .inl (cI, 360, .inl v_doors_seconds)), (q_doors_order, .inl (cI, 6, .inl f_2)), (q_doors_firstIn, .inl (cI, 60, .inl f_3)), (q_doors_doubles, .inl (cI, 300, .inl f_4))] := hD
  exact rt_i (u := (f_2, f_3, f_4, x_5)) C0 hw hP hD hS (by decide) (by decide) d_X_join_7
theorem d_X_twice_0 : decode b_X_twice 0 = .ok (.iload_n 1, 1) := by decide +kernel
theorem d_X_twice_1 : decode b_X_twice 1 = .ok (.ifCond .lt 14, 3) := by decide +kernel
theorem d_X_twice_4 : decode b_X_twice 4 = .ok (.iload_n 1, 1) := by decide +kernel
theorem d_X_twice_5 : decode b_X_twice 5 = .ok (.aload_n 0, 1) := by decide +kernel
theorem d_X_twice_6 : decode b_X_twice 6 = .ok (.getfield 47, 3) := by decide +kernel
theorem d_X_twice_9 : decode b_X_twice 9 = .ok (.getfield 214, 3) := by decide +kernel
theorem d_X_twice_12 : decode b_X_twice 12 = .ok (.if_icmp .lt 13, 3) := by decide +kernel
theorem d_X_twice_15 : decode b_X_twice 15 = .ok (.new 96, 3) := by decide +kernel
theorem d_X_twice_18 : decode b_X_twice 18 = .ok (.dup, 1) := by decide +kernel
theorem d_X_twice_19 : decode b_X_twice 19 = .ok (.ldc 217, 2) := by decide +kernel
theorem d_X_twice_21 : decode b_X_twice 21 = .ok (.invokespecial 100, 3) := by decide +kernel
theorem d_X_twice_24 : decode b_X_twice 24 = .ok (.athrow, 1) := by decide +kernel
theorem d_X_twice_25 : decode b_X_twice 25 = .ok (.aload_n 0, 1) := by decide +kernel
theorem d_X_twice_26 : decode b_X_twice 26 = .ok (.getfield 47, 3) := by decide +kernel
theorem d_X_twice_29 : decode b_X_twice 29 = .ok (.getfield 219, 3) := by decide +kernel
theorem d_X_twice_32 : decode b_X_twice 32 = .ok (.iload_n 1, 1) := by decide +kernel
theorem d_X_twice_33 : decode b_X_twice 33 = .ok (.iaload, 1) := by decide +kernel
theorem d_X_twice_34 : decode b_X_twice 34 = .ok (.istore_n 3, 1) := by decide +kernel
theorem d_X_twice_35 : decode b_X_twice 35 = .ok (.iload_n 2, 1) := by decide +kernel
theorem d_X_twice_36 : decode b_X_twice 36 = .ok (.tableswitch 48 0 2 #[28, 33, 38], 28) := by decide +kernel
theorem d_X_twice_64 : decode b_X_twice 64 = .ok (.iload_n 3, 1) := by decide +kernel
theorem d_X_twice_65 : decode b_X_twice 65 = .ok (.invokestatic 222, 3) := by decide +kernel
theorem d_X_twice_68 : decode b_X_twice 68 = .ok (.ireturn, 1) := by decide +kernel
theorem d_X_twice_69 : decode b_X_twice 69 = .ok (.iload_n 3, 1) := by decide +kernel
theorem d_X_twice_70 : decode b_X_twice 70 = .ok (.invokestatic 225, 3) := by decide +kernel
theorem d_X_twice_73 : decode b_X_twice 73 = .ok (.ireturn, 1) := by decide +kernel
theorem d_X_twice_74 : decode b_X_twice 74 = .ok (.aload_n 0, 1) := by decide +kernel
theorem d_X_twice_75 : decode b_X_twice 75 = .ok (.getfield 47, 3) := by decide +kernel
theorem d_X_twice_78 : decode b_X_twice 78 = .ok (.getfield 228, 3) := by decide +kernel
theorem d_X_twice_81 : decode b_X_twice 81 = .ok (.iload_n 3, 1) := by decide +kernel
theorem d_X_twice_82 : decode b_X_twice 82 = .ok (.iaload, 1) := by decide +kernel
theorem d_X_twice_83 : decode b_X_twice 83 = .ok (.ireturn, 1) := by decide +kernel
theorem d_X_twice_84 : decode b_X_twice 84 = .ok (.new 96, 3) := by decide +kernel
theorem d_X_twice_87 : decode b_X_twice 87 = .ok (.dup, 1) := by decide +kernel
theorem d_X_twice_88 : decode b_X_twice 88 = .ok (.ldc 231, 2) := by decide +kernel
theorem d_X_twice_90 : decode b_X_twice 90 = .ok (.invokespecial 100, 3) := by decide +kernel
theorem d_X_twice_93 : decode b_X_twice 93 = .ok (.athrow, 1) := by decide +kernel
def wp_X_twice (post : Int32 → Unit → Prop) (px : String → Prop) (a_1 : Int32) (a_2 : Int32) (v_doors_seconds : Nat → Int32) (v_doors_doubles : Nat → Int32) (v_doors_found : Int32) : Prop := ((a_1 < 0 → px "java/lang/IndexOutOfBoundsException") ∧ (¬ (a_1 < 0) → ((a_1 < v_doors_found → (vp_in a_1 300 ∧ (∀ x_4 : Int32, x_4 = v_doors_doubles a_1.toNatClampNeg → ((a_2 < (0 : Int32) → px "java/lang/IndexOutOfBoundsException") ∧ (¬ (a_2 < (0 : Int32)) → (((2 : Int32) < a_2 → px "java/lang/IndexOutOfBoundsException") ∧ (¬ ((2 : Int32) < a_2) → ((a_2 = (0 : Int32) → wp_XD_ticketOf (fun r_8 _ => post r_8 ()) x_4) ∧ (¬ (a_2 = (0 : Int32)) → ((a_2 = (1 : Int32) → wp_XD_readerOf (fun r_10 _ => post r_10 ()) x_4) ∧ (¬ (a_2 = (1 : Int32)) → ((a_2 = (2 : Int32) → (vp_in x_4 360 ∧ post (v_doors_seconds x_4.toNatClampNeg) ())) ∧ (¬ (a_2 = (2 : Int32)) → True))))))))))))) ∧ (¬ (a_1 < v_doors_found) → px "java/lang/IndexOutOfBoundsException"))))
set_option maxHeartbeats 4000000 in
set_option maxRecDepth 100000 in
theorem c_X_twice (l : Launch) (hl9 : l.stackTraces = false) (dC : Nat → ClassId) (dI : Nat → Nat → Nat) (cI cJ cZ : ClassId) (q_0 q_doors q_doors_seconds q_doors_doubles q_slots q_tickets q_requests q_chances q_tariff q_doors_order q_doors_firstIn q_doors_goneOut : Nat) (a_1 : Int32) (a_2 : Int32) (v_doors_seconds : Nat → Int32) (v_doors_doubles : Nat → Int32) (v_doors_found : Int32) (post : Int32 → Unit → Prop) (px : String → Prop) (hw : wp_X_twice post px a_1 a_2 v_doors_seconds v_doors_doubles v_doors_found) : Kix l y_X_twice b_X_twice 4 (some .int) ({ frames := 6, cells := 1, slots := 6, locals := 82 } : Room) dC dI cI cJ cZ [.ref q_0, .int a_1, .int a_2] [(q_0, .inr (0, [.ref q_slots, .ref q_tickets, .ref q_requests, .ref q_chances, .ref q_tariff, .ref q_doors])), (q_doors, .inr (6, [.ref q_doors_seconds, .ref q_doors_order, .ref q_doors_firstIn, .ref q_doors_doubles, .int v_doors_found, .ref q_doors_goneOut])), (q_doors_seconds, .inl (cI, 360, .inl v_doors_seconds)), (q_doors_doubles, .inl (cI, 300, .inl v_doors_doubles))] false px post (fun u : Unit => [(q_0, .inr (0, [.ref q_slots, .ref q_tickets, .ref q_requests, .ref q_chances, .ref q_tariff, .ref q_doors])), (q_doors, .inr (6, [.ref q_doors_seconds, .ref q_doors_order, .ref q_doors_firstIn, .ref q_doors_doubles, .int v_doors_found, .ref q_doors_goneOut])), (q_doors_seconds, .inl (cI, 360, .inl v_doors_seconds)), (q_doors_doubles, .inl (cI, 300, .inl v_doors_doubles))]) := by
  refine mkix hl9 (own := R_X) rfl (by decide) ?_
  intro p e s m args below meth c A fr C0 hEx hfr hAe hnm eav hP hD
  obtain rfl : A = fr := (hfr.trans hAe.symm).symm
  have hN : ∀ q ∈ ([] : List Loc), s.heap.size ≤ q.base := fun q h => by cases h
  have hP0 := hP
  have hD0 := hD
  obtain ⟨-, hx, hb, hml, hr, hown, hts, hlocks, hK, hZ, hA, hNS⟩ := id C0
  subst eav
  have hS : va_S A s.heap s.heap [] := va_S.rf
  have hl := lv_entry ([.ref q_0, .int a_1, .int a_2]) (n := 4) (Nat.le_of_ble_eq_true rfl)
  rw [lg_entry_eq]
  generalize (lg_sl ([.ref q_0, .int a_1, .int a_2]) ++ List.replicate (4 - (lg_sl ([.ref q_0, .int a_1, .int a_2])).length) Slot.unset).toArray = ls at hl ⊢
  have hl : lv_has ls 4 [(0, .ref q_0), (1, .int a_1), (2, .int a_2)] := hl
  unfold wp_X_twice at hw
  refine lv_iload_n hx hb d_X_twice_0 rfl (lv_at hl 1 rfl) ?_
  refine lv_if_lt (tgt := 15) hx hb d_X_twice_1 (by decide) (fun c_1 => ?_) (fun c_1 => ?_)
  · have hw := hw.1 c_1
    exact thS_i C0 hEx ta_2 sb_18 hw hP0 hD0 hN hS.2.2 hl.1 (by decide) (by decide) (by decide) (by decide) d_X_twice_15 d_X_twice_18 d_X_twice_19 d_X_twice_21 d_X_twice_24
  · have hw := hw.2 c_1
    refine lv_iload_n hx hb d_X_twice_4 rfl (lv_at hl 1 rfl) ?_
    refine lv_aload_n hx hb d_X_twice_5 rfl (lv_at hl 0 rfl) ?_
    refine va_get (D := (dC, dI)) (ci := 0) (v := .ref q_doors) (C := R_X) (T := F_X) (N := 6) hx hb hts i_X hown hK hP 0 rfl rfl 5 (by decide) (hts _ k_76) (fun _ h9 => h9) rfl d_X_twice_6 ?_
    refine va_getN (D := (dC, dI)) (ci := 6) (v := .int v_doors_found) (C := R_XD) (T := F_XD) (N := 6) hx hb hts i_XD hown hK hP 1 rfl rfl 4 (by decide) (va_Nw.use rfl (zn hZ z_23)) (fun _ h9 => h9) rfl d_X_twice_9 ?_
    refine lv_icmp_lt (tgt := 25) hx hb d_X_twice_12 (by decide) (fun c_2 => ?_) (fun c_2 => ?_)
    · have hw := hw.1 c_2
      refine lv_aload_n hx hb d_X_twice_25 rfl (lv_at hl 0 rfl) ?_
      refine va_get (D := (dC, dI)) (ci := 0) (v := .ref q_doors) (C := R_X) (T := F_X) (N := 6) hx hb hts i_X hown hK hP 0 rfl rfl 5 (by decide) (hts _ k_76) (fun _ h9 => h9) rfl d_X_twice_26 ?_
      refine va_getN (D := (dC, dI)) (ci := 6) (v := .ref q_doors_doubles) (C := R_XD) (T := F_XD) (N := 6) hx hb hts i_XD hown hK hP 1 rfl rfl 3 (by decide) (va_Nw.use rfl (zn hZ z_24)) (fun _ h9 => h9) rfl d_X_twice_29 ?_
      refine lv_iload_n hx hb d_X_twice_32 rfl (lv_at hl 1 rfl) ?_
      obtain ⟨h_3, hw⟩ := hw
      refine va_iald hx hb hK hP 3 0 rfl rfl h_3 d_X_twice_33 ?_
      refine lv_topi (fun x_4 ex_4 => ?_)
      have hw := hw x_4 ex_4
      refine lv_istore_n (lv' := [(3, .int x_4), (0, .ref q_0), (1, .int a_1), (2, .int a_2)]) hx hb d_X_twice_34 rfl hl (by decide) rfl (fun ls hl => ?_)
      refine lv_iload_n hx hb d_X_twice_35 rfl (lv_at hl 3 rfl) ?_
      by_cases c_5 : a_2 < (0 : Int32)
      · have hw := hw.1 c_5
        refine lv_tableOut (tgt := 84) hx hb d_X_twice_36 (Or.inl (by have q := Int32.lt_iff_toInt_lt.mp c_5; rw [show (0 : Int32).toInt = 0 by decide] at q; exact q)) (by decide) ?_
        exact thS_i C0 hEx ta_2 sb_19 hw hP0 hD0 hN hS.2.2 hl.1 (by decide) (by decide) (by decide) (by decide) d_X_twice_84 d_X_twice_87 d_X_twice_88 d_X_twice_90 d_X_twice_93
      have hw := hw.2 c_5
      by_cases c_6 : (2 : Int32) < a_2
      · have hw := hw.1 c_6
        refine lv_tableOut (tgt := 84) hx hb d_X_twice_36 (Or.inr (by have q := Int32.lt_iff_toInt_lt.mp c_6; rw [show (2 : Int32).toInt = 2 by decide] at q; exact q)) (by decide) ?_
        exact thS_i C0 hEx ta_2 sb_19 hw hP0 hD0 hN hS.2.2 hl.1 (by decide) (by decide) (by decide) (by decide) d_X_twice_84 d_X_twice_87 d_X_twice_88 d_X_twice_90 d_X_twice_93
      have hw := hw.2 c_6
      by_cases c_7 : a_2 = (0 : Int32)
      · have hw := hw.1 c_7
        refine lv_tableIn (off := 28) (tgt := 64) hx hb d_X_twice_36 (by rw [c_7]; decide) (by rw [c_7]; decide) (by rw [c_7]; decide) (by decide) ?_
        refine lv_iload_n hx hb d_X_twice_64 rfl (lv_at hl 0 rfl) ?_
        refine jn_i C0 hP hD hS [] [0, 1, 2, 3] (ru_SO C0 (As := [.int x_4]) (rest := []) (c_XD_ticketOf l hl9 dC dI cI cJ cZ x_4 _ hw _) k_280 k_281 k_282 k_62 (n9 := 1) (by decide +kernel) rfl ⟨Nat.le_of_ble_eq_true rfl, Nat.le_of_ble_eq_true rfl⟩ hP hD hS [] rfl (by decide) hl.1 rfl (Nat.le_of_ble_eq_true rfl) d_X_twice_65 ⟨Nat.le_of_ble_eq_true rfl, Nat.le_of_ble_eq_true rfl⟩) rfl rfl (by decide) (by decide) (fun r_8 u H locs hw hP hD hS => ?_)
        try dsimp only at hw
        have hP : va_P (dC, dI) classes [(q_0, .inr (0, [.ref q_slots, .ref q_tickets, .ref q_requests, .ref q_chances, .ref q_tariff, .ref q_doors])), (q_doors, .inr (6, [.ref q_doors_seconds, .ref q_doors_order, .ref q_doors_firstIn, .ref q_doors_doubles, .int v_doors_found, .ref q_doors_goneOut])), (q_doors_seconds, .inl (cI, 360, .inl v_doors_seconds)), (q_doors_doubles, .inl (cI, 300, .inl v_doors_doubles))] H := hP
        have hD : va_D A [(q_0, .inr (0, [.ref q_slots, .ref q_tickets, .ref q_requests, .ref q_chances, .ref q_tariff, .ref q_doors])), (q_doors, .inr (6, [.ref q_doors_seconds, .ref q_doors_order, .ref q_doors_firstIn, .ref q_doors_doubles, .int v_doors_found, .ref q_doors_goneOut])), (q_doors_seconds, .inl (cI, 360, .inl v_doors_seconds)), (q_doors_doubles, .inl (cI, 300, .inl v_doors_doubles))] := hD
        exact rx_i (u := ()) C0 hw hP hD hS hS.2.2 (by decide) (by decide) d_X_twice_68
      have hw := hw.2 c_7
      by_cases c_9 : a_2 = (1 : Int32)
      · have hw := hw.1 c_9
        refine lv_tableIn (off := 33) (tgt := 69) hx hb d_X_twice_36 (by rw [c_9]; decide) (by rw [c_9]; decide) (by rw [c_9]; decide) (by decide) ?_
        refine lv_iload_n hx hb d_X_twice_69 rfl (lv_at hl 0 rfl) ?_
        refine jn_i C0 hP hD hS [] [0, 1, 2, 3] (ru_SO C0 (As := [.int x_4]) (rest := []) (c_XD_readerOf l hl9 dC dI cI cJ cZ x_4 _ hw _) k_283 k_284 k_285 k_62 (n9 := 1) (by decide +kernel) rfl ⟨Nat.le_of_ble_eq_true rfl, Nat.le_of_ble_eq_true rfl⟩ hP hD hS [] rfl (by decide) hl.1 rfl (Nat.le_of_ble_eq_true rfl) d_X_twice_70 ⟨Nat.le_of_ble_eq_true rfl, Nat.le_of_ble_eq_true rfl⟩) rfl rfl (by decide) (by decide) (fun r_10 u H locs hw hP hD hS => ?_)
        try dsimp only at hw
        have hP : va_P (dC, dI) classes [(q_0, .inr (0, [.ref q_slots, .ref q_tickets, .ref q_requests, .ref q_chances, .ref q_tariff, .ref q_doors])), (q_doors, .inr (6, [.ref q_doors_seconds, .ref q_doors_order, .ref q_doors_firstIn, .ref q_doors_doubles, .int v_doors_found, .ref q_doors_goneOut])), (q_doors_seconds, .inl (cI, 360, .inl v_doors_seconds)), (q_doors_doubles, .inl (cI, 300, .inl v_doors_doubles))] H := hP
        have hD : va_D A [(q_0, .inr (0, [.ref q_slots, .ref q_tickets, .ref q_requests, .ref q_chances, .ref q_tariff, .ref q_doors])), (q_doors, .inr (6, [.ref q_doors_seconds, .ref q_doors_order, .ref q_doors_firstIn, .ref q_doors_doubles, .int v_doors_found, .ref q_doors_goneOut])), (q_doors_seconds, .inl (cI, 360, .inl v_doors_seconds)), (q_doors_doubles, .inl (cI, 300, .inl v_doors_doubles))] := hD
        exact rx_i (u := ()) C0 hw hP hD hS hS.2.2 (by decide) (by decide) d_X_twice_73
      have hw := hw.2 c_9
      by_cases c_11 : a_2 = (2 : Int32)
      · have hw := hw.1 c_11
        refine lv_tableIn (off := 38) (tgt := 74) hx hb d_X_twice_36 (by rw [c_11]; decide) (by rw [c_11]; decide) (by rw [c_11]; decide) (by decide) ?_
        refine lv_aload_n hx hb d_X_twice_74 rfl (lv_at hl 1 rfl) ?_
        refine va_get (D := (dC, dI)) (ci := 0) (v := .ref q_doors) (C := R_X) (T := F_X) (N := 6) hx hb hts i_X hown hK hP 0 rfl rfl 5 (by decide) (hts _ k_76) (fun _ h9 => h9) rfl d_X_twice_75 ?_
        refine va_getN (D := (dC, dI)) (ci := 6) (v := .ref q_doors_seconds) (C := R_XD) (T := F_XD) (N := 6) hx hb hts i_XD hown hK hP 1 rfl rfl 0 (by decide) (va_Nw.use rfl (zn hZ z_25)) (fun _ h9 => h9) rfl d_X_twice_78 ?_
        refine lv_iload_n hx hb d_X_twice_81 rfl (lv_at hl 0 rfl) ?_
        obtain ⟨h_12, hw⟩ := hw
        refine va_iald hx hb hK hP 2 0 rfl rfl h_12 d_X_twice_82 ?_
        exact rx_i (u := ()) C0 hw hP hD hS hS.2.2 (by decide) (by decide) d_X_twice_83
      have hw := hw.2 c_11
      exfalso
      have q1 : ¬ a_2.toInt < 0 := fun q => c_5 (Int32.lt_iff_toInt_lt.mpr (by rw [show (0 : Int32).toInt = 0 by decide]; exact q))
      have q2 : ¬ 2 < a_2.toInt := fun q => c_6 (Int32.lt_iff_toInt_lt.mpr (by rw [show (2 : Int32).toInt = 2 by decide]; exact q))
      have qc_7 := lv_neT c_7 (show (0 : Int32).toInt = 0 by decide)
      have qc_9 := lv_neT c_9 (show (1 : Int32).toInt = 1 by decide)
      have qc_11 := lv_neT c_11 (show (2 : Int32).toInt = 2 by decide)
      omega
    · have hw := hw.2 c_2
      exact thS_i C0 hEx ta_2 sb_18 hw hP0 hD0 hN hS.2.2 hl.1 (by decide) (by decide) (by decide) (by decide) d_X_twice_15 d_X_twice_18 d_X_twice_19 d_X_twice_21 d_X_twice_24
theorem d_X_leaves_0 : decode b_X_leaves 0 = .ok (.aload_n 0, 1) := by decide +kernel
theorem d_X_leaves_1 : decode b_X_leaves 1 = .ok (.iload_n 1, 1) := by decide +kernel
theorem d_X_leaves_2 : decode b_X_leaves 2 = .ok (.invokevirtual 127, 3) := by decide +kernel
theorem d_X_leaves_5 : decode b_X_leaves 5 = .ok (.iload_n 2, 1) := by decide +kernel
theorem d_X_leaves_6 : decode b_X_leaves 6 = .ok (.invokestatic 202, 3) := by decide +kernel
theorem d_X_leaves_9 : decode b_X_leaves 9 = .ok (.aload_n 0, 1) := by decide +kernel
theorem d_X_leaves_10 : decode b_X_leaves 10 = .ok (.getfield 47, 3) := by decide +kernel
theorem d_X_leaves_13 : decode b_X_leaves 13 = .ok (.iload_n 1, 1) := by decide +kernel
theorem d_X_leaves_14 : decode b_X_leaves 14 = .ok (.iload_n 2, 1) := by decide +kernel
theorem d_X_leaves_15 : decode b_X_leaves 15 = .ok (.invokevirtual 233, 3) := by decide +kernel
theorem d_X_leaves_18 : decode b_X_leaves 18 = .ok (.ireturn, 1) := by decide +kernel
def wp_X_leaves (post : Int32 → (Nat → Int32) → Prop) (px : String → Prop) (a_1 : Int32) (a_2 : Int32) (v_tickets_made : Int32) (v_doors_firstIn : Nat → Int32) (v_doors_goneOut : Nat → Int32) : Prop := wp_X_needTicket (fun _ => wp_X_needSecond (fun _ => wp_XD_letOut (fun r_1 f_2 => ((r_1 = 0 ∨ r_1 = 1) ∧ post r_1 f_2)) a_1 a_2 v_doors_firstIn v_doors_goneOut) (px) a_2) (px) a_1 v_tickets_made
set_option maxHeartbeats 4000000 in
set_option maxRecDepth 100000 in
theorem c_X_leaves (l : Launch) (hl9 : l.stackTraces = false) (dC : Nat → ClassId) (dI : Nat → Nat → Nat) (cI cJ cZ : ClassId) (q_0 q_tickets q_doors q_doors_firstIn q_doors_goneOut q_slots q_requests q_chances q_tariff q_tickets_slot q_tickets_guests q_tickets_kind q_tickets_returned q_doors_seconds q_doors_order q_doors_doubles : Nat) (a_1 : Int32) (a_2 : Int32) (v_tickets_made : Int32) (v_doors_firstIn : Nat → Int32) (v_doors_found : Int32) (v_doors_goneOut : Nat → Int32) (post : Int32 → (Nat → Int32) → Prop) (px : String → Prop) (hw : wp_X_leaves post px a_1 a_2 v_tickets_made v_doors_firstIn v_doors_goneOut) : Kix l y_X_leaves b_X_leaves 3 (some .boolean) ({ frames := 7, cells := 1, slots := 6, locals := 103 } : Room) dC dI cI cJ cZ [.ref q_0, .int a_1, .int a_2] [(q_0, .inr (0, [.ref q_slots, .ref q_tickets, .ref q_requests, .ref q_chances, .ref q_tariff, .ref q_doors])), (q_tickets, .inr (2, [.ref q_tickets_slot, .ref q_tickets_guests, .ref q_tickets_kind, .ref q_tickets_returned, .int v_tickets_made])), (q_doors, .inr (6, [.ref q_doors_seconds, .ref q_doors_order, .ref q_doors_firstIn, .ref q_doors_doubles, .int v_doors_found, .ref q_doors_goneOut])), (q_doors_firstIn, .inl (cI, 60, .inl v_doors_firstIn)), (q_doors_goneOut, .inl (cI, 60, .inl v_doors_goneOut))] false px post (fun u : (Nat → Int32) => [(q_0, .inr (0, [.ref q_slots, .ref q_tickets, .ref q_requests, .ref q_chances, .ref q_tariff, .ref q_doors])), (q_tickets, .inr (2, [.ref q_tickets_slot, .ref q_tickets_guests, .ref q_tickets_kind, .ref q_tickets_returned, .int v_tickets_made])), (q_doors, .inr (6, [.ref q_doors_seconds, .ref q_doors_order, .ref q_doors_firstIn, .ref q_doors_doubles, .int v_doors_found, .ref q_doors_goneOut])), (q_doors_firstIn, .inl (cI, 60, .inl v_doors_firstIn)), (q_doors_goneOut, .inl (cI, 60, .inl u))]) := by
  refine mkix hl9 (own := R_X) rfl (by decide) ?_
  intro p e s m args below meth c A fr C0 hEx hfr hAe hnm eav hP hD
  obtain rfl : A = fr := (hfr.trans hAe.symm).symm
  have hN : ∀ q ∈ ([] : List Loc), s.heap.size ≤ q.base := fun q h => by cases h
  have hP0 := hP
  have hD0 := hD
  obtain ⟨-, hx, hb, hml, hr, hown, hts, hlocks, hK, hZ, hA, hNS⟩ := id C0
  subst eav
  have hS : va_S A s.heap s.heap [] := va_S.rf
  have hl := lv_entry ([.ref q_0, .int a_1, .int a_2]) (n := 3) (Nat.le_of_ble_eq_true rfl)
  rw [lg_entry_eq]
  generalize (lg_sl ([.ref q_0, .int a_1, .int a_2]) ++ List.replicate (3 - (lg_sl ([.ref q_0, .int a_1, .int a_2])).length) Slot.unset).toArray = ls at hl ⊢
  have hl : lv_has ls 3 [(0, .ref q_0), (1, .int a_1), (2, .int a_2)] := hl
  unfold wp_X_leaves at hw
  refine lv_aload_n hx hb d_X_leaves_0 rfl (lv_at hl 0 rfl) ?_
  refine lv_iload_n hx hb d_X_leaves_1 rfl (lv_at hl 1 rfl) ?_
  refine jxn_v C0 hP hD hS hN [0, 1] [2, 3, 4] (ru_Vx C0 (As := [.int a_1]) (rest := []) (c_X_needTicket l hl9 dC dI cI cJ cZ q_0 q_tickets q_slots q_requests q_chances q_tariff q_doors q_tickets_slot q_tickets_guests q_tickets_kind q_tickets_returned a_1 v_tickets_made _ _ hw _) k_148 k_149 k_150 k_151 k_86 (n9 := 1) (by decide +kernel) rfl (ci := 0) rfl rfl ⟨Nat.le_of_ble_eq_true rfl, Nat.le_of_ble_eq_true rfl⟩ hP hD hS [0, 1] rfl (by decide) hl.1 rfl (Nat.le_of_ble_eq_true rfl) d_X_leaves_2 ⟨Nat.le_of_ble_eq_true rfl, Nat.le_of_ble_eq_true rfl⟩) rfl rfl (by decide) (by decide) (fun E ce q9 H locs hw hP hD hS hN hce hcv hcl => ?_) (fun u H locs hw hP hD hS hN => ?_)
  · exact xoi C0 hEx hw (hP.sub [3, 4, 0, 1, 2] rfl) (hD.sub [3, 4, 0, 1, 2] (by decide) rfl) hS hS.2.2 hce hcv hcl (by decide) (by decide)
  · try dsimp only at hw
    have hP : va_P (dC, dI) classes [(q_doors, .inr (6, [.ref q_doors_seconds, .ref q_doors_order, .ref q_doors_firstIn, .ref q_doors_doubles, .int v_doors_found, .ref q_doors_goneOut])), (q_doors_firstIn, .inl (cI, 60, .inl v_doors_firstIn)), (q_doors_goneOut, .inl (cI, 60, .inl v_doors_goneOut)), (q_0, .inr (0, [.ref q_slots, .ref q_tickets, .ref q_requests, .ref q_chances, .ref q_tariff, .ref q_doors])), (q_tickets, .inr (2, [.ref q_tickets_slot, .ref q_tickets_guests, .ref q_tickets_kind, .ref q_tickets_returned, .int v_tickets_made]))] H := hP
    have hD : va_D A [(q_doors, .inr (6, [.ref q_doors_seconds, .ref q_doors_order, .ref q_doors_firstIn, .ref q_doors_doubles, .int v_doors_found, .ref q_doors_goneOut])), (q_doors_firstIn, .inl (cI, 60, .inl v_doors_firstIn)), (q_doors_goneOut, .inl (cI, 60, .inl v_doors_goneOut)), (q_0, .inr (0, [.ref q_slots, .ref q_tickets, .ref q_requests, .ref q_chances, .ref q_tariff, .ref q_doors])), (q_tickets, .inr (2, [.ref q_tickets_slot, .ref q_tickets_guests, .ref q_tickets_kind, .ref q_tickets_returned, .int v_tickets_made]))] := hD
    refine lv_iload_n hx hb d_X_leaves_5 rfl (lv_at hl 2 rfl) ?_
    refine jxn_v C0 hP hD hS hN [] [0, 1, 2, 3, 4] (ru_Sx C0 (As := [.int a_2]) (rest := []) (c_X_needSecond l hl9 dC dI cI cJ cZ a_2 _ _ hw _) k_259 k_260 k_261 k_86 (n9 := 1) (by decide +kernel) rfl ⟨Nat.le_of_ble_eq_true rfl, Nat.le_of_ble_eq_true rfl⟩ hP hD hS [] rfl (by decide) hl.1 rfl (Nat.le_of_ble_eq_true rfl) d_X_leaves_6 ⟨Nat.le_of_ble_eq_true rfl, Nat.le_of_ble_eq_true rfl⟩) rfl rfl (by decide) (by decide) (fun E ce q9 H locs hw hP hD hS hN hce hcv hcl => ?_) (fun u H locs hw hP hD hS hN => ?_)
    · exact xoi C0 hEx hw (hP.sub [3, 4, 0, 1, 2] rfl) (hD.sub [3, 4, 0, 1, 2] (by decide) rfl) hS hS.2.2 hce hcv hcl (by decide) (by decide)
    · try dsimp only at hw
      have hP : va_P (dC, dI) classes [(q_doors, .inr (6, [.ref q_doors_seconds, .ref q_doors_order, .ref q_doors_firstIn, .ref q_doors_doubles, .int v_doors_found, .ref q_doors_goneOut])), (q_doors_firstIn, .inl (cI, 60, .inl v_doors_firstIn)), (q_doors_goneOut, .inl (cI, 60, .inl v_doors_goneOut)), (q_0, .inr (0, [.ref q_slots, .ref q_tickets, .ref q_requests, .ref q_chances, .ref q_tariff, .ref q_doors])), (q_tickets, .inr (2, [.ref q_tickets_slot, .ref q_tickets_guests, .ref q_tickets_kind, .ref q_tickets_returned, .int v_tickets_made]))] H := hP
      have hD : va_D A [(q_doors, .inr (6, [.ref q_doors_seconds, .ref q_doors_order, .ref q_doors_firstIn, .ref q_doors_doubles, .int v_doors_found, .ref q_doors_goneOut])), (q_doors_firstIn, .inl (cI, 60, .inl v_doors_firstIn)), (q_doors_goneOut, .inl (cI, 60, .inl v_doors_goneOut)), (q_0, .inr (0, [.ref q_slots, .ref q_tickets, .ref q_requests, .ref q_chances, .ref q_tariff, .ref q_doors])), (q_tickets, .inr (2, [.ref q_tickets_slot, .ref q_tickets_guests, .ref q_tickets_kind, .ref q_tickets_returned, .int v_tickets_made]))] := hD
      refine lv_aload_n hx hb d_X_leaves_9 rfl (lv_at hl 0 rfl) ?_
      refine va_get (D := (dC, dI)) (ci := 0) (v := .ref q_doors) (C := R_X) (T := F_X) (N := 6) hx hb hts i_X hown hK hP 3 rfl rfl 5 (by decide) (hts _ k_76) (fun _ h9 => h9) rfl d_X_leaves_10 ?_
      refine lv_iload_n hx hb d_X_leaves_13 rfl (lv_at hl 1 rfl) ?_
      refine lv_iload_n hx hb d_X_leaves_14 rfl (lv_at hl 2 rfl) ?_
      refine jn_i C0 hP hD hS [0, 1, 2] [3, 4] (ru_V C0 (As := [.int a_1, .int a_2]) (rest := []) (c_XD_letOut l hl9 dC dI cI cJ cZ q_doors q_doors_firstIn q_doors_goneOut q_doors_seconds q_doors_order q_doors_doubles a_1 a_2 v_doors_firstIn v_doors_found v_doors_goneOut _ hw _) k_290 k_291 k_292 k_293 k_62 (n9 := 2) (by decide +kernel) rfl (ci := 6) rfl rfl ⟨Nat.le_of_ble_eq_true rfl, Nat.le_of_ble_eq_true rfl⟩ hP hD hS [0, 1, 2] rfl (by decide) hl.1 rfl (Nat.le_of_ble_eq_true rfl) d_X_leaves_15 ⟨Nat.le_of_ble_eq_true rfl, Nat.le_of_ble_eq_true rfl⟩) rfl rfl (by decide) (by decide) (fun r_1 u H locs hw hP hD hS => ?_)
      obtain ⟨f_2, rfl⟩ : ∃ z9, z9 = u := ⟨_, rfl⟩
      try dsimp only at hw
      have hP : va_P (dC, dI) classes [(q_0, .inr (0, [.ref q_slots, .ref q_tickets, .ref q_requests, .ref q_chances, .ref q_tariff, .ref q_doors])), (q_tickets, .inr (2, [.ref q_tickets_slot, .ref q_tickets_guests, .ref q_tickets_kind, .ref q_tickets_returned, .int v_tickets_made])), (q_doors, .inr (6, [.ref q_doors_seconds, .ref q_doors_order, .ref q_doors_firstIn, .ref q_doors_doubles, .int v_doors_found, .ref q_doors_goneOut])), (q_doors_firstIn, .inl (cI, 60, .inl v_doors_firstIn)), (q_doors_goneOut, .inl (cI, 60, .inl f_2))] H := hP
      have hD : va_D A [(q_0, .inr (0, [.ref q_slots, .ref q_tickets, .ref q_requests, .ref q_chances, .ref q_tariff, .ref q_doors])), (q_tickets, .inr (2, [.ref q_tickets_slot, .ref q_tickets_guests, .ref q_tickets_kind, .ref q_tickets_returned, .int v_tickets_made])), (q_doors, .inr (6, [.ref q_doors_seconds, .ref q_doors_order, .ref q_doors_firstIn, .ref q_doors_doubles, .int v_doors_found, .ref q_doors_goneOut])), (q_doors_firstIn, .inl (cI, 60, .inl v_doors_firstIn)), (q_doors_goneOut, .inl (cI, 60, .inl f_2))] := hD
      obtain ⟨h_3, hw⟩ := hw
      exact rx_z (u := f_2) C0 (nar_z h_3) hw hP hD hS hS.2.2 (by decide) (by decide) d_X_leaves_18
theorem d_X_inside_0 : decode b_X_inside 0 = .ok (.iload_n 1, 1) := by decide +kernel
theorem d_X_inside_1 : decode b_X_inside 1 = .ok (.invokestatic 202, 3) := by decide +kernel
theorem d_X_inside_4 : decode b_X_inside 4 = .ok (.iconst 0, 1) := by decide +kernel
theorem d_X_inside_5 : decode b_X_inside 5 = .ok (.istore_n 2, 1) := by decide +kernel
theorem d_X_inside_6 : decode b_X_inside 6 = .ok (.iconst 0, 1) := by decide +kernel
theorem d_X_inside_7 : decode b_X_inside 7 = .ok (.istore_n 3, 1) := by decide +kernel
theorem d_X_inside_8 : decode b_X_inside 8 = .ok (.iload_n 3, 1) := by decide +kernel
theorem d_X_inside_9 : decode b_X_inside 9 = .ok (.aload_n 0, 1) := by decide +kernel
theorem d_X_inside_10 : decode b_X_inside 10 = .ok (.getfield 19, 3) := by decide +kernel
theorem d_X_inside_13 : decode b_X_inside 13 = .ok (.getfield 113, 3) := by decide +kernel
theorem d_X_inside_16 : decode b_X_inside 16 = .ok (.if_icmp .ge 33, 3) := by decide +kernel
theorem d_X_inside_19 : decode b_X_inside 19 = .ok (.aload_n 0, 1) := by decide +kernel
theorem d_X_inside_20 : decode b_X_inside 20 = .ok (.getfield 47, 3) := by decide +kernel
theorem d_X_inside_23 : decode b_X_inside 23 = .ok (.iload_n 3, 1) := by decide +kernel
theorem d_X_inside_24 : decode b_X_inside 24 = .ok (.iload_n 1, 1) := by decide +kernel
theorem d_X_inside_25 : decode b_X_inside 25 = .ok (.invokevirtual 236, 3) := by decide +kernel
theorem d_X_inside_28 : decode b_X_inside 28 = .ok (.ifCond .eq 15, 3) := by decide +kernel
theorem d_X_inside_31 : decode b_X_inside 31 = .ok (.iload_n 2, 1) := by decide +kernel
theorem d_X_inside_32 : decode b_X_inside 32 = .ok (.aload_n 0, 1) := by decide +kernel
theorem d_X_inside_33 : decode b_X_inside 33 = .ok (.getfield 19, 3) := by decide +kernel
theorem d_X_inside_36 : decode b_X_inside 36 = .ok (.getfield 144, 3) := by decide +kernel
theorem d_X_inside_39 : decode b_X_inside 39 = .ok (.iload_n 3, 1) := by decide +kernel
theorem d_X_inside_40 : decode b_X_inside 40 = .ok (.iaload, 1) := by decide +kernel
theorem d_X_inside_41 : decode b_X_inside 41 = .ok (.iadd, 1) := by decide +kernel
theorem d_X_inside_42 : decode b_X_inside 42 = .ok (.istore_n 2, 1) := by decide +kernel
theorem d_X_inside_43 : decode b_X_inside 43 = .ok (.iinc 3 1, 3) := by decide +kernel
theorem d_X_inside_46 : decode b_X_inside 46 = .ok (.goto (-38), 3) := by decide +kernel
theorem d_X_inside_49 : decode b_X_inside 49 = .ok (.iload_n 2, 1) := by decide +kernel
theorem d_X_inside_50 : decode b_X_inside 50 = .ok (.ireturn, 1) := by decide +kernel
def gl_X_inside_8 (p : Program) (l : Launch) (e : Env) (s : State) (m : MethodId) (args : Array Value) (below : List Frame) (meth : Method) (c : Code) (R : Room) (A : Nat → Prop) (Q : State → Prop) (dC : Nat → ClassId) (dI : Nat → Nat → Nat) (cI cJ cZ : ClassId) (q_0 q_tickets q_tickets_guests q_doors q_doors_firstIn q_doors_goneOut q_slots q_requests q_chances q_tariff q_tickets_slot q_tickets_kind q_tickets_returned q_doors_seconds q_doors_order q_doors_doubles : Nat) (v_tickets_guests : Nat → Int32) (v_tickets_made : Int32) (v_doors_firstIn : Nat → Int32) (v_doors_found : Int32) (v_doors_goneOut : Nat → Int32) (l_1 : Int32) (l_2 : Int32) (l_3 : Int32) : Prop :=
  ∀ (H : Heap) (locs : List Loc), va_P (dC, dI) classes [(q_0, .inr (0, [.ref q_slots, .ref q_tickets, .ref q_requests, .ref q_chances, .ref q_tariff, .ref q_doors])), (q_tickets, .inr (2, [.ref q_tickets_slot, .ref q_tickets_guests, .ref q_tickets_kind, .ref q_tickets_returned, .int v_tickets_made])), (q_tickets_guests, .inl (cI, 60, .inl v_tickets_guests)), (q_doors, .inr (6, [.ref q_doors_seconds, .ref q_doors_order, .ref q_doors_firstIn, .ref q_doors_doubles, .int v_doors_found, .ref q_doors_goneOut])), (q_doors_firstIn, .inl (cI, 60, .inl v_doors_firstIn)), (q_doors_goneOut, .inl (cI, 60, .inl v_doors_goneOut))] H → va_D A [(q_0, .inr (0, [.ref q_slots, .ref q_tickets, .ref q_requests, .ref q_chances, .ref q_tariff, .ref q_doors])), (q_tickets, .inr (2, [.ref q_tickets_slot, .ref q_tickets_guests, .ref q_tickets_kind, .ref q_tickets_returned, .int v_tickets_made])), (q_tickets_guests, .inl (cI, 60, .inl v_tickets_guests)), (q_doors, .inr (6, [.ref q_doors_seconds, .ref q_doors_order, .ref q_doors_firstIn, .ref q_doors_doubles, .int v_doors_found, .ref q_doors_goneOut])), (q_doors_firstIn, .inl (cI, 60, .inl v_doors_firstIn)), (q_doors_goneOut, .inl (cI, 60, .inl v_doors_goneOut))] → va_S A s.heap H locs → ∀ ls : Array Slot, lv_has ls 4 [(0, .ref q_0), (1, .int l_1), (2, .int l_2), (3, .int l_3)] → W p l e R s m args below meth c H locs 0 0 Q (F0 m 8 ls [])
def wp_X_inside_8 (post : Int32 → Unit → Prop) (px : String → Prop) (v_tickets_guests : Nat → Int32) (v_tickets_made : Int32) (v_doors_firstIn : Nat → Int32) (v_doors_goneOut : Nat → Int32) : Nat → Int32 → Int32 → Int32 → Prop
  | 0 => fun _ _ _ => False
  | n_8 + 1 => fun l_1 l_2 l_3 => ((v_tickets_made ≤ l_3 → post l_2 ()) ∧ (¬ (v_tickets_made ≤ l_3) → wp_XD_holds (fun r_2 _ => ((r_2 = 0 → (∀ x_4 : Int32, x_4 = l_3 + (1 : Int32) → (wp_X_inside_8 post px v_tickets_guests v_tickets_made v_doors_firstIn v_doors_goneOut n_8) l_1 l_2 x_4)) ∧ (¬ (r_2 = 0) → (vp_in l_3 60 ∧ (∀ x_6 : Int32, x_6 = l_2 + (v_tickets_guests l_3.toNatClampNeg) → (∀ x_7 : Int32, x_7 = l_3 + (1 : Int32) → (wp_X_inside_8 post px v_tickets_guests v_tickets_made v_doors_firstIn v_doors_goneOut n_8) l_1 x_6 x_7)))))) l_3 l_1 v_doors_firstIn v_doors_goneOut))
set_option maxHeartbeats 4000000 in
set_option maxRecDepth 100000 in
theorem t_X_inside_8 {p : Program} {l : Launch} {e : Env} {s : State} {m : MethodId} {args : Array Value} {below : List Frame} {meth : Method} {c : Code} {dC : Nat → ClassId} {dI : Nat → Nat → Nat} {cI cJ cZ : ClassId} {A : Nat → Prop} {q_0 : Nat} {q_tickets : Nat} {q_tickets_guests : Nat} {q_doors : Nat} {q_doors_firstIn : Nat} {q_doors_goneOut : Nat} {q_slots : Nat} {q_requests : Nat} {q_chances : Nat} {q_tariff : Nat} {q_tickets_slot : Nat} {q_tickets_kind : Nat} {q_tickets_returned : Nat} {q_doors_seconds : Nat} {q_doors_order : Nat} {q_doors_doubles : Nat} {v_tickets_guests : Nat → Int32} {v_tickets_made : Int32} {v_doors_firstIn : Nat → Int32} {v_doors_found : Int32} {v_doors_goneOut : Nat → Int32} {post : Int32 → Unit → Prop} {px : String → Prop} (C0 : cxM b_X_inside 4 (some .int) R_X l dC dI cI cJ cZ A p s m args meth c) : ∀ (n_8 : Nat) (l_1 : Int32) (l_2 : Int32) (l_3 : Int32), wp_X_inside_8 post px v_tickets_guests v_tickets_made v_doors_firstIn v_doors_goneOut n_8 l_1 l_2 l_3 → gl_X_inside_8 p l e s m args below meth c ({ frames := 7, cells := 1, slots := 6, locals := 102 } : Room) A (Qix below args s A dC dI cI cJ cZ ({ frames := 7, cells := 1, slots := 6, locals := 102 } : Room) A [(q_0, .inr (0, [.ref q_slots, .ref q_tickets, .ref q_requests, .ref q_chances, .ref q_tariff, .ref q_doors])), (q_tickets, .inr (2, [.ref q_tickets_slot, .ref q_tickets_guests, .ref q_tickets_kind, .ref q_tickets_returned, .int v_tickets_made])), (q_tickets_guests, .inl (cI, 60, .inl v_tickets_guests)), (q_doors, .inr (6, [.ref q_doors_seconds, .ref q_doors_order, .ref q_doors_firstIn, .ref q_doors_doubles, .int v_doors_found, .ref q_doors_goneOut])), (q_doors_firstIn, .inl (cI, 60, .inl v_doors_firstIn)), (q_doors_goneOut, .inl (cI, 60, .inl v_doors_goneOut))] px post (fun u : Unit => [(q_0, .inr (0, [.ref q_slots, .ref q_tickets, .ref q_requests, .ref q_chances, .ref q_tariff, .ref q_doors])), (q_tickets, .inr (2, [.ref q_tickets_slot, .ref q_tickets_guests, .ref q_tickets_kind, .ref q_tickets_returned, .int v_tickets_made])), (q_tickets_guests, .inl (cI, 60, .inl v_tickets_guests)), (q_doors, .inr (6, [.ref q_doors_seconds, .ref q_doors_order, .ref q_doors_firstIn, .ref q_doors_doubles, .int v_doors_found, .ref q_doors_goneOut])), (q_doors_firstIn, .inl (cI, 60, .inl v_doors_firstIn)), (q_doors_goneOut, .inl (cI, 60, .inl v_doors_goneOut))])) dC dI cI cJ cZ q_0 q_tickets q_tickets_guests q_doors q_doors_firstIn q_doors_goneOut q_slots q_requests q_chances q_tariff q_tickets_slot q_tickets_kind q_tickets_returned q_doors_seconds q_doors_order q_doors_doubles v_tickets_guests v_tickets_made v_doors_firstIn v_doors_found v_doors_goneOut l_1 l_2 l_3 := by
  obtain ⟨hl9, hx, hb, hml, hr, hown, hts, hlocks, hK, hZ, hA, hNS⟩ := id C0
  intro n_8
  induction n_8 with
  | zero => intro _ _ _ hw; exact hw.elim
  | succ n_8 ih =>
    intro l_1 l_2 l_3 hw H locs hP hD hS ls hl
    refine lv_iload_n hx hb d_X_inside_8 rfl (lv_at hl 3 rfl) ?_
    refine lv_aload_n hx hb d_X_inside_9 rfl (lv_at hl 0 rfl) ?_
    refine va_get (D := (dC, dI)) (ci := 0) (v := .ref q_tickets) (C := R_X) (T := F_X) (N := 6) hx hb hts i_X hown hK hP 0 rfl rfl 1 (by decide) (hts _ k_27) (fun _ h9 => h9) rfl d_X_inside_10 ?_
    refine va_getN (D := (dC, dI)) (ci := 2) (v := .int v_tickets_made) (C := R_XT) (T := F_XT) (N := 5) hx hb hts i_XT hown hK hP 1 rfl rfl 4 (by decide) (va_Nw.use rfl (zn hZ z_11)) (fun _ h9 => h9) rfl d_X_inside_13 ?_
    refine lv_icmp_ge (tgt := 49) hx hb d_X_inside_16 (by decide) (fun c_1 => ?_) (fun c_1 => ?_)
    · have hw := hw.1 c_1
      refine lv_iload_n hx hb d_X_inside_49 rfl (lv_at hl 2 rfl) ?_
      exact rx_i (u := ()) C0 hw hP hD hS hS.2.2 (by decide) (by decide) d_X_inside_50
    · have hw := hw.2 c_1
      refine lv_aload_n hx hb d_X_inside_19 rfl (lv_at hl 0 rfl) ?_
      refine va_get (D := (dC, dI)) (ci := 0) (v := .ref q_doors) (C := R_X) (T := F_X) (N := 6) hx hb hts i_X hown hK hP 0 rfl rfl 5 (by decide) (hts _ k_76) (fun _ h9 => h9) rfl d_X_inside_20 ?_
      refine lv_iload_n hx hb d_X_inside_23 rfl (lv_at hl 3 rfl) ?_
      refine lv_iload_n hx hb d_X_inside_24 rfl (lv_at hl 1 rfl) ?_
      refine jn_i C0 hP hD hS [3, 4, 5] [0, 1, 2] (ru_V C0 (As := [.int l_3, .int l_1]) (rest := []) (c_XD_holds l hl9 dC dI cI cJ cZ q_doors q_doors_firstIn q_doors_goneOut q_doors_seconds q_doors_order q_doors_doubles l_3 l_1 v_doors_firstIn v_doors_found v_doors_goneOut _ hw _) k_294 k_295 k_296 k_297 k_62 (n9 := 2) (by decide +kernel) rfl (ci := 6) rfl rfl ⟨Nat.le_of_ble_eq_true rfl, Nat.le_of_ble_eq_true rfl⟩ hP hD hS [3, 4, 5] rfl (by decide) hl.1 rfl (Nat.le_of_ble_eq_true rfl) d_X_inside_25 ⟨Nat.le_of_ble_eq_true rfl, Nat.le_of_ble_eq_true rfl⟩) rfl rfl (by decide) (by decide) (fun r_2 u H locs hw hP hD hS => ?_)
      try dsimp only at hw
      have hP : va_P (dC, dI) classes [(q_0, .inr (0, [.ref q_slots, .ref q_tickets, .ref q_requests, .ref q_chances, .ref q_tariff, .ref q_doors])), (q_tickets, .inr (2, [.ref q_tickets_slot, .ref q_tickets_guests, .ref q_tickets_kind, .ref q_tickets_returned, .int v_tickets_made])), (q_tickets_guests, .inl (cI, 60, .inl v_tickets_guests)), (q_doors, .inr (6, [.ref q_doors_seconds, .ref q_doors_order, .ref q_doors_firstIn, .ref q_doors_doubles, .int v_doors_found, .ref q_doors_goneOut])), (q_doors_firstIn, .inl (cI, 60, .inl v_doors_firstIn)), (q_doors_goneOut, .inl (cI, 60, .inl v_doors_goneOut))] H := hP
      have hD : va_D A [(q_0, .inr (0, [.ref q_slots, .ref q_tickets, .ref q_requests, .ref q_chances, .ref q_tariff, .ref q_doors])), (q_tickets, .inr (2, [.ref q_tickets_slot, .ref q_tickets_guests, .ref q_tickets_kind, .ref q_tickets_returned, .int v_tickets_made])), (q_tickets_guests, .inl (cI, 60, .inl v_tickets_guests)), (q_doors, .inr (6, [.ref q_doors_seconds, .ref q_doors_order, .ref q_doors_firstIn, .ref q_doors_doubles, .int v_doors_found, .ref q_doors_goneOut])), (q_doors_firstIn, .inl (cI, 60, .inl v_doors_firstIn)), (q_doors_goneOut, .inl (cI, 60, .inl v_doors_goneOut))] := hD
      refine lv_if_eq (tgt := 43) hx hb d_X_inside_28 (by decide) (fun c_3 => ?_) (fun c_3 => ?_)
      · have hw := hw.1 c_3
        obtain ⟨x_4, ex_4⟩ : ∃ y : Int32, y = l_3 + (1 : Int32) := ⟨_, rfl⟩
        have hw := hw x_4 ex_4
        refine lv_iinc (v := x_4) (lv' := [(3, .int x_4), (0, .ref q_0), (1, .int l_1), (2, .int l_2)]) hx hb d_X_inside_43 hl (k := 3) rfl (by rw [ex_4]; rfl) (by decide) rfl (fun ls hl => ?_)
        refine lv_goto (tgt := 8) hx hb d_X_inside_46 (by decide) ?_
        exact ih l_1 l_2 x_4 hw _ _ hP hD hS _ (lv_sub hl [1, 2, 3, 0] rfl)
      · have hw := hw.2 c_3
        refine lv_iload_n hx hb d_X_inside_31 rfl (lv_at hl 2 rfl) ?_
        refine lv_aload_n hx hb d_X_inside_32 rfl (lv_at hl 0 rfl) ?_
        refine va_get (D := (dC, dI)) (ci := 0) (v := .ref q_tickets) (C := R_X) (T := F_X) (N := 6) hx hb hts i_X hown hK hP 0 rfl rfl 1 (by decide) (hts _ k_27) (fun _ h9 => h9) rfl d_X_inside_33 ?_
        refine va_getN (D := (dC, dI)) (ci := 2) (v := .ref q_tickets_guests) (C := R_XT) (T := F_XT) (N := 5) hx hb hts i_XT hown hK hP 1 rfl rfl 1 (by decide) (va_Nw.use rfl (zn hZ z_15)) (fun _ h9 => h9) rfl d_X_inside_36 ?_
        refine lv_iload_n hx hb d_X_inside_39 rfl (lv_at hl 3 rfl) ?_
        obtain ⟨h_5, hw⟩ := hw
        refine va_iald hx hb hK hP 2 0 rfl rfl h_5 d_X_inside_40 ?_
        refine lv_iadd hx hb d_X_inside_41 ?_
        refine lv_topi (fun x_6 ex_6 => ?_)
        have hw := hw x_6 ex_6
        refine lv_istore_n (lv' := [(2, .int x_6), (0, .ref q_0), (1, .int l_1), (3, .int l_3)]) hx hb d_X_inside_42 rfl hl (by decide) rfl (fun ls hl => ?_)
        obtain ⟨x_7, ex_7⟩ : ∃ y : Int32, y = l_3 + (1 : Int32) := ⟨_, rfl⟩
        have hw := hw x_7 ex_7
        refine lv_iinc (v := x_7) (lv' := [(3, .int x_7), (2, .int x_6), (0, .ref q_0), (1, .int l_1)]) hx hb d_X_inside_43 hl (k := 3) rfl (by rw [ex_7]; rfl) (by decide) rfl (fun ls hl => ?_)
        refine lv_goto (tgt := 8) hx hb d_X_inside_46 (by decide) ?_
        exact ih l_1 x_6 x_7 hw _ _ hP hD hS _ (lv_sub hl [2, 3, 1, 0] rfl)
def wp_X_inside (post : Int32 → Unit → Prop) (px : String → Prop) (a_1 : Int32) (v_tickets_guests : Nat → Int32) (v_tickets_made : Int32) (v_doors_firstIn : Nat → Int32) (v_doors_goneOut : Nat → Int32) : Prop := wp_X_needSecond (fun _ => ∃ n_8, wp_X_inside_8 post px v_tickets_guests v_tickets_made v_doors_firstIn v_doors_goneOut n_8 a_1 (0 : Int32) (0 : Int32)) (px) a_1
set_option maxHeartbeats 4000000 in
set_option maxRecDepth 100000 in
theorem c_X_inside (l : Launch) (hl9 : l.stackTraces = false) (dC : Nat → ClassId) (dI : Nat → Nat → Nat) (cI cJ cZ : ClassId) (q_0 q_tickets q_tickets_guests q_doors q_doors_firstIn q_doors_goneOut q_slots q_requests q_chances q_tariff q_tickets_slot q_tickets_kind q_tickets_returned q_doors_seconds q_doors_order q_doors_doubles : Nat) (a_1 : Int32) (v_tickets_guests : Nat → Int32) (v_tickets_made : Int32) (v_doors_firstIn : Nat → Int32) (v_doors_found : Int32) (v_doors_goneOut : Nat → Int32) (post : Int32 → Unit → Prop) (px : String → Prop) (hw : wp_X_inside post px a_1 v_tickets_guests v_tickets_made v_doors_firstIn v_doors_goneOut) : Kix l y_X_inside b_X_inside 4 (some .int) ({ frames := 7, cells := 1, slots := 6, locals := 102 } : Room) dC dI cI cJ cZ [.ref q_0, .int a_1] [(q_0, .inr (0, [.ref q_slots, .ref q_tickets, .ref q_requests, .ref q_chances, .ref q_tariff, .ref q_doors])), (q_tickets, .inr (2, [.ref q_tickets_slot, .ref q_tickets_guests, .ref q_tickets_kind, .ref q_tickets_returned, .int v_tickets_made])), (q_tickets_guests, .inl (cI, 60, .inl v_tickets_guests)), (q_doors, .inr (6, [.ref q_doors_seconds, .ref q_doors_order, .ref q_doors_firstIn, .ref q_doors_doubles, .int v_doors_found, .ref q_doors_goneOut])), (q_doors_firstIn, .inl (cI, 60, .inl v_doors_firstIn)), (q_doors_goneOut, .inl (cI, 60, .inl v_doors_goneOut))] false px post (fun u : Unit => [(q_0, .inr (0, [.ref q_slots, .ref q_tickets, .ref q_requests, .ref q_chances, .ref q_tariff, .ref q_doors])), (q_tickets, .inr (2, [.ref q_tickets_slot, .ref q_tickets_guests, .ref q_tickets_kind, .ref q_tickets_returned, .int v_tickets_made])), (q_tickets_guests, .inl (cI, 60, .inl v_tickets_guests)), (q_doors, .inr (6, [.ref q_doors_seconds, .ref q_doors_order, .ref q_doors_firstIn, .ref q_doors_doubles, .int v_doors_found, .ref q_doors_goneOut])), (q_doors_firstIn, .inl (cI, 60, .inl v_doors_firstIn)), (q_doors_goneOut, .inl (cI, 60, .inl v_doors_goneOut))]) := by
  refine mkix hl9 (own := R_X) rfl (by decide) ?_
  intro p e s m args below meth c A fr C0 hEx hfr hAe hnm eav hP hD
  obtain rfl : A = fr := (hfr.trans hAe.symm).symm
  have hN : ∀ q ∈ ([] : List Loc), s.heap.size ≤ q.base := fun q h => by cases h
  have hP0 := hP
  have hD0 := hD
  obtain ⟨-, hx, hb, hml, hr, hown, hts, hlocks, hK, hZ, hA, hNS⟩ := id C0
  subst eav
  have hS : va_S A s.heap s.heap [] := va_S.rf
  have hl := lv_entry ([.ref q_0, .int a_1]) (n := 4) (Nat.le_of_ble_eq_true rfl)
  rw [lg_entry_eq]
  generalize (lg_sl ([.ref q_0, .int a_1]) ++ List.replicate (4 - (lg_sl ([.ref q_0, .int a_1])).length) Slot.unset).toArray = ls at hl ⊢
  have hl : lv_has ls 4 [(0, .ref q_0), (1, .int a_1)] := hl
  unfold wp_X_inside at hw
  refine lv_iload_n hx hb d_X_inside_0 rfl (lv_at hl 1 rfl) ?_
  refine jxn_v C0 hP hD hS hN [] [0, 1, 2, 3, 4, 5] (ru_Sx C0 (As := [.int a_1]) (rest := []) (c_X_needSecond l hl9 dC dI cI cJ cZ a_1 _ _ hw _) k_259 k_260 k_261 k_86 (n9 := 1) (by decide +kernel) rfl ⟨Nat.le_of_ble_eq_true rfl, Nat.le_of_ble_eq_true rfl⟩ hP hD hS [] rfl (by decide) hl.1 rfl (Nat.le_of_ble_eq_true rfl) d_X_inside_1 ⟨Nat.le_of_ble_eq_true rfl, Nat.le_of_ble_eq_true rfl⟩) rfl rfl (by decide) (by decide) (fun E ce q9 H locs hw hP hD hS hN hce hcv hcl => ?_) (fun u H locs hw hP hD hS hN => ?_)
  · exact xoi C0 hEx hw hP hD hS hS.2.2 hce hcv hcl (by decide) (by decide)
  · try dsimp only at hw
    have hP : va_P (dC, dI) classes [(q_0, .inr (0, [.ref q_slots, .ref q_tickets, .ref q_requests, .ref q_chances, .ref q_tariff, .ref q_doors])), (q_tickets, .inr (2, [.ref q_tickets_slot, .ref q_tickets_guests, .ref q_tickets_kind, .ref q_tickets_returned, .int v_tickets_made])), (q_tickets_guests, .inl (cI, 60, .inl v_tickets_guests)), (q_doors, .inr (6, [.ref q_doors_seconds, .ref q_doors_order, .ref q_doors_firstIn, .ref q_doors_doubles, .int v_doors_found, .ref q_doors_goneOut])), (q_doors_firstIn, .inl (cI, 60, .inl v_doors_firstIn)), (q_doors_goneOut, .inl (cI, 60, .inl v_doors_goneOut))] H := hP
    have hD : va_D A [(q_0, .inr (0, [.ref q_slots, .ref q_tickets, .ref q_requests, .ref q_chances, .ref q_tariff, .ref q_doors])), (q_tickets, .inr (2, [.ref q_tickets_slot, .ref q_tickets_guests, .ref q_tickets_kind, .ref q_tickets_returned, .int v_tickets_made])), (q_tickets_guests, .inl (cI, 60, .inl v_tickets_guests)), (q_doors, .inr (6, [.ref q_doors_seconds, .ref q_doors_order, .ref q_doors_firstIn, .ref q_doors_doubles, .int v_doors_found, .ref q_doors_goneOut])), (q_doors_firstIn, .inl (cI, 60, .inl v_doors_firstIn)), (q_doors_goneOut, .inl (cI, 60, .inl v_doors_goneOut))] := hD
    refine lv_iconst (v := (0 : Int32)) hx hb d_X_inside_4 (by decide) ?_
    refine lv_istore_n (lv' := [(2, .int (0 : Int32)), (0, .ref q_0), (1, .int a_1)]) hx hb d_X_inside_5 rfl hl (by decide) rfl (fun ls hl => ?_)
    refine lv_iconst (v := (0 : Int32)) hx hb d_X_inside_6 (by decide) ?_
    refine lv_istore_n (lv' := [(3, .int (0 : Int32)), (2, .int (0 : Int32)), (0, .ref q_0), (1, .int a_1)]) hx hb d_X_inside_7 rfl hl (by decide) rfl (fun ls hl => ?_)
    obtain ⟨n_8, hw⟩ := hw
    exact t_X_inside_8 (post := post) (px := px) C0 n_8 a_1 (0 : Int32) (0 : Int32) hw _ _ hP hD hS _ (lv_sub hl [2, 3, 1, 0] rfl)
theorem d_X_count_0 : decode b_X_count 0 = .ok (.iload_n 1, 1) := by decide +kernel
theorem d_X_count_1 : decode b_X_count 1 = .ok (.tableswitch 83 0 4 #[35, 43, 51, 67, 75], 35) := by decide +kernel
theorem d_X_count_36 : decode b_X_count 36 = .ok (.aload_n 0, 1) := by decide +kernel
theorem d_X_count_37 : decode b_X_count 37 = .ok (.getfield 10, 3) := by decide +kernel
theorem d_X_count_40 : decode b_X_count 40 = .ok (.getfield 51, 3) := by decide +kernel
theorem d_X_count_43 : decode b_X_count 43 = .ok (.ireturn, 1) := by decide +kernel
theorem d_X_count_44 : decode b_X_count 44 = .ok (.aload_n 0, 1) := by decide +kernel
theorem d_X_count_45 : decode b_X_count 45 = .ok (.getfield 19, 3) := by decide +kernel
theorem d_X_count_48 : decode b_X_count 48 = .ok (.getfield 113, 3) := by decide +kernel
theorem d_X_count_51 : decode b_X_count 51 = .ok (.ireturn, 1) := by decide +kernel
theorem d_X_count_52 : decode b_X_count 52 = .ok (.aload_n 0, 1) := by decide +kernel
theorem d_X_count_53 : decode b_X_count 53 = .ok (.getfield 26, 3) := by decide +kernel
theorem d_X_count_56 : decode b_X_count 56 = .ok (.getfield 150, 3) := by decide +kernel
theorem d_X_count_59 : decode b_X_count 59 = .ok (.aload_n 0, 1) := by decide +kernel
theorem d_X_count_60 : decode b_X_count 60 = .ok (.getfield 26, 3) := by decide +kernel
theorem d_X_count_63 : decode b_X_count 63 = .ok (.getfield 239, 3) := by decide +kernel
theorem d_X_count_66 : decode b_X_count 66 = .ok (.isub, 1) := by decide +kernel
theorem d_X_count_67 : decode b_X_count 67 = .ok (.ireturn, 1) := by decide +kernel
theorem d_X_count_68 : decode b_X_count 68 = .ok (.aload_n 0, 1) := by decide +kernel
theorem d_X_count_69 : decode b_X_count 69 = .ok (.getfield 40, 3) := by decide +kernel
theorem d_X_count_72 : decode b_X_count 72 = .ok (.getfield 242, 3) := by decide +kernel
theorem d_X_count_75 : decode b_X_count 75 = .ok (.ireturn, 1) := by decide +kernel
theorem d_X_count_76 : decode b_X_count 76 = .ok (.aload_n 0, 1) := by decide +kernel
theorem d_X_count_77 : decode b_X_count 77 = .ok (.getfield 40, 3) := by decide +kernel
theorem d_X_count_80 : decode b_X_count 80 = .ok (.getfield 161, 3) := by decide +kernel
theorem d_X_count_83 : decode b_X_count 83 = .ok (.ireturn, 1) := by decide +kernel
theorem d_X_count_84 : decode b_X_count 84 = .ok (.new 96, 3) := by decide +kernel
theorem d_X_count_87 : decode b_X_count 87 = .ok (.dup, 1) := by decide +kernel
theorem d_X_count_88 : decode b_X_count 88 = .ok (.ldc 245, 2) := by decide +kernel
theorem d_X_count_90 : decode b_X_count 90 = .ok (.invokespecial 100, 3) := by decide +kernel
theorem d_X_count_93 : decode b_X_count 93 = .ok (.athrow, 1) := by decide +kernel
def wp_X_count (post : Int32 → Unit → Prop) (px : String → Prop) (a_1 : Int32) (v_slots_made : Int32) (v_tickets_made : Int32) (v_requests_made : Int32) (v_requests_served : Int32) (v_tariff_length : Int32) (v_tariff_clauses : Int32) : Prop := ((a_1 < (0 : Int32) → px "java/lang/IndexOutOfBoundsException") ∧ (¬ (a_1 < (0 : Int32)) → (((4 : Int32) < a_1 → px "java/lang/IndexOutOfBoundsException") ∧ (¬ ((4 : Int32) < a_1) → ((a_1 = (0 : Int32) → post v_slots_made ()) ∧ (¬ (a_1 = (0 : Int32)) → ((a_1 = (1 : Int32) → post v_tickets_made ()) ∧ (¬ (a_1 = (1 : Int32)) → ((a_1 = (2 : Int32) → post (v_requests_made - v_requests_served) ()) ∧ (¬ (a_1 = (2 : Int32)) → ((a_1 = (3 : Int32) → post v_tariff_clauses ()) ∧ (¬ (a_1 = (3 : Int32)) → ((a_1 = (4 : Int32) → post v_tariff_length ()) ∧ (¬ (a_1 = (4 : Int32)) → True))))))))))))))
set_option maxHeartbeats 4000000 in
set_option maxRecDepth 100000 in
theorem c_X_count (l : Launch) (hl9 : l.stackTraces = false) (dC : Nat → ClassId) (dI : Nat → Nat → Nat) (cI cJ cZ : ClassId) (q_0 q_slots q_tickets q_requests q_tariff q_chances q_doors q_slots_places q_slots_above q_slots_below q_slots_most q_slots_sold q_tickets_slot q_tickets_guests q_tickets_kind q_tickets_returned q_requests_slot q_requests_guests q_requests_kind q_requests_ticket q_tariff_text q_tariff_prices q_tariff_percents q_tariff_newPrices q_tariff_newPercents : Nat) (a_1 : Int32) (v_slots_made : Int32) (v_tickets_made : Int32) (v_requests_made : Int32) (v_requests_served : Int32) (v_tariff_length : Int32) (v_tariff_clauses : Int32) (v_tariff_newClauses : Int32) (v_tariff_state : Int32) (v_tariff_subject : Int32) (v_tariff_number : Int32) (v_tariff_digits : Int32) (post : Int32 → Unit → Prop) (px : String → Prop) (hw : wp_X_count post px a_1 v_slots_made v_tickets_made v_requests_made v_requests_served v_tariff_length v_tariff_clauses) : Kix l y_X_count b_X_count 2 (some .int) ({ frames := 6, cells := 1, slots := 6, locals := 82 } : Room) dC dI cI cJ cZ [.ref q_0, .int a_1] [(q_0, .inr (0, [.ref q_slots, .ref q_tickets, .ref q_requests, .ref q_chances, .ref q_tariff, .ref q_doors])), (q_slots, .inr (1, [.ref q_slots_places, .ref q_slots_above, .ref q_slots_below, .ref q_slots_most, .ref q_slots_sold, .int v_slots_made])), (q_tickets, .inr (2, [.ref q_tickets_slot, .ref q_tickets_guests, .ref q_tickets_kind, .ref q_tickets_returned, .int v_tickets_made])), (q_requests, .inr (3, [.ref q_requests_slot, .ref q_requests_guests, .ref q_requests_kind, .ref q_requests_ticket, .int v_requests_made, .int v_requests_served])), (q_tariff, .inr (5, [.ref q_tariff_text, .int v_tariff_length, .ref q_tariff_prices, .ref q_tariff_percents, .int v_tariff_clauses, .ref q_tariff_newPrices, .ref q_tariff_newPercents, .int v_tariff_newClauses, .int v_tariff_state, .int v_tariff_subject, .int v_tariff_number, .int v_tariff_digits]))] true px post (fun u : Unit => [(q_0, .inr (0, [.ref q_slots, .ref q_tickets, .ref q_requests, .ref q_chances, .ref q_tariff, .ref q_doors])), (q_slots, .inr (1, [.ref q_slots_places, .ref q_slots_above, .ref q_slots_below, .ref q_slots_most, .ref q_slots_sold, .int v_slots_made])), (q_tickets, .inr (2, [.ref q_tickets_slot, .ref q_tickets_guests, .ref q_tickets_kind, .ref q_tickets_returned, .int v_tickets_made])), (q_requests, .inr (3, [.ref q_requests_slot, .ref q_requests_guests, .ref q_requests_kind, .ref q_requests_ticket, .int v_requests_made, .int v_requests_served])), (q_tariff, .inr (5, [.ref q_tariff_text, .int v_tariff_length, .ref q_tariff_prices, .ref q_tariff_percents, .int v_tariff_clauses, .ref q_tariff_newPrices, .ref q_tariff_newPercents, .int v_tariff_newClauses, .int v_tariff_state, .int v_tariff_subject, .int v_tariff_number, .int v_tariff_digits]))]) := by
  refine mkix hl9 (own := R_X) rfl (by decide) ?_
  intro p e s m args below meth c A fr C0 hEx hfr hAe hnm eav hP hD
  subst hfr
  have hN : ∀ q ∈ ([] : List Loc), s.heap.size ≤ q.base := fun q h => by cases h
  have hP0 := hP
  have hD0 := hD
  obtain ⟨-, hx, hb, hml, hr, hown, hts, hlocks, hK, hZ, hA, hNS⟩ := id C0
  subst eav
  have hS : va_S A s.heap s.heap [] := va_S.rf
  have hl := lv_entry ([.ref q_0, .int a_1]) (n := 2) (Nat.le_of_ble_eq_true rfl)
  rw [lg_entry_eq]
  generalize (lg_sl ([.ref q_0, .int a_1]) ++ List.replicate (2 - (lg_sl ([.ref q_0, .int a_1])).length) Slot.unset).toArray = ls at hl ⊢
  have hl : lv_has ls 2 [(0, .ref q_0), (1, .int a_1)] := hl
  unfold wp_X_count at hw
  refine lv_iload_n hx hb d_X_count_0 rfl (lv_at hl 1 rfl) ?_
  by_cases c_1 : a_1 < (0 : Int32)
  · have hw := hw.1 c_1
    refine lv_tableOut (tgt := 84) hx hb d_X_count_1 (Or.inl (by have q := Int32.lt_iff_toInt_lt.mp c_1; rw [show (0 : Int32).toInt = 0 by decide] at q; exact q)) (by decide) ?_
    exact thS_i C0 hEx ta_2 sb_20 hw hP0 hD0 hN (fun q h => by cases h) hl.1 (by decide) (by decide) (by decide) (by decide) d_X_count_84 d_X_count_87 d_X_count_88 d_X_count_90 d_X_count_93
  have hw := hw.2 c_1
  by_cases c_2 : (4 : Int32) < a_1
  · have hw := hw.1 c_2
    refine lv_tableOut (tgt := 84) hx hb d_X_count_1 (Or.inr (by have q := Int32.lt_iff_toInt_lt.mp c_2; rw [show (4 : Int32).toInt = 4 by decide] at q; exact q)) (by decide) ?_
    exact thS_i C0 hEx ta_2 sb_20 hw hP0 hD0 hN (fun q h => by cases h) hl.1 (by decide) (by decide) (by decide) (by decide) d_X_count_84 d_X_count_87 d_X_count_88 d_X_count_90 d_X_count_93
  have hw := hw.2 c_2
  by_cases c_3 : a_1 = (0 : Int32)
  · have hw := hw.1 c_3
    refine lv_tableIn (off := 35) (tgt := 36) hx hb d_X_count_1 (by rw [c_3]; decide) (by rw [c_3]; decide) (by rw [c_3]; decide) (by decide) ?_
    refine lv_aload_n hx hb d_X_count_36 rfl (lv_at hl 0 rfl) ?_
    refine va_get (D := (dC, dI)) (ci := 0) (v := .ref q_slots) (C := R_X) (T := F_X) (N := 6) hx hb hts i_X hown hK hP 0 rfl rfl 0 (by decide) (hts _ k_15) (fun _ h9 => h9) rfl d_X_count_37 ?_
    refine va_getN (D := (dC, dI)) (ci := 1) (v := .int v_slots_made) (C := R_XS) (T := F_XS) (N := 6) hx hb hts i_XS hown hK hP 1 rfl rfl 5 (by decide) (va_Nw.use rfl (zn hZ z_5)) (fun _ h9 => h9) rfl d_X_count_40 ?_
    exact rx_i (u := ()) C0 hw hP hD hS (fun q h => by cases h) (by decide) (by decide) d_X_count_43
  have hw := hw.2 c_3
  by_cases c_4 : a_1 = (1 : Int32)
  · have hw := hw.1 c_4
    refine lv_tableIn (off := 43) (tgt := 44) hx hb d_X_count_1 (by rw [c_4]; decide) (by rw [c_4]; decide) (by rw [c_4]; decide) (by decide) ?_
    refine lv_aload_n hx hb d_X_count_44 rfl (lv_at hl 0 rfl) ?_
    refine va_get (D := (dC, dI)) (ci := 0) (v := .ref q_tickets) (C := R_X) (T := F_X) (N := 6) hx hb hts i_X hown hK hP 0 rfl rfl 1 (by decide) (hts _ k_27) (fun _ h9 => h9) rfl d_X_count_45 ?_
    refine va_getN (D := (dC, dI)) (ci := 2) (v := .int v_tickets_made) (C := R_XT) (T := F_XT) (N := 5) hx hb hts i_XT hown hK hP 2 rfl rfl 4 (by decide) (va_Nw.use rfl (zn hZ z_11)) (fun _ h9 => h9) rfl d_X_count_48 ?_
    exact rx_i (u := ()) C0 hw hP hD hS (fun q h => by cases h) (by decide) (by decide) d_X_count_51
  have hw := hw.2 c_4
  by_cases c_5 : a_1 = (2 : Int32)
  · have hw := hw.1 c_5
    refine lv_tableIn (off := 51) (tgt := 52) hx hb d_X_count_1 (by rw [c_5]; decide) (by rw [c_5]; decide) (by rw [c_5]; decide) (by decide) ?_
    refine lv_aload_n hx hb d_X_count_52 rfl (lv_at hl 0 rfl) ?_
    refine va_get (D := (dC, dI)) (ci := 0) (v := .ref q_requests) (C := R_X) (T := F_X) (N := 6) hx hb hts i_X hown hK hP 0 rfl rfl 2 (by decide) (hts _ k_38) (fun _ h9 => h9) rfl d_X_count_53 ?_
    refine va_getN (D := (dC, dI)) (ci := 3) (v := .int v_requests_made) (C := R_XR) (T := F_XR) (N := 6) hx hb hts i_XR hown hK hP 3 rfl rfl 4 (by decide) (va_Nw.use rfl (zn hZ z_16)) (fun _ h9 => h9) rfl d_X_count_56 ?_
    refine lv_aload_n hx hb d_X_count_59 rfl (lv_at hl 0 rfl) ?_
    refine va_get (D := (dC, dI)) (ci := 0) (v := .ref q_requests) (C := R_X) (T := F_X) (N := 6) hx hb hts i_X hown hK hP 0 rfl rfl 2 (by decide) (hts _ k_38) (fun _ h9 => h9) rfl d_X_count_60 ?_
    refine va_getN (D := (dC, dI)) (ci := 3) (v := .int v_requests_served) (C := R_XR) (T := F_XR) (N := 6) hx hb hts i_XR hown hK hP 3 rfl rfl 5 (by decide) (va_Nw.use rfl (zn hZ z_26)) (fun _ h9 => h9) rfl d_X_count_63 ?_
    refine lv_isub hx hb d_X_count_66 ?_
    exact rx_i (u := ()) C0 hw hP hD hS (fun q h => by cases h) (by decide) (by decide) d_X_count_67
  have hw := hw.2 c_5
  by_cases c_6 : a_1 = (3 : Int32)
  · have hw := hw.1 c_6
    refine lv_tableIn (off := 67) (tgt := 68) hx hb d_X_count_1 (by rw [c_6]; decide) (by rw [c_6]; decide) (by rw [c_6]; decide) (by decide) ?_
    refine lv_aload_n hx hb d_X_count_68 rfl (lv_at hl 0 rfl) ?_
    refine va_get (D := (dC, dI)) (ci := 0) (v := .ref q_tariff) (C := R_X) (T := F_X) (N := 6) hx hb hts i_X hown hK hP 0 rfl rfl 4 (by decide) (hts _ k_59) (fun _ h9 => h9) rfl d_X_count_69 ?_
    refine va_getN (D := (dC, dI)) (ci := 5) (v := .int v_tariff_clauses) (C := R_XF) (T := F_XF) (N := 12) hx hb hts i_XF hown hK hP 4 rfl rfl 4 (by decide) (va_Nw.use rfl (zn hZ z_27)) (fun _ h9 => h9) rfl d_X_count_72 ?_
    exact rx_i (u := ()) C0 hw hP hD hS (fun q h => by cases h) (by decide) (by decide) d_X_count_75
  have hw := hw.2 c_6
  by_cases c_7 : a_1 = (4 : Int32)
  · have hw := hw.1 c_7
    refine lv_tableIn (off := 75) (tgt := 76) hx hb d_X_count_1 (by rw [c_7]; decide) (by rw [c_7]; decide) (by rw [c_7]; decide) (by decide) ?_
    refine lv_aload_n hx hb d_X_count_76 rfl (lv_at hl 0 rfl) ?_
    refine va_get (D := (dC, dI)) (ci := 0) (v := .ref q_tariff) (C := R_X) (T := F_X) (N := 6) hx hb hts i_X hown hK hP 0 rfl rfl 4 (by decide) (hts _ k_59) (fun _ h9 => h9) rfl d_X_count_77 ?_
    refine va_getN (D := (dC, dI)) (ci := 5) (v := .int v_tariff_length) (C := R_XF) (T := F_XF) (N := 12) hx hb hts i_XF hown hK hP 4 rfl rfl 1 (by decide) (va_Nw.use rfl (zn hZ z_20)) (fun _ h9 => h9) rfl d_X_count_80 ?_
    exact rx_i (u := ()) C0 hw hP hD hS (fun q h => by cases h) (by decide) (by decide) d_X_count_83
  have hw := hw.2 c_7
  exfalso
  have q1 : ¬ a_1.toInt < 0 := fun q => c_1 (Int32.lt_iff_toInt_lt.mpr (by rw [show (0 : Int32).toInt = 0 by decide]; exact q))
  have q2 : ¬ 4 < a_1.toInt := fun q => c_2 (Int32.lt_iff_toInt_lt.mpr (by rw [show (4 : Int32).toInt = 4 by decide]; exact q))
  have qc_3 := lv_neT c_3 (show (0 : Int32).toInt = 0 by decide)
  have qc_4 := lv_neT c_4 (show (1 : Int32).toInt = 1 by decide)
  have qc_5 := lv_neT c_5 (show (2 : Int32).toInt = 2 by decide)
  have qc_6 := lv_neT c_6 (show (3 : Int32).toInt = 3 by decide)
  have qc_7 := lv_neT c_7 (show (4 : Int32).toInt = 4 by decide)
  omega
