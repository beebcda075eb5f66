abbrev b_L_count : ByteArray := method_19_code
def y_L_count : MethodName := ⟨R_L, "count", "(LSlotTickets;I[J)I"⟩
abbrev b_L_inside : ByteArray := method_18_code
def y_L_inside : MethodName := ⟨R_L, "inside", "(LSlotTickets;I[J)I"⟩
abbrev b_L_leaves : ByteArray := method_17_code
def y_L_leaves : MethodName := ⟨R_L, "leaves", "(LSlotTickets;II[J)I"⟩
abbrev b_L_twice : ByteArray := method_16_code
def y_L_twice : MethodName := ⟨R_L, "twice", "(LSlotTickets;II[J)I"⟩
abbrev b_L_read : ByteArray := method_15_code
def y_L_read : MethodName := ⟨R_L, "read", "(LSlotTickets;III[J)I"⟩
abbrev b_L_code : ByteArray := method_14_code
def y_L_code : MethodName := ⟨R_L, "code", "(LSlotTickets;II[J)I"⟩
abbrev b_L_about : ByteArray := method_13_code
def y_L_about : MethodName := ⟨R_L, "about", "(LSlotTickets;II[J)I"⟩
abbrev b_L_price : ByteArray := method_12_code
def y_L_price : MethodName := ⟨R_L, "price", "(LSlotTickets;I[J)I"⟩
abbrev b_L_unit : ByteArray := method_11_code
def y_L_unit : MethodName := ⟨R_L, "unit", "(LSlotTickets;I[J)I"⟩
abbrev b_L_given : ByteArray := method_10_code
def y_L_given : MethodName := ⟨R_L, "given", "(LSlotTickets;I[J)I"⟩
abbrev b_L_waits : ByteArray := method_9_code
def y_L_waits : MethodName := ⟨R_L, "waits", "(LSlotTickets;III[J)I"⟩
abbrev b_L_back : ByteArray := method_8_code
def y_L_back : MethodName := ⟨R_L, "back", "(LSlotTickets;I[J)I"⟩
abbrev b_L_sell : ByteArray := method_7_code
def y_L_sell : MethodName := ⟨R_L, "sell", "(LSlotTickets;III[J)I"⟩
abbrev b_L_odds : ByteArray := method_6_code
def y_L_odds : MethodName := ⟨R_L, "odds", "(LSlotTickets;III[J)I"⟩
abbrev b_L_most : ByteArray := method_5_code
def y_L_most : MethodName := ⟨R_L, "most", "(LSlotTickets;I[J)I"⟩
abbrev b_L_over : ByteArray := method_4_code
def y_L_over : MethodName := ⟨R_L, "over", "(LSlotTickets;IIIII)I"⟩
abbrev b_L_slot : ByteArray := method_3_code
def y_L_slot : MethodName := ⟨R_L, "slot", "(LSlotTickets;I[J)I"⟩
theorem k_407 : (.code y_X_slot b_X_slot 2 (some .int) : Cond) ∈ GB := mt2 84 rfl rfl
theorem k_408 : (.methodLink R_L 7 y_X_slot : Cond) ∈ GB := mt2 81 rfl rfl
theorem k_409 : (.instanceMethod y_X_slot : Cond) ∈ GB := mt2 82 rfl rfl
theorem k_410 : (.selects R_X y_X_slot y_X_slot : Cond) ∈ GB := mt2 83 rfl rfl
theorem k_411 : (.classLink R_L 13 "java/lang/IllegalStateException" : Cond) ∈ GB := mt2 79 rfl rfl
theorem k_412 : (.classLink R_L 15 "java/lang/IllegalArgumentException" : Cond) ∈ GB := mt2 80 rfl rfl
theorem k_413 : (.code y_X_over b_X_over 6 none : Cond) ∈ GB := mt2 180 rfl rfl
theorem k_414 : (.methodLink R_L 17 y_X_over : Cond) ∈ GB := mt2 177 rfl rfl
theorem k_415 : (.instanceMethod y_X_over : Cond) ∈ GB := mt2 178 rfl rfl
theorem k_416 : (.selects R_X y_X_over y_X_over : Cond) ∈ GB := mt2 179 rfl rfl
theorem k_417 : (.classLink R_L 21 "java/lang/IndexOutOfBoundsException" : Cond) ∈ GB := mt2 176 rfl rfl
theorem k_418 : (.code y_X_most b_X_most 2 (some .int) : Cond) ∈ GB := mt3 1 rfl rfl
theorem k_419 : (.methodLink R_L 23 y_X_most : Cond) ∈ GB := mt2 238 rfl rfl
theorem k_420 : (.instanceMethod y_X_most : Cond) ∈ GB := mt2 239 rfl rfl
theorem k_421 : (.selects R_X y_X_most y_X_most : Cond) ∈ GB := mt3 0 rfl rfl
theorem k_422 : (.code y_X_odds b_X_odds 4 (some .int) : Cond) ∈ GB := mt3 8 rfl rfl
theorem k_423 : (.methodLink R_L 26 y_X_odds : Cond) ∈ GB := mt3 5 rfl rfl
theorem k_424 : (.instanceMethod y_X_odds : Cond) ∈ GB := mt3 6 rfl rfl
theorem k_425 : (.selects R_X y_X_odds y_X_odds : Cond) ∈ GB := mt3 7 rfl rfl
theorem k_426 : (.code y_X_sell b_X_sell 4 (some .int) : Cond) ∈ GB := mt3 23 rfl rfl
theorem k_427 : (.methodLink R_L 30 y_X_sell : Cond) ∈ GB := mt3 20 rfl rfl
theorem k_428 : (.instanceMethod y_X_sell : Cond) ∈ GB := mt3 21 rfl rfl
theorem k_429 : (.selects R_X y_X_sell y_X_sell : Cond) ∈ GB := mt3 22 rfl rfl
theorem k_430 : (.code y_X_back b_X_back 3 (some .int) : Cond) ∈ GB := mt3 51 rfl rfl
theorem k_431 : (.methodLink R_L 33 y_X_back : Cond) ∈ GB := mt3 48 rfl rfl
theorem k_432 : (.instanceMethod y_X_back : Cond) ∈ GB := mt3 49 rfl rfl
theorem k_433 : (.selects R_X y_X_back y_X_back : Cond) ∈ GB := mt3 50 rfl rfl
theorem k_434 : (.code y_X_waits b_X_waits 4 (some .int) : Cond) ∈ GB := mt3 79 rfl rfl
theorem k_435 : (.methodLink R_L 36 y_X_waits : Cond) ∈ GB := mt3 76 rfl rfl
theorem k_436 : (.instanceMethod y_X_waits : Cond) ∈ GB := mt3 77 rfl rfl
theorem k_437 : (.selects R_X y_X_waits y_X_waits : Cond) ∈ GB := mt3 78 rfl rfl
theorem k_438 : (.code y_X_given b_X_given 2 (some .int) : Cond) ∈ GB := mt3 91 rfl rfl
theorem k_439 : (.methodLink R_L 39 y_X_given : Cond) ∈ GB := mt3 88 rfl rfl
theorem k_440 : (.instanceMethod y_X_given : Cond) ∈ GB := mt3 89 rfl rfl
theorem k_441 : (.selects R_X y_X_given y_X_given : Cond) ∈ GB := mt3 90 rfl rfl
theorem k_442 : (.code y_X_unit b_X_unit 2 (some .int) : Cond) ∈ GB := mt3 99 rfl rfl
theorem k_443 : (.methodLink R_L 42 y_X_unit : Cond) ∈ GB := mt3 96 rfl rfl
theorem k_444 : (.instanceMethod y_X_unit : Cond) ∈ GB := mt3 97 rfl rfl
theorem k_445 : (.selects R_X y_X_unit y_X_unit : Cond) ∈ GB := mt3 98 rfl rfl
theorem k_446 : (.code y_X_price b_X_price 2 (some .int) : Cond) ∈ GB := mt3 112 rfl rfl
theorem k_447 : (.methodLink R_L 45 y_X_price : Cond) ∈ GB := mt3 109 rfl rfl
theorem k_448 : (.instanceMethod y_X_price : Cond) ∈ GB := mt3 110 rfl rfl
theorem k_449 : (.selects R_X y_X_price y_X_price : Cond) ∈ GB := mt3 111 rfl rfl
theorem k_450 : (.code y_X_about b_X_about 3 (some .int) : Cond) ∈ GB := mt3 123 rfl rfl
theorem k_451 : (.methodLink R_L 48 y_X_about : Cond) ∈ GB := mt3 120 rfl rfl
theorem k_452 : (.instanceMethod y_X_about : Cond) ∈ GB := mt3 121 rfl rfl
theorem k_453 : (.selects R_X y_X_about y_X_about : Cond) ∈ GB := mt3 122 rfl rfl
theorem k_454 : (.code y_X_code b_X_code 3 (some .int) : Cond) ∈ GB := mt3 131 rfl rfl
theorem k_455 : (.methodLink R_L 52 y_X_code : Cond) ∈ GB := mt3 128 rfl rfl
theorem k_456 : (.instanceMethod y_X_code : Cond) ∈ GB := mt3 129 rfl rfl
theorem k_457 : (.selects R_X y_X_code y_X_code : Cond) ∈ GB := mt3 130 rfl rfl
theorem k_458 : (.code y_X_read b_X_read 5 (some .int) : Cond) ∈ GB := mt3 140 rfl rfl
theorem k_459 : (.methodLink R_L 55 y_X_read : Cond) ∈ GB := mt3 137 rfl rfl
theorem k_460 : (.instanceMethod y_X_read : Cond) ∈ GB := mt3 138 rfl rfl
theorem k_461 : (.selects R_X y_X_read y_X_read : Cond) ∈ GB := mt3 139 rfl rfl
theorem k_462 : (.code y_X_twice b_X_twice 4 (some .int) : Cond) ∈ GB := mt3 158 rfl rfl
theorem k_463 : (.methodLink R_L 58 y_X_twice : Cond) ∈ GB := mt3 155 rfl rfl
theorem k_464 : (.instanceMethod y_X_twice : Cond) ∈ GB := mt3 156 rfl rfl
theorem k_465 : (.selects R_X y_X_twice y_X_twice : Cond) ∈ GB := mt3 157 rfl rfl
theorem k_466 : (.code y_X_leaves b_X_leaves 3 (some .boolean) : Cond) ∈ GB := mt3 173 rfl rfl
theorem k_467 : (.methodLink R_L 61 y_X_leaves : Cond) ∈ GB := mt3 170 rfl rfl
theorem k_468 : (.instanceMethod y_X_leaves : Cond) ∈ GB := mt3 171 rfl rfl
theorem k_469 : (.selects R_X y_X_leaves y_X_leaves : Cond) ∈ GB := mt3 172 rfl rfl
theorem k_470 : (.code y_X_inside b_X_inside 4 (some .int) : Cond) ∈ GB := mt3 188 rfl rfl
theorem k_471 : (.methodLink R_L 65 y_X_inside : Cond) ∈ GB := mt3 185 rfl rfl
theorem k_472 : (.instanceMethod y_X_inside : Cond) ∈ GB := mt3 186 rfl rfl
theorem k_473 : (.selects R_X y_X_inside y_X_inside : Cond) ∈ GB := mt3 187 rfl rfl
theorem k_474 : (.code y_X_count b_X_count 2 (some .int) : Cond) ∈ GB := mt3 199 rfl rfl
theorem k_475 : (.methodLink R_L 68 y_X_count : Cond) ∈ GB := mt3 196 rfl rfl
theorem k_476 : (.instanceMethod y_X_count : Cond) ∈ GB := mt3 197 rfl rfl
theorem k_477 : (.selects R_X y_X_count y_X_count : Cond) ∈ GB := mt3 198 rfl rfl
theorem zc_ISE : (.castable "java/lang/IllegalStateException" "java/lang/IllegalStateException" : Cond) ∈ NB := List.mem_of_getElem? (i := 28) rfl
theorem zc_IAE : (.castable "java/lang/IllegalArgumentException" "java/lang/IllegalArgumentException" : Cond) ∈ NB := List.mem_of_getElem? (i := 35) rfl
theorem zc_IOB : (.castable "java/lang/IndexOutOfBoundsException" "java/lang/IndexOutOfBoundsException" : Cond) ∈ NB := List.mem_of_getElem? (i := 36) rfl
theorem d_L_slot_0 : decode b_L_slot 0 = .ok (.aload_n 2, 1) := by decide +kernel
theorem d_L_slot_1 : decode b_L_slot 1 = .ok (.iconst 0, 1) := by decide +kernel
theorem d_L_slot_2 : decode b_L_slot 2 = .ok (.aload_n 0, 1) := by decide +kernel
theorem d_L_slot_3 : decode b_L_slot 3 = .ok (.iload_n 1, 1) := by decide +kernel
theorem d_L_slot_4 : decode b_L_slot 4 = .ok (.invokevirtual 7, 3) := by decide +kernel
theorem d_L_slot_7 : decode b_L_slot 7 = .ok (.i2l, 1) := by decide +kernel
theorem d_L_slot_8 : decode b_L_slot 8 = .ok (.lastore, 1) := by decide +kernel
theorem d_L_slot_9 : decode b_L_slot 9 = .ok (.goto 9, 3) := by decide +kernel
theorem d_L_slot_12 : decode b_L_slot 12 = .ok (.astore_n 3, 1) := by decide +kernel
theorem d_L_slot_13 : decode b_L_slot 13 = .ok (.iconst 1, 1) := by decide +kernel
theorem d_L_slot_14 : decode b_L_slot 14 = .ok (.ireturn, 1) := by decide +kernel
theorem d_L_slot_15 : decode b_L_slot 15 = .ok (.astore_n 3, 1) := by decide +kernel
theorem d_L_slot_16 : decode b_L_slot 16 = .ok (.iconst 2, 1) := by decide +kernel
theorem d_L_slot_17 : decode b_L_slot 17 = .ok (.ireturn, 1) := by decide +kernel
theorem d_L_slot_18 : decode b_L_slot 18 = .ok (.iconst 0, 1) := by decide +kernel
theorem d_L_slot_19 : decode b_L_slot 19 = .ok (.ireturn, 1) := by decide +kernel
def wp_L_slot (post : Int32 → ((Nat → Int32) × (Nat → Int32) × (Nat → Int32) × (Nat → Int32) × (Int32) × (Nat → Int64)) → Prop) (n_p2 : Nat) (a_1 : Int32) (v_p0_slots_places : Nat → Int32) (v_p0_slots_above : Nat → Int32) (v_p0_slots_below : Nat → Int32) (v_p0_slots_most : Nat → Int32) (v_p0_slots_made : Int32) (v_p2 : Nat → Int64) : Prop := wp_X_slot (fun r_1 u => match u with | (f_2, f_3, f_4, f_5, x_6) => (vp_in (0 : Int32) n_p2 ∧ (∀ f_8 : Nat → Int64, f_8 = vp_updL v_p2 (0 : Int32).toNatClampNeg r_1.toInt64 → post (0 : Int32) (f_2, f_3, f_4, f_5, x_6, f_8)))) (fun E => (E = "java/lang/IllegalArgumentException" ∧ post (2 : Int32) (v_p0_slots_places, v_p0_slots_above, v_p0_slots_below, v_p0_slots_most, v_p0_slots_made, v_p2)) ∨ (E = "java/lang/IllegalStateException" ∧ post (1 : Int32) (v_p0_slots_places, v_p0_slots_above, v_p0_slots_below, v_p0_slots_most, v_p0_slots_made, v_p2))) a_1 v_p0_slots_places v_p0_slots_above v_p0_slots_below v_p0_slots_most v_p0_slots_made
set_option maxHeartbeats 4000000 in
set_option maxRecDepth 100000 in
theorem c_L_slot (l : Launch) (hl9 : l.stackTraces = false) (dC : Nat → ClassId) (dI : Nat → Nat → Nat) (cI cJ cZ : ClassId) (q_p0 q_p0_slots q_p0_slots_places q_p0_slots_above q_p0_slots_below q_p0_slots_most q_p2 q_p0_tickets q_p0_requests q_p0_chances q_p0_tariff q_p0_doors q_p0_slots_sold : Nat) (n_p2 : Nat) (a_1 : Int32) (v_p0_slots_places : Nat → Int32) (v_p0_slots_above : Nat → Int32) (v_p0_slots_below : Nat → Int32) (v_p0_slots_most : Nat → Int32) (v_p0_slots_made : Int32) (v_p2 : Nat → Int64) (post : Int32 → ((Nat → Int32) × (Nat → Int32) × (Nat → Int32) × (Nat → Int32) × (Int32) × (Nat → Int64)) → Prop) (hw : wp_L_slot post n_p2 a_1 v_p0_slots_places v_p0_slots_above v_p0_slots_below v_p0_slots_most v_p0_slots_made v_p2) : KiW l y_L_slot b_L_slot 4 (some .int) [(0, 9, 12, 13), (0, 9, 15, 15)] ({ frames := 7, cells := 1, slots := 6, locals := 103 } : Room) dC dI cI cJ cZ [.ref q_p0, .int a_1, .ref q_p2] [(q_p0, .inr (0, [.ref q_p0_slots, .ref q_p0_tickets, .ref q_p0_requests, .ref q_p0_chances, .ref q_p0_tariff, .ref q_p0_doors])), (q_p0_slots, .inr (1, [.ref q_p0_slots_places, .ref q_p0_slots_above, .ref q_p0_slots_below, .ref q_p0_slots_most, .ref q_p0_slots_sold, .int v_p0_slots_made])), (q_p0_slots_places, .inl (cI, 8, .inl v_p0_slots_places)), (q_p0_slots_above, .inl (cI, 8, .inl v_p0_slots_above)), (q_p0_slots_below, .inl (cI, 8, .inl v_p0_slots_below)), (q_p0_slots_most, .inl (cI, 8, .inl v_p0_slots_most)), (q_p2, .inl (cJ, n_p2, .inr (.inl v_p2)))] post (fun u : (Nat → Int32) × (Nat → Int32) × (Nat → Int32) × (Nat → Int32) × (Int32) × (Nat → Int64) => [(q_p0, .inr (0, [.ref q_p0_slots, .ref q_p0_tickets, .ref q_p0_requests, .ref q_p0_chances, .ref q_p0_tariff, .ref q_p0_doors])), (q_p0_slots, .inr (1, [.ref q_p0_slots_places, .ref q_p0_slots_above, .ref q_p0_slots_below, .ref q_p0_slots_most, .ref q_p0_slots_sold, .int u.2.2.2.2.1])), (q_p0_slots_places, .inl (cI, 8, .inl u.1)), (q_p0_slots_above, .inl (cI, 8, .inl u.2.1)), (q_p0_slots_below, .inl (cI, 8, .inl u.2.2.1)), (q_p0_slots_most, .inl (cI, 8, .inl u.2.2.2.1)), (q_p2, .inl (cJ, n_p2, .inr (.inl u.2.2.2.2.2)))]) := by
  refine mkiW hl9 (own := R_L) rfl (by decide) ?_
  intro p e s m args below meth c A C0 hTab hNc eav hP hD
  have hN : ∀ q ∈ ([] : List Loc), s.heap.size ≤ q.base := fun q h => by cases h
  obtain ⟨-, hx, hb, hml, hr, hown, hts, hlocks, hK, hZ, hA, hNS⟩ := id C0
  subst eav
  have hS : va_S A s.heap s.heap [] := va_S.rf
  have hl := lv_entry ([.ref q_p0, .int a_1, .ref q_p2]) (n := 4) (Nat.le_of_ble_eq_true rfl)
  rw [lg_entry_eq]
  generalize (lg_sl ([.ref q_p0, .int a_1, .ref q_p2]) ++ List.replicate (4 - (lg_sl ([.ref q_p0, .int a_1, .ref q_p2])).length) Slot.unset).toArray = ls at hl ⊢
  have hl : lv_has ls 4 [(0, .ref q_p0), (1, .int a_1), (2, .ref q_p2)] := hl
  unfold wp_L_slot at hw
  refine lv_aload_n hx hb d_L_slot_0 rfl (lv_at hl 2 rfl) ?_
  refine lv_iconst (v := (0 : Int32)) hx hb d_L_slot_1 (by decide) ?_
  refine lv_aload_n hx hb d_L_slot_2 rfl (lv_at hl 0 rfl) ?_
  refine lv_iload_n hx hb d_L_slot_3 rfl (lv_at hl 1 rfl) ?_
  refine jx_i C0 hP hD hS [0, 1, 2, 3, 4, 5] [6] (ru_Vx C0 (As := [.int a_1]) (rest := [.int (0 : Int32), .ref q_p2]) (c_X_slot l hl9 dC dI cI cJ cZ q_p0 q_p0_slots q_p0_slots_places q_p0_slots_above q_p0_slots_below q_p0_slots_most q_p0_tickets q_p0_requests q_p0_chances q_p0_tariff q_p0_doors q_p0_slots_sold a_1 v_p0_slots_places v_p0_slots_above v_p0_slots_below v_p0_slots_most v_p0_slots_made _ _ hw _) k_407 k_408 k_409 k_410 k_86 (n9 := 1) (by decide +kernel) rfl (ci := 0) rfl rfl ⟨Nat.le_of_ble_eq_true rfl, Nat.le_of_ble_eq_true rfl⟩ hP hD hS [0, 1, 2, 3, 4, 5] rfl (by decide) hl.1 rfl (Nat.le_of_ble_eq_true rfl) d_L_slot_4 ⟨Nat.le_of_ble_eq_true rfl, Nat.le_of_ble_eq_true rfl⟩) rfl rfl (by decide) (by decide) (fun E ce q9 H locs hw hP hD hS hce hcv hcl => ?_) (fun r_1 u H locs hw hP hD hS => ?_)
  · rcases hw with ⟨rfl, hw⟩ | ⟨rfl, hw⟩
    · refine xcatch (E := "java/lang/IllegalArgumentException") (name := "java/lang/IllegalArgumentException") C0 [⟨0, 9, 12, 13⟩] ⟨0, 9, 15, 15⟩ [] (by rw [hTab]; rfl) (fun z hz => by
        rcases List.mem_cons.mp hz with rfl | hz
        · exact Or.inr ⟨by decide, "java/lang/IllegalStateException", (hts _ k_411), hNc.1⟩
        exact nomatch hz) (by decide) (by decide) k_412 (zn hZ zc_IAE) hce hcv hcl ?_
      refine lv_astore_n (lv' := [(3, .ref q9), (0, .ref q_p0), (1, .int a_1), (2, .ref q_p2)]) hx hb d_L_slot_15 rfl hl (by decide) rfl (fun ls hl => ?_)
      refine lv_iconst (v := (2 : Int32)) hx hb d_L_slot_16 (by decide) ?_
      exact rw_i (u := (v_p0_slots_places, v_p0_slots_above, v_p0_slots_below, v_p0_slots_most, v_p0_slots_made, v_p2)) C0 hw (hP.sub [1, 2, 3, 4, 5, 6, 0] rfl) (hD.sub [1, 2, 3, 4, 5, 6, 0] (by decide) rfl) hS (by decide) (by decide) d_L_slot_17
    · refine xcatch (E := "java/lang/IllegalStateException") (name := "java/lang/IllegalStateException") C0 [] ⟨0, 9, 12, 13⟩ [⟨0, 9, 15, 15⟩] (by rw [hTab]; rfl) (fun z hz => nomatch hz) (by decide) (by decide) k_411 (zn hZ zc_ISE) hce hcv hcl ?_
      refine lv_astore_n (lv' := [(3, .ref q9), (0, .ref q_p0), (1, .int a_1), (2, .ref q_p2)]) hx hb d_L_slot_12 rfl hl (by decide) rfl (fun ls hl => ?_)
      refine lv_iconst (v := (1 : Int32)) hx hb d_L_slot_13 (by decide) ?_
      exact rw_i (u := (v_p0_slots_places, v_p0_slots_above, v_p0_slots_below, v_p0_slots_most, v_p0_slots_made, v_p2)) C0 hw (hP.sub [1, 2, 3, 4, 5, 6, 0] rfl) (hD.sub [1, 2, 3, 4, 5, 6, 0] (by decide) rfl) hS (by decide) (by decide) d_L_slot_14
  · obtain ⟨f_2, f_3, f_4, f_5, x_6⟩ := u
    try dsimp only at hw
    have hP : va_P (dC, dI) classes [(q_p2, .inl (cJ, n_p2, .inr (.inl v_p2))), (q_p0, .inr (0, [.ref q_p0_slots, .ref q_p0_tickets, .ref q_p0_requests, .ref q_p0_chances, .ref q_p0_tariff, .ref q_p0_doors])), (q_p0_slots, .inr (1, [.ref q_p0_slots_places, .ref q_p0_slots_above, .ref q_p0_slots_below, .ref q_p0_slots_most, .ref q_p0_slots_sold, .int x_6])), (q_p0_slots_places, .inl (cI, 8, .inl f_2)), (q_p0_slots_above, .inl (cI, 8, .inl f_3)), (q_p0_slots_below, .inl (cI, 8, .inl f_4)), (q_p0_slots_most, .inl (cI, 8, .inl f_5))] H := hP
    have hD : va_D A [(q_p2, .inl (cJ, n_p2, .inr (.inl v_p2))), (q_p0, .inr (0, [.ref q_p0_slots, .ref q_p0_tickets, .ref q_p0_requests, .ref q_p0_chances, .ref q_p0_tariff, .ref q_p0_doors])), (q_p0_slots, .inr (1, [.ref q_p0_slots_places, .ref q_p0_slots_above, .ref q_p0_slots_below, .ref q_p0_slots_most, .ref q_p0_slots_sold, .int x_6])), (q_p0_slots_places, .inl (cI, 8, .inl f_2)), (q_p0_slots_above, .inl (cI, 8, .inl f_3)), (q_p0_slots_below, .inl (cI, 8, .inl f_4)), (q_p0_slots_most, .inl (cI, 8, .inl f_5))] := hD
    refine lv_i2l hx hb d_L_slot_7 rfl ?_
    obtain ⟨h_7, hw⟩ := hw
    refine va_last hx hb hK hP hD hS 0 1 rfl rfl h_7 d_L_slot_8 (fun H locs hP hD hS => ?_)
    obtain ⟨f_8, ef_8⟩ : ∃ g : Nat → Int64, g = vp_updL v_p2 (0 : Int32).toNatClampNeg r_1.toInt64 := ⟨_, rfl⟩
    have hw := hw f_8 ef_8
    have hP : va_P (dC, dI) classes [(q_p2, .inl (cJ, n_p2, .inr (.inl f_8))), (q_p0, .inr (0, [.ref q_p0_slots, .ref q_p0_tickets, .ref q_p0_requests, .ref q_p0_chances, .ref q_p0_tariff, .ref q_p0_doors])), (q_p0_slots, .inr (1, [.ref q_p0_slots_places, .ref q_p0_slots_above, .ref q_p0_slots_below, .ref q_p0_slots_most, .ref q_p0_slots_sold, .int x_6])), (q_p0_slots_places, .inl (cI, 8, .inl f_2)), (q_p0_slots_above, .inl (cI, 8, .inl f_3)), (q_p0_slots_below, .inl (cI, 8, .inl f_4)), (q_p0_slots_most, .inl (cI, 8, .inl f_5))] H := by rw [ef_8]; exact hP
    have hD : va_D A [(q_p2, .inl (cJ, n_p2, .inr (.inl f_8))), (q_p0, .inr (0, [.ref q_p0_slots, .ref q_p0_tickets, .ref q_p0_requests, .ref q_p0_chances, .ref q_p0_tariff, .ref q_p0_doors])), (q_p0_slots, .inr (1, [.ref q_p0_slots_places, .ref q_p0_slots_above, .ref q_p0_slots_below, .ref q_p0_slots_most, .ref q_p0_slots_sold, .int x_6])), (q_p0_slots_places, .inl (cI, 8, .inl f_2)), (q_p0_slots_above, .inl (cI, 8, .inl f_3)), (q_p0_slots_below, .inl (cI, 8, .inl f_4)), (q_p0_slots_most, .inl (cI, 8, .inl f_5))] := by rw [ef_8]; exact hD
    refine lv_goto (tgt := 18) hx hb d_L_slot_9 (by decide) ?_
    refine lv_iconst (v := (0 : Int32)) hx hb d_L_slot_18 (by decide) ?_
    exact rw_i (u := (f_2, f_3, f_4, f_5, x_6, f_8)) C0 hw (hP.sub [1, 2, 3, 4, 5, 6, 0] rfl) (hD.sub [1, 2, 3, 4, 5, 6, 0] (by decide) rfl) hS (by decide) (by decide) d_L_slot_19
theorem d_L_over_0 : decode b_L_over 0 = .ok (.aload_n 0, 1) := by decide +kernel
theorem d_L_over_1 : decode b_L_over 1 = .ok (.iload_n 1, 1) := by decide +kernel
theorem d_L_over_2 : decode b_L_over 2 = .ok (.iload_n 2, 1) := by decide +kernel
theorem d_L_over_3 : decode b_L_over 3 = .ok (.iload_n 3, 1) := by decide +kernel
theorem d_L_over_4 : decode b_L_over 4 = .ok (.iload 4, 2) := by decide +kernel
theorem d_L_over_6 : decode b_L_over 6 = .ok (.iload 5, 2) := by decide +kernel
theorem d_L_over_8 : decode b_L_over 8 = .ok (.invokevirtual 17, 3) := by decide +kernel
theorem d_L_over_11 : decode b_L_over 11 = .ok (.goto 11, 3) := by decide +kernel
theorem d_L_over_14 : decode b_L_over 14 = .ok (.astore 6, 2) := by decide +kernel
theorem d_L_over_16 : decode b_L_over 16 = .ok (.iconst 1, 1) := by decide +kernel
theorem d_L_over_17 : decode b_L_over 17 = .ok (.ireturn, 1) := by decide +kernel
theorem d_L_over_18 : decode b_L_over 18 = .ok (.astore 6, 2) := by decide +kernel
theorem d_L_over_20 : decode b_L_over 20 = .ok (.iconst 2, 1) := by decide +kernel
theorem d_L_over_21 : decode b_L_over 21 = .ok (.ireturn, 1) := by decide +kernel
theorem d_L_over_22 : decode b_L_over 22 = .ok (.iconst 0, 1) := by decide +kernel
theorem d_L_over_23 : decode b_L_over 23 = .ok (.ireturn, 1) := by decide +kernel
def wp_L_over (post : Int32 → ((Nat → Int32) × (Nat → Int32) × (Nat → Int32) × (Nat → Int64)) → Prop) (a_1 : Int32) (a_2 : Int32) (a_3 : Int32) (a_4 : Int32) (a_5 : Int32) (v_p0_slots_places : Nat → Int32) (v_p0_slots_above : Nat → Int32) (v_p0_slots_below : Nat → Int32) (v_p0_slots_most : Nat → Int32) (v_p0_slots_made : Int32) (v_p0_chances_ways : Nat → Int64) : Prop := wp_X_over (fun u => match u with | (f_1, f_2, f_3, f_4) => post (0 : Int32) (f_1, f_2, f_3, f_4)) (fun E => (E = "java/lang/IllegalArgumentException" ∧ post (2 : Int32) (v_p0_slots_above, v_p0_slots_below, v_p0_slots_most, v_p0_chances_ways)) ∨ (E = "java/lang/IndexOutOfBoundsException" ∧ post (1 : Int32) (v_p0_slots_above, v_p0_slots_below, v_p0_slots_most, v_p0_chances_ways))) a_1 a_2 a_3 a_4 a_5 v_p0_slots_places v_p0_slots_above v_p0_slots_below v_p0_slots_most v_p0_slots_made v_p0_chances_ways
set_option maxHeartbeats 4000000 in
set_option maxRecDepth 100000 in
theorem c_L_over (l : Launch) (hl9 : l.stackTraces = false) (dC : Nat → ClassId) (dI : Nat → Nat → Nat) (cI cJ cZ : ClassId) (q_p0 q_p0_slots q_p0_slots_places q_p0_slots_above q_p0_slots_below q_p0_slots_most q_p0_chances q_p0_chances_ways q_p0_tickets q_p0_requests q_p0_tariff q_p0_doors q_p0_slots_sold : Nat) (a_1 : Int32) (a_2 : Int32) (a_3 : Int32) (a_4 : Int32) (a_5 : Int32) (v_p0_slots_places : Nat → Int32) (v_p0_slots_above : Nat → Int32) (v_p0_slots_below : Nat → Int32) (v_p0_slots_most : Nat → Int32) (v_p0_slots_made : Int32) (v_p0_chances_ways : Nat → Int64) (post : Int32 → ((Nat → Int32) × (Nat → Int32) × (Nat → Int32) × (Nat → Int64)) → Prop) (hw : wp_L_over post a_1 a_2 a_3 a_4 a_5 v_p0_slots_places v_p0_slots_above v_p0_slots_below v_p0_slots_most v_p0_slots_made v_p0_chances_ways) : KiW l y_L_over b_L_over 7 (some .int) [(0, 11, 14, 21), (0, 11, 18, 15)] ({ frames := 8, cells := 1, slots := 6, locals := 130 } : Room) dC dI cI cJ cZ [.ref q_p0, .int a_1, .int a_2, .int a_3, .int a_4, .int a_5] [(q_p0, .inr (0, [.ref q_p0_slots, .ref q_p0_tickets, .ref q_p0_requests, .ref q_p0_chances, .ref q_p0_tariff, .ref q_p0_doors])), (q_p0_slots, .inr (1, [.ref q_p0_slots_places, .ref q_p0_slots_above, .ref q_p0_slots_below, .ref q_p0_slots_most, .ref q_p0_slots_sold, .int v_p0_slots_made])), (q_p0_slots_places, .inl (cI, 8, .inl v_p0_slots_places)), (q_p0_slots_above, .inl (cI, 8, .inl v_p0_slots_above)), (q_p0_slots_below, .inl (cI, 8, .inl v_p0_slots_below)), (q_p0_slots_most, .inl (cI, 8, .inl v_p0_slots_most)), (q_p0_chances, .inr (4, [.ref q_p0_chances_ways])), (q_p0_chances_ways, .inl (cJ, 115, .inr (.inl v_p0_chances_ways)))] post (fun u : (Nat → Int32) × (Nat → Int32) × (Nat → Int32) × (Nat → Int64) => [(q_p0, .inr (0, [.ref q_p0_slots, .ref q_p0_tickets, .ref q_p0_requests, .ref q_p0_chances, .ref q_p0_tariff, .ref q_p0_doors])), (q_p0_slots, .inr (1, [.ref q_p0_slots_places, .ref q_p0_slots_above, .ref q_p0_slots_below, .ref q_p0_slots_most, .ref q_p0_slots_sold, .int v_p0_slots_made])), (q_p0_slots_places, .inl (cI, 8, .inl v_p0_slots_places)), (q_p0_slots_above, .inl (cI, 8, .inl u.1)), (q_p0_slots_below, .inl (cI, 8, .inl u.2.1)), (q_p0_slots_most, .inl (cI, 8, .inl u.2.2.1)), (q_p0_chances, .inr (4, [.ref q_p0_chances_ways])), (q_p0_chances_ways, .inl (cJ, 115, .inr (.inl u.2.2.2)))]) := by
  refine mkiW hl9 (own := R_L) rfl (by decide) ?_
  intro p e s m args below meth c A C0 hTab hNc eav hP hD
  have hN : ∀ q ∈ ([] : List Loc), s.heap.size ≤ q.base := fun q h => by cases h
  obtain ⟨-, hx, hb, hml, hr, hown, hts, hlocks, hK, hZ, hA, hNS⟩ := id C0
  subst eav
  have hS : va_S A s.heap s.heap [] := va_S.rf
  have hl := lv_entry ([.ref q_p0, .int a_1, .int a_2, .int a_3, .int a_4, .int a_5]) (n := 7) (Nat.le_of_ble_eq_true rfl)
  rw [lg_entry_eq]
  generalize (lg_sl ([.ref q_p0, .int a_1, .int a_2, .int a_3, .int a_4, .int a_5]) ++ List.replicate (7 - (lg_sl ([.ref q_p0, .int a_1, .int a_2, .int a_3, .int a_4, .int a_5])).length) Slot.unset).toArray = ls at hl ⊢
  have hl : lv_has ls 7 [(0, .ref q_p0), (1, .int a_1), (2, .int a_2), (3, .int a_3), (4, .int a_4), (5, .int a_5)] := hl
  unfold wp_L_over at hw
  refine lv_aload_n hx hb d_L_over_0 rfl (lv_at hl 0 rfl) ?_
  refine lv_iload_n hx hb d_L_over_1 rfl (lv_at hl 1 rfl) ?_
  refine lv_iload_n hx hb d_L_over_2 rfl (lv_at hl 2 rfl) ?_
  refine lv_iload_n hx hb d_L_over_3 rfl (lv_at hl 3 rfl) ?_
  refine lv_iload hx hb d_L_over_4 (lv_at hl 4 rfl) ?_
  refine lv_iload hx hb d_L_over_6 (lv_at hl 5 rfl) ?_
  refine jx_v C0 hP hD hS [0, 1, 2, 3, 4, 5, 6, 7] [] (ru_Vx C0 (As := [.int a_1, .int a_2, .int a_3, .int a_4, .int a_5]) (rest := []) (c_X_over l hl9 dC dI cI cJ cZ q_p0 q_p0_slots q_p0_slots_places q_p0_slots_above q_p0_slots_below q_p0_slots_most q_p0_chances q_p0_chances_ways q_p0_tickets q_p0_requests q_p0_tariff q_p0_doors q_p0_slots_sold a_1 a_2 a_3 a_4 a_5 v_p0_slots_places v_p0_slots_above v_p0_slots_below v_p0_slots_most v_p0_slots_made v_p0_chances_ways _ _ hw _) k_413 k_414 k_415 k_416 k_86 (n9 := 5) (by decide +kernel) rfl (ci := 0) rfl rfl ⟨Nat.le_of_ble_eq_true rfl, Nat.le_of_ble_eq_true rfl⟩ hP hD hS [0, 1, 2, 3, 4, 5, 6, 7] rfl (by decide) hl.1 rfl (Nat.le_of_ble_eq_true rfl) d_L_over_8 ⟨Nat.le_of_ble_eq_true rfl, Nat.le_of_ble_eq_true rfl⟩) rfl rfl (by decide) (by decide) (fun E ce q9 H locs hw hP hD hS hce hcv hcl => ?_) (fun u H locs hw hP hD hS => ?_)
  · rcases hw with ⟨rfl, hw⟩ | ⟨rfl, hw⟩
    · refine xcatch (E := "java/lang/IllegalArgumentException") (name := "java/lang/IllegalArgumentException") C0 [⟨0, 11, 14, 21⟩] ⟨0, 11, 18, 15⟩ [] (by rw [hTab]; rfl) (fun z hz => by
        rcases List.mem_cons.mp hz with rfl | hz
        · exact Or.inr ⟨by decide, "java/lang/IndexOutOfBoundsException", (hts _ k_417), hNc.2.1⟩
        exact nomatch hz) (by decide) (by decide) k_412 (zn hZ zc_IAE) hce hcv hcl ?_
      refine lv_astore (lv' := [(6, .ref q9), (0, .ref q_p0), (1, .int a_1), (2, .int a_2), (3, .int a_3), (4, .int a_4), (5, .int a_5)]) hx hb d_L_over_18 hl (by decide) rfl (fun ls hl => ?_)
      refine lv_iconst (v := (2 : Int32)) hx hb d_L_over_20 (by decide) ?_
      exact rw_i (u := (v_p0_slots_above, v_p0_slots_below, v_p0_slots_most, v_p0_chances_ways)) C0 hw hP hD hS (by decide) (by decide) d_L_over_21
    · refine xcatch (E := "java/lang/IndexOutOfBoundsException") (name := "java/lang/IndexOutOfBoundsException") C0 [] ⟨0, 11, 14, 21⟩ [⟨0, 11, 18, 15⟩] (by rw [hTab]; rfl) (fun z hz => nomatch hz) (by decide) (by decide) k_417 (zn hZ zc_IOB) hce hcv hcl ?_
      refine lv_astore (lv' := [(6, .ref q9), (0, .ref q_p0), (1, .int a_1), (2, .int a_2), (3, .int a_3), (4, .int a_4), (5, .int a_5)]) hx hb d_L_over_14 hl (by decide) rfl (fun ls hl => ?_)
      refine lv_iconst (v := (1 : Int32)) hx hb d_L_over_16 (by decide) ?_
      exact rw_i (u := (v_p0_slots_above, v_p0_slots_below, v_p0_slots_most, v_p0_chances_ways)) C0 hw hP hD hS (by decide) (by decide) d_L_over_17
  · obtain ⟨f_1, f_2, f_3, f_4⟩ := u
    try dsimp only at hw
    have hP : va_P (dC, dI) classes [(q_p0, .inr (0, [.ref q_p0_slots, .ref q_p0_tickets, .ref q_p0_requests, .ref q_p0_chances, .ref q_p0_tariff, .ref q_p0_doors])), (q_p0_slots, .inr (1, [.ref q_p0_slots_places, .ref q_p0_slots_above, .ref q_p0_slots_below, .ref q_p0_slots_most, .ref q_p0_slots_sold, .int v_p0_slots_made])), (q_p0_slots_places, .inl (cI, 8, .inl v_p0_slots_places)), (q_p0_slots_above, .inl (cI, 8, .inl f_1)), (q_p0_slots_below, .inl (cI, 8, .inl f_2)), (q_p0_slots_most, .inl (cI, 8, .inl f_3)), (q_p0_chances, .inr (4, [.ref q_p0_chances_ways])), (q_p0_chances_ways, .inl (cJ, 115, .inr (.inl f_4)))] H := hP
    have hD : va_D A [(q_p0, .inr (0, [.ref q_p0_slots, .ref q_p0_tickets, .ref q_p0_requests, .ref q_p0_chances, .ref q_p0_tariff, .ref q_p0_doors])), (q_p0_slots, .inr (1, [.ref q_p0_slots_places, .ref q_p0_slots_above, .ref q_p0_slots_below, .ref q_p0_slots_most, .ref q_p0_slots_sold, .int v_p0_slots_made])), (q_p0_slots_places, .inl (cI, 8, .inl v_p0_slots_places)), (q_p0_slots_above, .inl (cI, 8, .inl f_1)), (q_p0_slots_below, .inl (cI, 8, .inl f_2)), (q_p0_slots_most, .inl (cI, 8, .inl f_3)), (q_p0_chances, .inr (4, [.ref q_p0_chances_ways])), (q_p0_chances_ways, .inl (cJ, 115, .inr (.inl f_4)))] := hD
    refine lv_goto (tgt := 22) hx hb d_L_over_11 (by decide) ?_
    refine lv_iconst (v := (0 : Int32)) hx hb d_L_over_22 (by decide) ?_
    exact rw_i (u := (f_1, f_2, f_3, f_4)) C0 hw hP hD hS (by decide) (by decide) d_L_over_23
theorem d_L_most_0 : decode b_L_most 0 = .ok (.aload_n 2, 1) := by decide +kernel
theorem d_L_most_1 : decode b_L_most 1 = .ok (.iconst 0, 1) := by decide +kernel
theorem d_L_most_2 : decode b_L_most 2 = .ok (.aload_n 0, 1) := by decide +kernel
theorem d_L_most_3 : decode b_L_most 3 = .ok (.iload_n 1, 1) := by decide +kernel
theorem d_L_most_4 : decode b_L_most 4 = .ok (.invokevirtual 23, 3) := by decide +kernel
theorem d_L_most_7 : decode b_L_most 7 = .ok (.i2l, 1) := by decide +kernel
theorem d_L_most_8 : decode b_L_most 8 = .ok (.lastore, 1) := by decide +kernel
theorem d_L_most_9 : decode b_L_most 9 = .ok (.goto 6, 3) := by decide +kernel
theorem d_L_most_12 : decode b_L_most 12 = .ok (.astore_n 3, 1) := by decide +kernel
theorem d_L_most_13 : decode b_L_most 13 = .ok (.iconst 1, 1) := by decide +kernel
theorem d_L_most_14 : decode b_L_most 14 = .ok (.ireturn, 1) := by decide +kernel
theorem d_L_most_15 : decode b_L_most 15 = .ok (.iconst 0, 1) := by decide +kernel
theorem d_L_most_16 : decode b_L_most 16 = .ok (.ireturn, 1) := by decide +kernel
def wp_L_most (post : Int32 → (Nat → Int64) → Prop) (n_p2 : Nat) (a_1 : Int32) (v_p0_slots_most : Nat → Int32) (v_p0_slots_made : Int32) (v_p2 : Nat → Int64) : Prop := wp_X_most (fun r_1 _ => (vp_in (0 : Int32) n_p2 ∧ (∀ f_3 : Nat → Int64, f_3 = vp_updL v_p2 (0 : Int32).toNatClampNeg r_1.toInt64 → post (0 : Int32) f_3))) (fun E => (E = "java/lang/IndexOutOfBoundsException" ∧ post (1 : Int32) v_p2)) a_1 v_p0_slots_most v_p0_slots_made
set_option maxHeartbeats 4000000 in
set_option maxRecDepth 100000 in
theorem c_L_most (l : Launch) (hl9 : l.stackTraces = false) (dC : Nat → ClassId) (dI : Nat → Nat → Nat) (cI cJ cZ : ClassId) (q_p0 q_p0_slots q_p0_slots_most q_p2 q_p0_tickets q_p0_requests q_p0_chances q_p0_tariff q_p0_doors q_p0_slots_places q_p0_slots_above q_p0_slots_below q_p0_slots_sold : Nat) (n_p2 : Nat) (a_1 : Int32) (v_p0_slots_most : Nat → Int32) (v_p0_slots_made : Int32) (v_p2 : Nat → Int64) (post : Int32 → (Nat → Int64) → Prop) (hw : wp_L_most post n_p2 a_1 v_p0_slots_most v_p0_slots_made v_p2) : KiW l y_L_most b_L_most 4 (some .int) [(0, 9, 12, 21)] ({ frames := 8, cells := 1, slots := 6, locals := 124 } : Room) dC dI cI cJ cZ [.ref q_p0, .int a_1, .ref q_p2] [(q_p0, .inr (0, [.ref q_p0_slots, .ref q_p0_tickets, .ref q_p0_requests, .ref q_p0_chances, .ref q_p0_tariff, .ref q_p0_doors])), (q_p0_slots, .inr (1, [.ref q_p0_slots_places, .ref q_p0_slots_above, .ref q_p0_slots_below, .ref q_p0_slots_most, .ref q_p0_slots_sold, .int v_p0_slots_made])), (q_p0_slots_most, .inl (cI, 8, .inl v_p0_slots_most)), (q_p2, .inl (cJ, n_p2, .inr (.inl v_p2)))] post (fun u : (Nat → Int64) => [(q_p0, .inr (0, [.ref q_p0_slots, .ref q_p0_tickets, .ref q_p0_requests, .ref q_p0_chances, .ref q_p0_tariff, .ref q_p0_doors])), (q_p0_slots, .inr (1, [.ref q_p0_slots_places, .ref q_p0_slots_above, .ref q_p0_slots_below, .ref q_p0_slots_most, .ref q_p0_slots_sold, .int v_p0_slots_made])), (q_p0_slots_most, .inl (cI, 8, .inl v_p0_slots_most)), (q_p2, .inl (cJ, n_p2, .inr (.inl u)))]) := by
  refine mkiW hl9 (own := R_L) rfl (by decide) ?_
  intro p e s m args below meth c A C0 hTab hNc eav hP hD
  have hN : ∀ q ∈ ([] : List Loc), s.heap.size ≤ q.base := fun q h => by cases h
  obtain ⟨-, hx, hb, hml, hr, hown, hts, hlocks, hK, hZ, hA, hNS⟩ := id C0
  subst eav
  have hS : va_S A s.heap s.heap [] := va_S.rf
  have hl := lv_entry ([.ref q_p0, .int a_1, .ref q_p2]) (n := 4) (Nat.le_of_ble_eq_true rfl)
  rw [lg_entry_eq]
  generalize (lg_sl ([.ref q_p0, .int a_1, .ref q_p2]) ++ List.replicate (4 - (lg_sl ([.ref q_p0, .int a_1, .ref q_p2])).length) Slot.unset).toArray = ls at hl ⊢
  have hl : lv_has ls 4 [(0, .ref q_p0), (1, .int a_1), (2, .ref q_p2)] := hl
  unfold wp_L_most at hw
  refine lv_aload_n hx hb d_L_most_0 rfl (lv_at hl 2 rfl) ?_
  refine lv_iconst (v := (0 : Int32)) hx hb d_L_most_1 (by decide) ?_
  refine lv_aload_n hx hb d_L_most_2 rfl (lv_at hl 0 rfl) ?_
  refine lv_iload_n hx hb d_L_most_3 rfl (lv_at hl 1 rfl) ?_
  refine jx_i C0 hP hD hS [0, 1, 2] [3] (ru_Vx C0 (As := [.int a_1]) (rest := [.int (0 : Int32), .ref q_p2]) (c_X_most l hl9 dC dI cI cJ cZ q_p0 q_p0_slots q_p0_slots_most q_p0_tickets q_p0_requests q_p0_chances q_p0_tariff q_p0_doors q_p0_slots_places q_p0_slots_above q_p0_slots_below q_p0_slots_sold a_1 v_p0_slots_most v_p0_slots_made _ _ hw _) k_418 k_419 k_420 k_421 k_86 (n9 := 1) (by decide +kernel) rfl (ci := 0) rfl rfl ⟨Nat.le_of_ble_eq_true rfl, Nat.le_of_ble_eq_true rfl⟩ hP hD hS [0, 1, 2] rfl (by decide) hl.1 rfl (Nat.le_of_ble_eq_true rfl) d_L_most_4 ⟨Nat.le_of_ble_eq_true rfl, Nat.le_of_ble_eq_true rfl⟩) rfl rfl (by decide) (by decide) (fun E ce q9 H locs hw hP hD hS hce hcv hcl => ?_) (fun r_1 u H locs hw hP hD hS => ?_)
  · obtain ⟨rfl, hw⟩ := hw
    refine xcatch (E := "java/lang/IndexOutOfBoundsException") (name := "java/lang/IndexOutOfBoundsException") C0 [] ⟨0, 9, 12, 21⟩ [] (by rw [hTab]; rfl) (fun z hz => nomatch hz) (by decide) (by decide) k_417 (zn hZ zc_IOB) hce hcv hcl ?_
    refine lv_astore_n (lv' := [(3, .ref q9), (0, .ref q_p0), (1, .int a_1), (2, .ref q_p2)]) hx hb d_L_most_12 rfl hl (by decide) rfl (fun ls hl => ?_)
    refine lv_iconst (v := (1 : Int32)) hx hb d_L_most_13 (by decide) ?_
    exact rw_i (u := v_p2) C0 hw (hP.sub [1, 2, 3, 0] rfl) (hD.sub [1, 2, 3, 0] (by decide) rfl) hS (by decide) (by decide) d_L_most_14
  · try dsimp only at hw
    have hP : va_P (dC, dI) classes [(q_p2, .inl (cJ, n_p2, .inr (.inl v_p2))), (q_p0, .inr (0, [.ref q_p0_slots, .ref q_p0_tickets, .ref q_p0_requests, .ref q_p0_chances, .ref q_p0_tariff, .ref q_p0_doors])), (q_p0_slots, .inr (1, [.ref q_p0_slots_places, .ref q_p0_slots_above, .ref q_p0_slots_below, .ref q_p0_slots_most, .ref q_p0_slots_sold, .int v_p0_slots_made])), (q_p0_slots_most, .inl (cI, 8, .inl v_p0_slots_most))] H := hP
    have hD : va_D A [(q_p2, .inl (cJ, n_p2, .inr (.inl v_p2))), (q_p0, .inr (0, [.ref q_p0_slots, .ref q_p0_tickets, .ref q_p0_requests, .ref q_p0_chances, .ref q_p0_tariff, .ref q_p0_doors])), (q_p0_slots, .inr (1, [.ref q_p0_slots_places, .ref q_p0_slots_above, .ref q_p0_slots_below, .ref q_p0_slots_most, .ref q_p0_slots_sold, .int v_p0_slots_made])), (q_p0_slots_most, .inl (cI, 8, .inl v_p0_slots_most))] := hD
    refine lv_i2l hx hb d_L_most_7 rfl ?_
    obtain ⟨h_2, hw⟩ := hw
    refine va_last hx hb hK hP hD hS 0 1 rfl rfl h_2 d_L_most_8 (fun H locs hP hD hS => ?_)
    obtain ⟨f_3, ef_3⟩ : ∃ g : Nat → Int64, g = vp_updL v_p2 (0 : Int32).toNatClampNeg r_1.toInt64 := ⟨_, rfl⟩
    have hw := hw f_3 ef_3
    have hP : va_P (dC, dI) classes [(q_p2, .inl (cJ, n_p2, .inr (.inl f_3))), (q_p0, .inr (0, [.ref q_p0_slots, .ref q_p0_tickets, .ref q_p0_requests, .ref q_p0_chances, .ref q_p0_tariff, .ref q_p0_doors])), (q_p0_slots, .inr (1, [.ref q_p0_slots_places, .ref q_p0_slots_above, .ref q_p0_slots_below, .ref q_p0_slots_most, .ref q_p0_slots_sold, .int v_p0_slots_made])), (q_p0_slots_most, .inl (cI, 8, .inl v_p0_slots_most))] H := by rw [ef_3]; exact hP
    have hD : va_D A [(q_p2, .inl (cJ, n_p2, .inr (.inl f_3))), (q_p0, .inr (0, [.ref q_p0_slots, .ref q_p0_tickets, .ref q_p0_requests, .ref q_p0_chances, .ref q_p0_tariff, .ref q_p0_doors])), (q_p0_slots, .inr (1, [.ref q_p0_slots_places, .ref q_p0_slots_above, .ref q_p0_slots_below, .ref q_p0_slots_most, .ref q_p0_slots_sold, .int v_p0_slots_made])), (q_p0_slots_most, .inl (cI, 8, .inl v_p0_slots_most))] := by rw [ef_3]; exact hD
    refine lv_goto (tgt := 15) hx hb d_L_most_9 (by decide) ?_
    refine lv_iconst (v := (0 : Int32)) hx hb d_L_most_15 (by decide) ?_
    exact rw_i (u := f_3) C0 hw (hP.sub [1, 2, 3, 0] rfl) (hD.sub [1, 2, 3, 0] (by decide) rfl) hS (by decide) (by decide) d_L_most_16
theorem d_L_odds_0 : decode b_L_odds 0 = .ok (.aload 4, 2) := by decide +kernel
theorem d_L_odds_2 : decode b_L_odds 2 = .ok (.iconst 0, 1) := by decide +kernel
theorem d_L_odds_3 : decode b_L_odds 3 = .ok (.aload_n 0, 1) := by decide +kernel
theorem d_L_odds_4 : decode b_L_odds 4 = .ok (.iload_n 1, 1) := by decide +kernel
theorem d_L_odds_5 : decode b_L_odds 5 = .ok (.iload_n 2, 1) := by decide +kernel
theorem d_L_odds_6 : decode b_L_odds 6 = .ok (.iload_n 3, 1) := by decide +kernel
theorem d_L_odds_7 : decode b_L_odds 7 = .ok (.invokevirtual 26, 3) := by decide +kernel
theorem d_L_odds_10 : decode b_L_odds 10 = .ok (.i2l, 1) := by decide +kernel
theorem d_L_odds_11 : decode b_L_odds 11 = .ok (.lastore, 1) := by decide +kernel
theorem d_L_odds_12 : decode b_L_odds 12 = .ok (.goto 11, 3) := by decide +kernel
theorem d_L_odds_15 : decode b_L_odds 15 = .ok (.astore 5, 2) := by decide +kernel
theorem d_L_odds_17 : decode b_L_odds 17 = .ok (.iconst 1, 1) := by decide +kernel
theorem d_L_odds_18 : decode b_L_odds 18 = .ok (.ireturn, 1) := by decide +kernel
theorem d_L_odds_19 : decode b_L_odds 19 = .ok (.astore 5, 2) := by decide +kernel
theorem d_L_odds_21 : decode b_L_odds 21 = .ok (.iconst 2, 1) := by decide +kernel
theorem d_L_odds_22 : decode b_L_odds 22 = .ok (.ireturn, 1) := by decide +kernel
theorem d_L_odds_23 : decode b_L_odds 23 = .ok (.iconst 0, 1) := by decide +kernel
theorem d_L_odds_24 : decode b_L_odds 24 = .ok (.ireturn, 1) := by decide +kernel
def wp_L_odds (post : Int32 → ((Nat → Int64) × (Nat → Int64)) → Prop) (n_p4 : Nat) (a_1 : Int32) (a_2 : Int32) (a_3 : Int32) (v_p0_slots_places : Nat → Int32) (v_p0_slots_above : Nat → Int32) (v_p0_slots_below : Nat → Int32) (v_p0_slots_made : Int32) (v_p0_chances_ways : Nat → Int64) (v_p4 : Nat → Int64) : Prop := wp_X_odds (fun r_1 f_2 => (vp_in (0 : Int32) n_p4 ∧ (∀ f_4 : Nat → Int64, f_4 = vp_updL v_p4 (0 : Int32).toNatClampNeg r_1.toInt64 → post (0 : Int32) (f_2, f_4)))) (fun E => (E = "java/lang/IllegalArgumentException" ∧ post (2 : Int32) (v_p0_chances_ways, v_p4)) ∨ (E = "java/lang/IndexOutOfBoundsException" ∧ post (1 : Int32) (v_p0_chances_ways, v_p4))) a_1 a_2 a_3 v_p0_slots_places v_p0_slots_above v_p0_slots_below v_p0_slots_made v_p0_chances_ways
set_option maxHeartbeats 4000000 in
set_option maxRecDepth 100000 in
theorem c_L_odds (l : Launch) (hl9 : l.stackTraces = false) (dC : Nat → ClassId) (dI : Nat → Nat → Nat) (cI cJ cZ : ClassId) (q_p0 q_p0_slots q_p0_slots_places q_p0_slots_above q_p0_slots_below q_p0_chances q_p0_chances_ways q_p4 q_p0_tickets q_p0_requests q_p0_tariff q_p0_doors q_p0_slots_most q_p0_slots_sold : Nat) (n_p4 : Nat) (a_1 : Int32) (a_2 : Int32) (a_3 : Int32) (v_p0_slots_places : Nat → Int32) (v_p0_slots_above : Nat → Int32) (v_p0_slots_below : Nat → Int32) (v_p0_slots_made : Int32) (v_p0_chances_ways : Nat → Int64) (v_p4 : Nat → Int64) (post : Int32 → ((Nat → Int64) × (Nat → Int64)) → Prop) (hw : wp_L_odds post n_p4 a_1 a_2 a_3 v_p0_slots_places v_p0_slots_above v_p0_slots_below v_p0_slots_made v_p0_chances_ways v_p4) : KiW l y_L_odds b_L_odds 6 (some .int) [(0, 12, 15, 21), (0, 12, 19, 15)] ({ frames := 8, cells := 1, slots := 6, locals := 126 } : Room) dC dI cI cJ cZ [.ref q_p0, .int a_1, .int a_2, .int a_3, .ref q_p4] [(q_p0, .inr (0, [.ref q_p0_slots, .ref q_p0_tickets, .ref q_p0_requests, .ref q_p0_chances, .ref q_p0_tariff, .ref q_p0_doors])), (q_p0_slots, .inr (1, [.ref q_p0_slots_places, .ref q_p0_slots_above, .ref q_p0_slots_below, .ref q_p0_slots_most, .ref q_p0_slots_sold, .int v_p0_slots_made])), (q_p0_slots_places, .inl (cI, 8, .inl v_p0_slots_places)), (q_p0_slots_above, .inl (cI, 8, .inl v_p0_slots_above)), (q_p0_slots_below, .inl (cI, 8, .inl v_p0_slots_below)), (q_p0_chances, .inr (4, [.ref q_p0_chances_ways])), (q_p0_chances_ways, .inl (cJ, 115, .inr (.inl v_p0_chances_ways))), (q_p4, .inl (cJ, n_p4, .inr (.inl v_p4)))] post (fun u : (Nat → Int64) × (Nat → Int64) => [(q_p0, .inr (0, [.ref q_p0_slots, .ref q_p0_tickets, .ref q_p0_requests, .ref q_p0_chances, .ref q_p0_tariff, .ref q_p0_doors])), (q_p0_slots, .inr (1, [.ref q_p0_slots_places, .ref q_p0_slots_above, .ref q_p0_slots_below, .ref q_p0_slots_most, .ref q_p0_slots_sold, .int v_p0_slots_made])), (q_p0_slots_places, .inl (cI, 8, .inl v_p0_slots_places)), (q_p0_slots_above, .inl (cI, 8, .inl v_p0_slots_above)), (q_p0_slots_below, .inl (cI, 8, .inl v_p0_slots_below)), (q_p0_chances, .inr (4, [.ref q_p0_chances_ways])), (q_p0_chances_ways, .inl (cJ, 115, .inr (.inl u.1))), (q_p4, .inl (cJ, n_p4, .inr (.inl u.2)))]) := by
  refine mkiW hl9 (own := R_L) rfl (by decide) ?_
  intro p e s m args below meth c A C0 hTab hNc eav hP hD
  have hN : ∀ q ∈ ([] : List Loc), s.heap.size ≤ q.base := fun q h => by cases h
  obtain ⟨-, hx, hb, hml, hr, hown, hts, hlocks, hK, hZ, hA, hNS⟩ := id C0
  subst eav
  have hS : va_S A s.heap s.heap [] := va_S.rf
  have hl := lv_entry ([.ref q_p0, .int a_1, .int a_2, .int a_3, .ref q_p4]) (n := 6) (Nat.le_of_ble_eq_true rfl)
  rw [lg_entry_eq]
  generalize (lg_sl ([.ref q_p0, .int a_1, .int a_2, .int a_3, .ref q_p4]) ++ List.replicate (6 - (lg_sl ([.ref q_p0, .int a_1, .int a_2, .int a_3, .ref q_p4])).length) Slot.unset).toArray = ls at hl ⊢
  have hl : lv_has ls 6 [(0, .ref q_p0), (1, .int a_1), (2, .int a_2), (3, .int a_3), (4, .ref q_p4)] := hl
  unfold wp_L_odds at hw
  refine lv_aload hx hb d_L_odds_0 (lv_at hl 4 rfl) ?_
  refine lv_iconst (v := (0 : Int32)) hx hb d_L_odds_2 (by decide) ?_
  refine lv_aload_n hx hb d_L_odds_3 rfl (lv_at hl 0 rfl) ?_
  refine lv_iload_n hx hb d_L_odds_4 rfl (lv_at hl 1 rfl) ?_
  refine lv_iload_n hx hb d_L_odds_5 rfl (lv_at hl 2 rfl) ?_
  refine lv_iload_n hx hb d_L_odds_6 rfl (lv_at hl 3 rfl) ?_
  refine jx_i C0 hP hD hS [0, 1, 2, 3, 4, 5, 6] [7] (ru_Vx C0 (As := [.int a_1, .int a_2, .int a_3]) (rest := [.int (0 : Int32), .ref q_p4]) (c_X_odds l hl9 dC dI cI cJ cZ q_p0 q_p0_slots q_p0_slots_places q_p0_slots_above q_p0_slots_below q_p0_chances q_p0_chances_ways q_p0_tickets q_p0_requests q_p0_tariff q_p0_doors q_p0_slots_most q_p0_slots_sold a_1 a_2 a_3 v_p0_slots_places v_p0_slots_above v_p0_slots_below v_p0_slots_made v_p0_chances_ways _ _ hw _) k_422 k_423 k_424 k_425 k_86 (n9 := 3) (by decide +kernel) rfl (ci := 0) rfl rfl ⟨Nat.le_of_ble_eq_true rfl, Nat.le_of_ble_eq_true rfl⟩ hP hD hS [0, 1, 2, 3, 4, 5, 6] rfl (by decide) hl.1 rfl (Nat.le_of_ble_eq_true rfl) d_L_odds_7 ⟨Nat.le_of_ble_eq_true rfl, Nat.le_of_ble_eq_true rfl⟩) rfl rfl (by decide) (by decide) (fun E ce q9 H locs hw hP hD hS hce hcv hcl => ?_) (fun r_1 u H locs hw hP hD hS => ?_)
  · rcases hw with ⟨rfl, hw⟩ | ⟨rfl, hw⟩
    · refine xcatch (E := "java/lang/IllegalArgumentException") (name := "java/lang/IllegalArgumentException") C0 [⟨0, 12, 15, 21⟩] ⟨0, 12, 19, 15⟩ [] (by rw [hTab]; rfl) (fun z hz => by
        rcases List.mem_cons.mp hz with rfl | hz
        · exact Or.inr ⟨by decide, "java/lang/IndexOutOfBoundsException", (hts _ k_417), hNc.2.1⟩
        exact nomatch hz) (by decide) (by decide) k_412 (zn hZ zc_IAE) hce hcv hcl ?_
      refine lv_astore (lv' := [(5, .ref q9), (0, .ref q_p0), (1, .int a_1), (2, .int a_2), (3, .int a_3), (4, .ref q_p4)]) hx hb d_L_odds_19 hl (by decide) rfl (fun ls hl => ?_)
      refine lv_iconst (v := (2 : Int32)) hx hb d_L_odds_21 (by decide) ?_
      exact rw_i (u := (v_p0_chances_ways, v_p4)) C0 hw (hP.sub [1, 2, 3, 4, 5, 6, 7, 0] rfl) (hD.sub [1, 2, 3, 4, 5, 6, 7, 0] (by decide) rfl) hS (by decide) (by decide) d_L_odds_22
    · refine xcatch (E := "java/lang/IndexOutOfBoundsException") (name := "java/lang/IndexOutOfBoundsException") C0 [] ⟨0, 12, 15, 21⟩ [⟨0, 12, 19, 15⟩] (by rw [hTab]; rfl) (fun z hz => nomatch hz) (by decide) (by decide) k_417 (zn hZ zc_IOB) hce hcv hcl ?_
      refine lv_astore (lv' := [(5, .ref q9), (0, .ref q_p0), (1, .int a_1), (2, .int a_2), (3, .int a_3), (4, .ref q_p4)]) hx hb d_L_odds_15 hl (by decide) rfl (fun ls hl => ?_)
      refine lv_iconst (v := (1 : Int32)) hx hb d_L_odds_17 (by decide) ?_
      exact rw_i (u := (v_p0_chances_ways, v_p4)) C0 hw (hP.sub [1, 2, 3, 4, 5, 6, 7, 0] rfl) (hD.sub [1, 2, 3, 4, 5, 6, 7, 0] (by decide) rfl) hS (by decide) (by decide) d_L_odds_18
  · obtain ⟨f_2, rfl⟩ : ∃ z9, z9 = u := ⟨_, rfl⟩
    try dsimp only at hw
    have hP : va_P (dC, dI) classes [(q_p4, .inl (cJ, n_p4, .inr (.inl v_p4))), (q_p0, .inr (0, [.ref q_p0_slots, .ref q_p0_tickets, .ref q_p0_requests, .ref q_p0_chances, .ref q_p0_tariff, .ref q_p0_doors])), (q_p0_slots, .inr (1, [.ref q_p0_slots_places, .ref q_p0_slots_above, .ref q_p0_slots_below, .ref q_p0_slots_most, .ref q_p0_slots_sold, .int v_p0_slots_made])), (q_p0_slots_places, .inl (cI, 8, .inl v_p0_slots_places)), (q_p0_slots_above, .inl (cI, 8, .inl v_p0_slots_above)), (q_p0_slots_below, .inl (cI, 8, .inl v_p0_slots_below)), (q_p0_chances, .inr (4, [.ref q_p0_chances_ways])), (q_p0_chances_ways, .inl (cJ, 115, .inr (.inl f_2)))] H := hP
    have hD : va_D A [(q_p4, .inl (cJ, n_p4, .inr (.inl v_p4))), (q_p0, .inr (0, [.ref q_p0_slots, .ref q_p0_tickets, .ref q_p0_requests, .ref q_p0_chances, .ref q_p0_tariff, .ref q_p0_doors])), (q_p0_slots, .inr (1, [.ref q_p0_slots_places, .ref q_p0_slots_above, .ref q_p0_slots_below, .ref q_p0_slots_most, .ref q_p0_slots_sold, .int v_p0_slots_made])), (q_p0_slots_places, .inl (cI, 8, .inl v_p0_slots_places)), (q_p0_slots_above, .inl (cI, 8, .inl v_p0_slots_above)), (q_p0_slots_below, .inl (cI, 8, .inl v_p0_slots_below)), (q_p0_chances, .inr (4, [.ref q_p0_chances_ways])), (q_p0_chances_ways, .inl (cJ, 115, .inr (.inl f_2)))] := hD
    refine lv_i2l hx hb d_L_odds_10 rfl ?_
    obtain ⟨h_3, hw⟩ := hw
    refine va_last hx hb hK hP hD hS 0 1 rfl rfl h_3 d_L_odds_11 (fun H locs hP hD hS => ?_)
    obtain ⟨f_4, ef_4⟩ : ∃ g : Nat → Int64, g = vp_updL v_p4 (0 : Int32).toNatClampNeg r_1.toInt64 := ⟨_, rfl⟩
    have hw := hw f_4 ef_4
    have hP : va_P (dC, dI) classes [(q_p4, .inl (cJ, n_p4, .inr (.inl f_4))), (q_p0, .inr (0, [.ref q_p0_slots, .ref q_p0_tickets, .ref q_p0_requests, .ref q_p0_chances, .ref q_p0_tariff, .ref q_p0_doors])), (q_p0_slots, .inr (1, [.ref q_p0_slots_places, .ref q_p0_slots_above, .ref q_p0_slots_below, .ref q_p0_slots_most, .ref q_p0_slots_sold, .int v_p0_slots_made])), (q_p0_slots_places, .inl (cI, 8, .inl v_p0_slots_places)), (q_p0_slots_above, .inl (cI, 8, .inl v_p0_slots_above)), (q_p0_slots_below, .inl (cI, 8, .inl v_p0_slots_below)), (q_p0_chances, .inr (4, [.ref q_p0_chances_ways])), (q_p0_chances_ways, .inl (cJ, 115, .inr (.inl f_2)))] H := by rw [ef_4]; exact hP
    have hD : va_D A [(q_p4, .inl (cJ, n_p4, .inr (.inl f_4))), (q_p0, .inr (0, [.ref q_p0_slots, .ref q_p0_tickets, .ref q_p0_requests, .ref q_p0_chances, .ref q_p0_tariff, .ref q_p0_doors])), (q_p0_slots, .inr (1, [.ref q_p0_slots_places, .ref q_p0_slots_above, .ref q_p0_slots_below, .ref q_p0_slots_most, .ref q_p0_slots_sold, .int v_p0_slots_made])), (q_p0_slots_places, .inl (cI, 8, .inl v_p0_slots_places)), (q_p0_slots_above, .inl (cI, 8, .inl v_p0_slots_above)), (q_p0_slots_below, .inl (cI, 8, .inl v_p0_slots_below)), (q_p0_chances, .inr (4, [.ref q_p0_chances_ways])), (q_p0_chances_ways, .inl (cJ, 115, .inr (.inl f_2)))] := by rw [ef_4]; exact hD
    refine lv_goto (tgt := 23) hx hb d_L_odds_12 (by decide) ?_
    refine lv_iconst (v := (0 : Int32)) hx hb d_L_odds_23 (by decide) ?_
    exact rw_i (u := (f_2, f_4)) C0 hw (hP.sub [1, 2, 3, 4, 5, 6, 7, 0] rfl) (hD.sub [1, 2, 3, 4, 5, 6, 7, 0] (by decide) rfl) hS (by decide) (by decide) d_L_odds_24
theorem d_L_sell_0 : decode b_L_sell 0 = .ok (.aload 4, 2) := by decide +kernel
theorem d_L_sell_2 : decode b_L_sell 2 = .ok (.iconst 0, 1) := by decide +kernel
theorem d_L_sell_3 : decode b_L_sell 3 = .ok (.aload_n 0, 1) := by decide +kernel
theorem d_L_sell_4 : decode b_L_sell 4 = .ok (.iload_n 1, 1) := by decide +kernel
theorem d_L_sell_5 : decode b_L_sell 5 = .ok (.iload_n 2, 1) := by decide +kernel
theorem d_L_sell_6 : decode b_L_sell 6 = .ok (.iload_n 3, 1) := by decide +kernel
theorem d_L_sell_7 : decode b_L_sell 7 = .ok (.invokevirtual 30, 3) := by decide +kernel
theorem d_L_sell_10 : decode b_L_sell 10 = .ok (.i2l, 1) := by decide +kernel
theorem d_L_sell_11 : decode b_L_sell 11 = .ok (.lastore, 1) := by decide +kernel
theorem d_L_sell_12 : decode b_L_sell 12 = .ok (.goto 15, 3) := by decide +kernel
theorem d_L_sell_15 : decode b_L_sell 15 = .ok (.astore 5, 2) := by decide +kernel
theorem d_L_sell_17 : decode b_L_sell 17 = .ok (.iconst 1, 1) := by decide +kernel
theorem d_L_sell_18 : decode b_L_sell 18 = .ok (.ireturn, 1) := by decide +kernel
theorem d_L_sell_19 : decode b_L_sell 19 = .ok (.astore 5, 2) := by decide +kernel
theorem d_L_sell_21 : decode b_L_sell 21 = .ok (.iconst 2, 1) := by decide +kernel
theorem d_L_sell_22 : decode b_L_sell 22 = .ok (.ireturn, 1) := by decide +kernel
theorem d_L_sell_23 : decode b_L_sell 23 = .ok (.astore 5, 2) := by decide +kernel
theorem d_L_sell_25 : decode b_L_sell 25 = .ok (.iconst 3, 1) := by decide +kernel
theorem d_L_sell_26 : decode b_L_sell 26 = .ok (.ireturn, 1) := by decide +kernel
theorem d_L_sell_27 : decode b_L_sell 27 = .ok (.iconst 0, 1) := by decide +kernel
theorem d_L_sell_28 : decode b_L_sell 28 = .ok (.ireturn, 1) := by decide +kernel
def wp_L_sell (post : Int32 → ((Nat → Int32) × (Nat → Int32) × (Nat → Int32) × (Nat → Int32) × (Int32) × (Nat → Int64)) → Prop) (n_p4 : Nat) (a_1 : Int32) (a_2 : Int32) (a_3 : Int32) (v_p0_slots_most : Nat → Int32) (v_p0_slots_sold : Nat → Int32) (v_p0_slots_made : Int32) (v_p0_tickets_slot : Nat → Int32) (v_p0_tickets_guests : Nat → Int32) (v_p0_tickets_kind : Nat → Int32) (v_p0_tickets_made : Int32) (v_p4 : Nat → Int64) : Prop := wp_X_sell (fun r_1 u => match u with | (f_2, f_3, f_4, f_5, x_6) => (vp_in (0 : Int32) n_p4 ∧ (∀ f_8 : Nat → Int64, f_8 = vp_updL v_p4 (0 : Int32).toNatClampNeg r_1.toInt64 → post (0 : Int32) (f_2, f_3, f_4, f_5, x_6, f_8)))) (fun E => (E = "java/lang/IllegalArgumentException" ∧ post (3 : Int32) (v_p0_slots_sold, v_p0_tickets_slot, v_p0_tickets_guests, v_p0_tickets_kind, v_p0_tickets_made, v_p4)) ∨ (E = "java/lang/IllegalStateException" ∧ post (2 : Int32) (v_p0_slots_sold, v_p0_tickets_slot, v_p0_tickets_guests, v_p0_tickets_kind, v_p0_tickets_made, v_p4)) ∨ (E = "java/lang/IndexOutOfBoundsException" ∧ post (1 : Int32) (v_p0_slots_sold, v_p0_tickets_slot, v_p0_tickets_guests, v_p0_tickets_kind, v_p0_tickets_made, v_p4))) a_1 a_2 a_3 v_p0_slots_most v_p0_slots_sold v_p0_slots_made v_p0_tickets_slot v_p0_tickets_guests v_p0_tickets_kind v_p0_tickets_made
set_option maxHeartbeats 4000000 in
set_option maxRecDepth 100000 in
theorem c_L_sell (l : Launch) (hl9 : l.stackTraces = false) (dC : Nat → ClassId) (dI : Nat → Nat → Nat) (cI cJ cZ : ClassId) (q_p0 q_p0_slots q_p0_slots_most q_p0_slots_sold q_p0_tickets q_p0_tickets_slot q_p0_tickets_guests q_p0_tickets_kind q_p4 q_p0_requests q_p0_chances q_p0_tariff q_p0_doors q_p0_slots_places q_p0_slots_above q_p0_slots_below q_p0_tickets_returned : Nat) (n_p4 : Nat) (a_1 : Int32) (a_2 : Int32) (a_3 : Int32) (v_p0_slots_most : Nat → Int32) (v_p0_slots_sold : Nat → Int32) (v_p0_slots_made : Int32) (v_p0_tickets_slot : Nat → Int32) (v_p0_tickets_guests : Nat → Int32) (v_p0_tickets_kind : Nat → Int32) (v_p0_tickets_made : Int32) (v_p4 : Nat → Int64) (post : Int32 → ((Nat → Int32) × (Nat → Int32) × (Nat → Int32) × (Nat → Int32) × (Int32) × (Nat → Int64)) → Prop) (hw : wp_L_sell post n_p4 a_1 a_2 a_3 v_p0_slots_most v_p0_slots_sold v_p0_slots_made v_p0_tickets_slot v_p0_tickets_guests v_p0_tickets_kind v_p0_tickets_made v_p4) : KiW l y_L_sell b_L_sell 6 (some .int) [(0, 12, 15, 21), (0, 12, 19, 13), (0, 12, 23, 15)] ({ frames := 8, cells := 1, slots := 6, locals := 126 } : Room) dC dI cI cJ cZ [.ref q_p0, .int a_1, .int a_2, .int a_3, .ref q_p4] [(q_p0, .inr (0, [.ref q_p0_slots, .ref q_p0_tickets, .ref q_p0_requests, .ref q_p0_chances, .ref q_p0_tariff, .ref q_p0_doors])), (q_p0_slots, .inr (1, [.ref q_p0_slots_places, .ref q_p0_slots_above, .ref q_p0_slots_below, .ref q_p0_slots_most, .ref q_p0_slots_sold, .int v_p0_slots_made])), (q_p0_slots_most, .inl (cI, 8, .inl v_p0_slots_most)), (q_p0_slots_sold, .inl (cI, 8, .inl v_p0_slots_sold)), (q_p0_tickets, .inr (2, [.ref q_p0_tickets_slot, .ref q_p0_tickets_guests, .ref q_p0_tickets_kind, .ref q_p0_tickets_returned, .int v_p0_tickets_made])), (q_p0_tickets_slot, .inl (cI, 60, .inl v_p0_tickets_slot)), (q_p0_tickets_guests, .inl (cI, 60, .inl v_p0_tickets_guests)), (q_p0_tickets_kind, .inl (cI, 60, .inl v_p0_tickets_kind)), (q_p4, .inl (cJ, n_p4, .inr (.inl v_p4)))] post (fun u : (Nat → Int32) × (Nat → Int32) × (Nat → Int32) × (Nat → Int32) × (Int32) × (Nat → Int64) => [(q_p0, .inr (0, [.ref q_p0_slots, .ref q_p0_tickets, .ref q_p0_requests, .ref q_p0_chances, .ref q_p0_tariff, .ref q_p0_doors])), (q_p0_slots, .inr (1, [.ref q_p0_slots_places, .ref q_p0_slots_above, .ref q_p0_slots_below, .ref q_p0_slots_most, .ref q_p0_slots_sold, .int v_p0_slots_made])), (q_p0_slots_most, .inl (cI, 8, .inl v_p0_slots_most)), (q_p0_slots_sold, .inl (cI, 8, .inl u.1)), (q_p0_tickets, .inr (2, [.ref q_p0_tickets_slot, .ref q_p0_tickets_guests, .ref q_p0_tickets_kind, .ref q_p0_tickets_returned, .int u.2.2.2.2.1])), (q_p0_tickets_slot, .inl (cI, 60, .inl u.2.1)), (q_p0_tickets_guests, .inl (cI, 60, .inl u.2.2.1)), (q_p0_tickets_kind, .inl (cI, 60, .inl u.2.2.2.1)), (q_p4, .inl (cJ, n_p4, .inr (.inl u.2.2.2.2.2)))]) := by
  refine mkiW hl9 (own := R_L) rfl (by decide) ?_
  intro p e s m args below meth c A C0 hTab hNc eav hP hD
  have hN : ∀ q ∈ ([] : List Loc), s.heap.size ≤ q.base := fun q h => by cases h
  obtain ⟨-, hx, hb, hml, hr, hown, hts, hlocks, hK, hZ, hA, hNS⟩ := id C0
  subst eav
  have hS : va_S A s.heap s.heap [] := va_S.rf
  have hl := lv_entry ([.ref q_p0, .int a_1, .int a_2, .int a_3, .ref q_p4]) (n := 6) (Nat.le_of_ble_eq_true rfl)
  rw [lg_entry_eq]
  generalize (lg_sl ([.ref q_p0, .int a_1, .int a_2, .int a_3, .ref q_p4]) ++ List.replicate (6 - (lg_sl ([.ref q_p0, .int a_1, .int a_2, .int a_3, .ref q_p4])).length) Slot.unset).toArray = ls at hl ⊢
  have hl : lv_has ls 6 [(0, .ref q_p0), (1, .int a_1), (2, .int a_2), (3, .int a_3), (4, .ref q_p4)] := hl
  unfold wp_L_sell at hw
  refine lv_aload hx hb d_L_sell_0 (lv_at hl 4 rfl) ?_
  refine lv_iconst (v := (0 : Int32)) hx hb d_L_sell_2 (by decide) ?_
  refine lv_aload_n hx hb d_L_sell_3 rfl (lv_at hl 0 rfl) ?_
  refine lv_iload_n hx hb d_L_sell_4 rfl (lv_at hl 1 rfl) ?_
  refine lv_iload_n hx hb d_L_sell_5 rfl (lv_at hl 2 rfl) ?_
  refine lv_iload_n hx hb d_L_sell_6 rfl (lv_at hl 3 rfl) ?_
  refine jx_i C0 hP hD hS [0, 1, 2, 3, 4, 5, 6, 7] [8] (ru_Vx C0 (As := [.int a_1, .int a_2, .int a_3]) (rest := [.int (0 : Int32), .ref q_p4]) (c_X_sell l hl9 dC dI cI cJ cZ q_p0 q_p0_slots q_p0_slots_most q_p0_slots_sold q_p0_tickets q_p0_tickets_slot q_p0_tickets_guests q_p0_tickets_kind q_p0_requests q_p0_chances q_p0_tariff q_p0_doors q_p0_slots_places q_p0_slots_above q_p0_slots_below q_p0_tickets_returned a_1 a_2 a_3 v_p0_slots_most v_p0_slots_sold v_p0_slots_made v_p0_tickets_slot v_p0_tickets_guests v_p0_tickets_kind v_p0_tickets_made _ _ hw _) k_426 k_427 k_428 k_429 k_86 (n9 := 3) (by decide +kernel) rfl (ci := 0) rfl rfl ⟨Nat.le_of_ble_eq_true rfl, Nat.le_of_ble_eq_true rfl⟩ hP hD hS [0, 1, 2, 3, 4, 5, 6, 7] rfl (by decide) hl.1 rfl (Nat.le_of_ble_eq_true rfl) d_L_sell_7 ⟨Nat.le_of_ble_eq_true rfl, Nat.le_of_ble_eq_true rfl⟩) rfl rfl (by decide) (by decide) (fun E ce q9 H locs hw hP hD hS hce hcv hcl => ?_) (fun r_1 u H locs hw hP hD hS => ?_)
  · rcases hw with ⟨rfl, hw⟩ | ⟨rfl, hw⟩ | ⟨rfl, hw⟩
    · refine xcatch (E := "java/lang/IllegalArgumentException") (name := "java/lang/IllegalArgumentException") C0 [⟨0, 12, 15, 21⟩, ⟨0, 12, 19, 13⟩] ⟨0, 12, 23, 15⟩ [] (by rw [hTab]; rfl) (fun z hz => by
        rcases List.mem_cons.mp hz with rfl | hz
        · exact Or.inr ⟨by decide, "java/lang/IndexOutOfBoundsException", (hts _ k_417), hNc.2.1⟩
        rcases List.mem_cons.mp hz with rfl | hz
        · exact Or.inr ⟨by decide, "java/lang/IllegalStateException", (hts _ k_411), hNc.1⟩
        exact nomatch hz) (by decide) (by decide) k_412 (zn hZ zc_IAE) hce hcv hcl ?_
      refine lv_astore (lv' := [(5, .ref q9), (0, .ref q_p0), (1, .int a_1), (2, .int a_2), (3, .int a_3), (4, .ref q_p4)]) hx hb d_L_sell_23 hl (by decide) rfl (fun ls hl => ?_)
      refine lv_iconst (v := (3 : Int32)) hx hb d_L_sell_25 (by decide) ?_
      exact rw_i (u := (v_p0_slots_sold, v_p0_tickets_slot, v_p0_tickets_guests, v_p0_tickets_kind, v_p0_tickets_made, v_p4)) C0 hw (hP.sub [1, 2, 3, 4, 5, 6, 7, 8, 0] rfl) (hD.sub [1, 2, 3, 4, 5, 6, 7, 8, 0] (by decide) rfl) hS (by decide) (by decide) d_L_sell_26
    · refine xcatch (E := "java/lang/IllegalStateException") (name := "java/lang/IllegalStateException") C0 [⟨0, 12, 15, 21⟩] ⟨0, 12, 19, 13⟩ [⟨0, 12, 23, 15⟩] (by rw [hTab]; rfl) (fun z hz => by
        rcases List.mem_cons.mp hz with rfl | hz
        · exact Or.inr ⟨by decide, "java/lang/IndexOutOfBoundsException", (hts _ k_417), hNc.2.2⟩
        exact nomatch hz) (by decide) (by decide) k_411 (zn hZ zc_ISE) hce hcv hcl ?_
      refine lv_astore (lv' := [(5, .ref q9), (0, .ref q_p0), (1, .int a_1), (2, .int a_2), (3, .int a_3), (4, .ref q_p4)]) hx hb d_L_sell_19 hl (by decide) rfl (fun ls hl => ?_)
      refine lv_iconst (v := (2 : Int32)) hx hb d_L_sell_21 (by decide) ?_
      exact rw_i (u := (v_p0_slots_sold, v_p0_tickets_slot, v_p0_tickets_guests, v_p0_tickets_kind, v_p0_tickets_made, v_p4)) C0 hw (hP.sub [1, 2, 3, 4, 5, 6, 7, 8, 0] rfl) (hD.sub [1, 2, 3, 4, 5, 6, 7, 8, 0] (by decide) rfl) hS (by decide) (by decide) d_L_sell_22
    · refine xcatch (E := "java/lang/IndexOutOfBoundsException") (name := "java/lang/IndexOutOfBoundsException") C0 [] ⟨0, 12, 15, 21⟩ [⟨0, 12, 19, 13⟩, ⟨0, 12, 23, 15⟩] (by rw [hTab]; rfl) (fun z hz => nomatch hz) (by decide) (by decide) k_417 (zn hZ zc_IOB) hce hcv hcl ?_
      refine lv_astore (lv' := [(5, .ref q9), (0, .ref q_p0), (1, .int a_1), (2, .int a_2), (3, .int a_3), (4, .ref q_p4)]) hx hb d_L_sell_15 hl (by decide) rfl (fun ls hl => ?_)
      refine lv_iconst (v := (1 : Int32)) hx hb d_L_sell_17 (by decide) ?_
      exact rw_i (u := (v_p0_slots_sold, v_p0_tickets_slot, v_p0_tickets_guests, v_p0_tickets_kind, v_p0_tickets_made, v_p4)) C0 hw (hP.sub [1, 2, 3, 4, 5, 6, 7, 8, 0] rfl) (hD.sub [1, 2, 3, 4, 5, 6, 7, 8, 0] (by decide) rfl) hS (by decide) (by decide) d_L_sell_18
  · obtain ⟨f_2, f_3, f_4, f_5, x_6⟩ := u
    try dsimp only at hw
    have hP : va_P (dC, dI) classes [(q_p4, .inl (cJ, n_p4, .inr (.inl v_p4))), (q_p0, .inr (0, [.ref q_p0_slots, .ref q_p0_tickets, .ref q_p0_requests, .ref q_p0_chances, .ref q_p0_tariff, .ref q_p0_doors])), (q_p0_slots, .inr (1, [.ref q_p0_slots_places, .ref q_p0_slots_above, .ref q_p0_slots_below, .ref q_p0_slots_most, .ref q_p0_slots_sold, .int v_p0_slots_made])), (q_p0_slots_most, .inl (cI, 8, .inl v_p0_slots_most)), (q_p0_slots_sold, .inl (cI, 8, .inl f_2)), (q_p0_tickets, .inr (2, [.ref q_p0_tickets_slot, .ref q_p0_tickets_guests, .ref q_p0_tickets_kind, .ref q_p0_tickets_returned, .int x_6])), (q_p0_tickets_slot, .inl (cI, 60, .inl f_3)), (q_p0_tickets_guests, .inl (cI, 60, .inl f_4)), (q_p0_tickets_kind, .inl (cI, 60, .inl f_5))] H := hP
    have hD : va_D A [(q_p4, .inl (cJ, n_p4, .inr (.inl v_p4))), (q_p0, .inr (0, [.ref q_p0_slots, .ref q_p0_tickets, .ref q_p0_requests, .ref q_p0_chances, .ref q_p0_tariff, .ref q_p0_doors])), (q_p0_slots, .inr (1, [.ref q_p0_slots_places, .ref q_p0_slots_above, .ref q_p0_slots_below, .ref q_p0_slots_most, .ref q_p0_slots_sold, .int v_p0_slots_made])), (q_p0_slots_most, .inl (cI, 8, .inl v_p0_slots_most)), (q_p0_slots_sold, .inl (cI, 8, .inl f_2)), (q_p0_tickets, .inr (2, [.ref q_p0_tickets_slot, .ref q_p0_tickets_guests, .ref q_p0_tickets_kind, .ref q_p0_tickets_returned, .int x_6])), (q_p0_tickets_slot, .inl (cI, 60, .inl f_3)), (q_p0_tickets_guests, .inl (cI, 60, .inl f_4)), (q_p0_tickets_kind, .inl (cI, 60, .inl f_5))] := hD
    refine lv_i2l hx hb d_L_sell_10 rfl ?_
    obtain ⟨h_7, hw⟩ := hw
    refine va_last hx hb hK hP hD hS 0 1 rfl rfl h_7 d_L_sell_11 (fun H locs hP hD hS => ?_)
    obtain ⟨f_8, ef_8⟩ : ∃ g : Nat → Int64, g = vp_updL v_p4 (0 : Int32).toNatClampNeg r_1.toInt64 := ⟨_, rfl⟩
    have hw := hw f_8 ef_8
    have hP : va_P (dC, dI) classes [(q_p4, .inl (cJ, n_p4, .inr (.inl f_8))), (q_p0, .inr (0, [.ref q_p0_slots, .ref q_p0_tickets, .ref q_p0_requests, .ref q_p0_chances, .ref q_p0_tariff, .ref q_p0_doors])), (q_p0_slots, .inr (1, [.ref q_p0_slots_places, .ref q_p0_slots_above, .ref q_p0_slots_below, .ref q_p0_slots_most, .ref q_p0_slots_sold, .int v_p0_slots_made])), (q_p0_slots_most, .inl (cI, 8, .inl v_p0_slots_most)), (q_p0_slots_sold, .inl (cI, 8, .inl f_2)), (q_p0_tickets, .inr (2, [.ref q_p0_tickets_slot, .ref q_p0_tickets_guests, .ref q_p0_tickets_kind, .ref q_p0_tickets_returned, .int x_6])), (q_p0_tickets_slot, .inl (cI, 60, .inl f_3)), (q_p0_tickets_guests, .inl (cI, 60, .inl f_4)), (q_p0_tickets_kind, .inl (cI, 60, .inl f_5))] H := by rw [ef_8]; exact hP
    have hD : va_D A [(q_p4, .inl (cJ, n_p4, .inr (.inl f_8))), (q_p0, .inr (0, [.ref q_p0_slots, .ref q_p0_tickets, .ref q_p0_requests, .ref q_p0_chances, .ref q_p0_tariff, .ref q_p0_doors])), (q_p0_slots, .inr (1, [.ref q_p0_slots_places, .ref q_p0_slots_above, .ref q_p0_slots_below, .ref q_p0_slots_most, .ref q_p0_slots_sold, .int v_p0_slots_made])), (q_p0_slots_most, .inl (cI, 8, .inl v_p0_slots_most)), (q_p0_slots_sold, .inl (cI, 8, .inl f_2)), (q_p0_tickets, .inr (2, [.ref q_p0_tickets_slot, .ref q_p0_tickets_guests, .ref q_p0_tickets_kind, .ref q_p0_tickets_returned, .int x_6])), (q_p0_tickets_slot, .inl (cI, 60, .inl f_3)), (q_p0_tickets_guests, .inl (cI, 60, .inl f_4)), (q_p0_tickets_kind, .inl (cI, 60, .inl f_5))] := by rw [ef_8]; exact hD
    refine lv_goto (tgt := 27) hx hb d_L_sell_12 (by decide) ?_
    refine lv_iconst (v := (0 : Int32)) hx hb d_L_sell_27 (by decide) ?_
    exact rw_i (u := (f_2, f_3, f_4, f_5, x_6, f_8)) C0 hw (hP.sub [1, 2, 3, 4, 5, 6, 7, 8, 0] rfl) (hD.sub [1, 2, 3, 4, 5, 6, 7, 8, 0] (by decide) rfl) hS (by decide) (by decide) d_L_sell_28
theorem d_L_back_0 : decode b_L_back 0 = .ok (.aload_n 2, 1) := by decide +kernel
theorem d_L_back_1 : decode b_L_back 1 = .ok (.iconst 0, 1) := by decide +kernel
theorem d_L_back_2 : decode b_L_back 2 = .ok (.aload_n 0, 1) := by decide +kernel
theorem d_L_back_3 : decode b_L_back 3 = .ok (.iload_n 1, 1) := by decide +kernel
theorem d_L_back_4 : decode b_L_back 4 = .ok (.invokevirtual 33, 3) := by decide +kernel
theorem d_L_back_7 : decode b_L_back 7 = .ok (.i2l, 1) := by decide +kernel
theorem d_L_back_8 : decode b_L_back 8 = .ok (.lastore, 1) := by decide +kernel
theorem d_L_back_9 : decode b_L_back 9 = .ok (.goto 6, 3) := by decide +kernel
theorem d_L_back_12 : decode b_L_back 12 = .ok (.astore_n 3, 1) := by decide +kernel
theorem d_L_back_13 : decode b_L_back 13 = .ok (.iconst 1, 1) := by decide +kernel
theorem d_L_back_14 : decode b_L_back 14 = .ok (.ireturn, 1) := by decide +kernel
theorem d_L_back_15 : decode b_L_back 15 = .ok (.iconst 0, 1) := by decide +kernel
theorem d_L_back_16 : decode b_L_back 16 = .ok (.ireturn, 1) := by decide +kernel
def wp_L_back (post : Int32 → ((Nat → Int32) × (Nat → Int32) × (Nat → Int32) × (Nat → Int32) × (Nat → Int32) × (Int32) × (Nat → Int32) × (Int32) × (Nat → Int64)) → Prop) (n_p2 : Nat) (a_1 : Int32) (v_p0_slots_most : Nat → Int32) (v_p0_slots_sold : Nat → Int32) (v_p0_tickets_slot : Nat → Int32) (v_p0_tickets_guests : Nat → Int32) (v_p0_tickets_kind : Nat → Int32) (v_p0_tickets_returned : Nat → Int32) (v_p0_tickets_made : Int32) (v_p0_requests_slot : Nat → Int32) (v_p0_requests_guests : Nat → Int32) (v_p0_requests_kind : Nat → Int32) (v_p0_requests_ticket : Nat → Int32) (v_p0_requests_made : Int32) (v_p0_requests_served : Int32) (v_p0_doors_seconds : Nat → Int32) (v_p2 : Nat → Int64) : Prop := wp_X_back (fun r_1 u => match u with | (f_2, f_3, f_4, f_5, f_6, x_7, f_8, x_9) => (vp_in (0 : Int32) n_p2 ∧ (∀ f_11 : Nat → Int64, f_11 = vp_updL v_p2 (0 : Int32).toNatClampNeg r_1.toInt64 → post (0 : Int32) (f_2, f_3, f_4, f_5, f_6, x_7, f_8, x_9, f_11)))) (fun E => (E = "java/lang/IndexOutOfBoundsException" ∧ post (1 : Int32) (v_p0_slots_sold, v_p0_tickets_slot, v_p0_tickets_guests, v_p0_tickets_kind, v_p0_tickets_returned, v_p0_tickets_made, v_p0_requests_ticket, v_p0_requests_served, v_p2))) a_1 v_p0_slots_most v_p0_slots_sold v_p0_tickets_slot v_p0_tickets_guests v_p0_tickets_kind v_p0_tickets_returned v_p0_tickets_made v_p0_requests_slot v_p0_requests_guests v_p0_requests_kind v_p0_requests_ticket v_p0_requests_made v_p0_requests_served v_p0_doors_seconds
set_option maxHeartbeats 4000000 in
set_option maxRecDepth 100000 in
theorem c_L_back (l : Launch) (hl9 : l.stackTraces = false) (dC : Nat → ClassId) (dI : Nat → Nat → Nat) (cI cJ cZ : ClassId) (q_p0 q_p0_slots q_p0_slots_most q_p0_slots_sold q_p0_tickets q_p0_tickets_slot q_p0_tickets_guests q_p0_tickets_kind q_p0_tickets_returned q_p0_requests q_p0_requests_slot q_p0_requests_guests q_p0_requests_kind q_p0_requests_ticket q_p0_doors q_p0_doors_seconds q_p2 q_p0_chances q_p0_tariff q_p0_slots_places q_p0_slots_above q_p0_slots_below q_p0_doors_order q_p0_doors_firstIn q_p0_doors_doubles q_p0_doors_goneOut : Nat) (n_p2 : Nat) (a_1 : Int32) (v_p0_slots_most : Nat → Int32) (v_p0_slots_sold : Nat → Int32) (v_p0_slots_made : Int32) (v_p0_tickets_slot : Nat → Int32) (v_p0_tickets_guests : Nat → Int32) (v_p0_tickets_kind : Nat → Int32) (v_p0_tickets_returned : Nat → Int32) (v_p0_tickets_made : Int32) (v_p0_requests_slot : Nat → Int32) (v_p0_requests_guests : Nat → Int32) (v_p0_requests_kind : Nat → Int32) (v_p0_requests_ticket : Nat → Int32) (v_p0_requests_made : Int32) (v_p0_requests_served : Int32) (v_p0_doors_seconds : Nat → Int32) (v_p0_doors_found : Int32) (v_p2 : Nat → Int64) (post : Int32 → ((Nat → Int32) × (Nat → Int32) × (Nat → Int32) × (Nat → Int32) × (Nat → Int32) × (Int32) × (Nat → Int32) × (Int32) × (Nat → Int64)) → Prop) (hw : wp_L_back post n_p2 a_1 v_p0_slots_most v_p0_slots_sold v_p0_tickets_slot v_p0_tickets_guests v_p0_tickets_kind v_p0_tickets_returned v_p0_tickets_made v_p0_requests_slot v_p0_requests_guests v_p0_requests_kind v_p0_requests_ticket v_p0_requests_made v_p0_requests_served v_p0_doors_seconds v_p2) : KiW l y_L_back b_L_back 4 (some .int) [(0, 9, 12, 21)] ({ frames := 8, cells := 1, slots := 6, locals := 125 } : Room) dC dI cI cJ cZ [.ref q_p0, .int a_1, .ref q_p2] [(q_p0, .inr (0, [.ref q_p0_slots, .ref q_p0_tickets, .ref q_p0_requests, .ref q_p0_chances, .ref q_p0_tariff, .ref q_p0_doors])), (q_p0_slots, .inr (1, [.ref q_p0_slots_places, .ref q_p0_slots_above, .ref q_p0_slots_below, .ref q_p0_slots_most, .ref q_p0_slots_sold, .int v_p0_slots_made])), (q_p0_slots_most, .inl (cI, 8, .inl v_p0_slots_most)), (q_p0_slots_sold, .inl (cI, 8, .inl v_p0_slots_sold)), (q_p0_tickets, .inr (2, [.ref q_p0_tickets_slot, .ref q_p0_tickets_guests, .ref q_p0_tickets_kind, .ref q_p0_tickets_returned, .int v_p0_tickets_made])), (q_p0_tickets_slot, .inl (cI, 60, .inl v_p0_tickets_slot)), (q_p0_tickets_guests, .inl (cI, 60, .inl v_p0_tickets_guests)), (q_p0_tickets_kind, .inl (cI, 60, .inl v_p0_tickets_kind)), (q_p0_tickets_returned, .inl (cZ, 60, .inl v_p0_tickets_returned)), (q_p0_requests, .inr (3, [.ref q_p0_requests_slot, .ref q_p0_requests_guests, .ref q_p0_requests_kind, .ref q_p0_requests_ticket, .int v_p0_requests_made, .int v_p0_requests_served])), (q_p0_requests_slot, .inl (cI, 30, .inl v_p0_requests_slot)), (q_p0_requests_guests, .inl (cI, 30, .inl v_p0_requests_guests)), (q_p0_requests_kind, .inl (cI, 30, .inl v_p0_requests_kind)), (q_p0_requests_ticket, .inl (cI, 30, .inl v_p0_requests_ticket)), (q_p0_doors, .inr (6, [.ref q_p0_doors_seconds, .ref q_p0_doors_order, .ref q_p0_doors_firstIn, .ref q_p0_doors_doubles, .int v_p0_doors_found, .ref q_p0_doors_goneOut])), (q_p0_doors_seconds, .inl (cI, 360, .inl v_p0_doors_seconds)), (q_p2, .inl (cJ, n_p2, .inr (.inl v_p2)))] post (fun u : (Nat → Int32) × (Nat → Int32) × (Nat → Int32) × (Nat → Int32) × (Nat → Int32) × (Int32) × (Nat → Int32) × (Int32) × (Nat → Int64) => [(q_p0, .inr (0, [.ref q_p0_slots, .ref q_p0_tickets, .ref q_p0_requests, .ref q_p0_chances, .ref q_p0_tariff, .ref q_p0_doors])), (q_p0_slots, .inr (1, [.ref q_p0_slots_places, .ref q_p0_slots_above, .ref q_p0_slots_below, .ref q_p0_slots_most, .ref q_p0_slots_sold, .int v_p0_slots_made])), (q_p0_slots_most, .inl (cI, 8, .inl v_p0_slots_most)), (q_p0_slots_sold, .inl (cI, 8, .inl u.1)), (q_p0_tickets, .inr (2, [.ref q_p0_tickets_slot, .ref q_p0_tickets_guests, .ref q_p0_tickets_kind, .ref q_p0_tickets_returned, .int u.2.2.2.2.2.1])), (q_p0_tickets_slot, .inl (cI, 60, .inl u.2.1)), (q_p0_tickets_guests, .inl (cI, 60, .inl u.2.2.1)), (q_p0_tickets_kind, .inl (cI, 60, .inl u.2.2.2.1)), (q_p0_tickets_returned, .inl (cZ, 60, .inl u.2.2.2.2.1)), (q_p0_requests, .inr (3, [.ref q_p0_requests_slot, .ref q_p0_requests_guests, .ref q_p0_requests_kind, .ref q_p0_requests_ticket, .int v_p0_requests_made, .int u.2.2.2.2.2.2.2.1])), (q_p0_requests_slot, .inl (cI, 30, .inl v_p0_requests_slot)), (q_p0_requests_guests, .inl (cI, 30, .inl v_p0_requests_guests)), (q_p0_requests_kind, .inl (cI, 30, .inl v_p0_requests_kind)), (q_p0_requests_ticket, .inl (cI, 30, .inl u.2.2.2.2.2.2.1)), (q_p0_doors, .inr (6, [.ref q_p0_doors_seconds, .ref q_p0_doors_order, .ref q_p0_doors_firstIn, .ref q_p0_doors_doubles, .int v_p0_doors_found, .ref q_p0_doors_goneOut])), (q_p0_doors_seconds, .inl (cI, 360, .inl v_p0_doors_seconds)), (q_p2, .inl (cJ, n_p2, .inr (.inl u.2.2.2.2.2.2.2.2)))]) := by
  refine mkiW hl9 (own := R_L) rfl (by decide) ?_
  intro p e s m args below meth c A C0 hTab hNc eav hP hD
  have hN : ∀ q ∈ ([] : List Loc), s.heap.size ≤ q.base := fun q h => by cases h
  obtain ⟨-, hx, hb, hml, hr, hown, hts, hlocks, hK, hZ, hA, hNS⟩ := id C0
  subst eav
  have hS : va_S A s.heap s.heap [] := va_S.rf
  have hl := lv_entry ([.ref q_p0, .int a_1, .ref q_p2]) (n := 4) (Nat.le_of_ble_eq_true rfl)
  rw [lg_entry_eq]
  generalize (lg_sl ([.ref q_p0, .int a_1, .ref q_p2]) ++ List.replicate (4 - (lg_sl ([.ref q_p0, .int a_1, .ref q_p2])).length) Slot.unset).toArray = ls at hl ⊢
  have hl : lv_has ls 4 [(0, .ref q_p0), (1, .int a_1), (2, .ref q_p2)] := hl
  unfold wp_L_back at hw
  refine lv_aload_n hx hb d_L_back_0 rfl (lv_at hl 2 rfl) ?_
  refine lv_iconst (v := (0 : Int32)) hx hb d_L_back_1 (by decide) ?_
  refine lv_aload_n hx hb d_L_back_2 rfl (lv_at hl 0 rfl) ?_
  refine lv_iload_n hx hb d_L_back_3 rfl (lv_at hl 1 rfl) ?_
  refine jx_i C0 hP hD hS [0, 1, 2, 3, 4, 5, 6, 7, 8, 9, 10, 11, 12, 13, 14, 15] [16] (ru_Vx C0 (As := [.int a_1]) (rest := [.int (0 : Int32), .ref q_p2]) (c_X_back l hl9 dC dI cI cJ cZ q_p0 q_p0_slots q_p0_slots_most q_p0_slots_sold q_p0_tickets q_p0_tickets_slot q_p0_tickets_guests q_p0_tickets_kind q_p0_tickets_returned q_p0_requests q_p0_requests_slot q_p0_requests_guests q_p0_requests_kind q_p0_requests_ticket q_p0_doors q_p0_doors_seconds q_p0_chances q_p0_tariff q_p0_slots_places q_p0_slots_above q_p0_slots_below q_p0_doors_order q_p0_doors_firstIn q_p0_doors_doubles q_p0_doors_goneOut a_1 v_p0_slots_most v_p0_slots_sold v_p0_slots_made v_p0_tickets_slot v_p0_tickets_guests v_p0_tickets_kind v_p0_tickets_returned v_p0_tickets_made v_p0_requests_slot v_p0_requests_guests v_p0_requests_kind v_p0_requests_ticket v_p0_requests_made v_p0_requests_served v_p0_doors_seconds v_p0_doors_found _ _ hw _) k_430 k_431 k_432 k_433 k_86 (n9 := 1) (by decide +kernel) rfl (ci := 0) rfl rfl ⟨Nat.le_of_ble_eq_true rfl, Nat.le_of_ble_eq_true rfl⟩ hP hD hS [0, 1, 2, 3, 4, 5, 6, 7, 8, 9, 10, 11, 12, 13, 14, 15] rfl (by decide) hl.1 rfl (Nat.le_of_ble_eq_true rfl) d_L_back_4 ⟨Nat.le_of_ble_eq_true rfl, Nat.le_of_ble_eq_true rfl⟩) rfl rfl (by decide) (by decide) (fun E ce q9 H locs hw hP hD hS hce hcv hcl => ?_) (fun r_1 u H locs hw hP hD hS => ?_)
  · obtain ⟨rfl, hw⟩ := hw
    refine xcatch (E := "java/lang/IndexOutOfBoundsException") (name := "java/lang/IndexOutOfBoundsException") C0 [] ⟨0, 9, 12, 21⟩ [] (by rw [hTab]; rfl) (fun z hz => nomatch hz) (by decide) (by decide) k_417 (zn hZ zc_IOB) hce hcv hcl ?_
    refine lv_astore_n (lv' := [(3, .ref q9), (0, .ref q_p0), (1, .int a_1), (2, .ref q_p2)]) hx hb d_L_back_12 rfl hl (by decide) rfl (fun ls hl => ?_)
    refine lv_iconst (v := (1 : Int32)) hx hb d_L_back_13 (by decide) ?_
    exact rw_i (u := (v_p0_slots_sold, v_p0_tickets_slot, v_p0_tickets_guests, v_p0_tickets_kind, v_p0_tickets_returned, v_p0_tickets_made, v_p0_requests_ticket, v_p0_requests_served, v_p2)) C0 hw (hP.sub [1, 2, 3, 4, 5, 6, 7, 8, 9, 10, 11, 12, 13, 14, 15, 16, 0] rfl) (hD.sub [1, 2, 3, 4, 5, 6, 7, 8, 9, 10, 11, 12, 13, 14, 15, 16, 0] (by decide) rfl) hS (by decide) (by decide) d_L_back_14
  · obtain ⟨f_2, f_3, f_4, f_5, f_6, x_7, f_8, x_9⟩ := u
    try dsimp only at hw
    have hP : va_P (dC, dI) classes [(q_p2, .inl (cJ, n_p2, .inr (.inl v_p2))), (q_p0, .inr (0, [.ref q_p0_slots, .ref q_p0_tickets, .ref q_p0_requests, .ref q_p0_chances, .ref q_p0_tariff, .ref q_p0_doors])), (q_p0_slots, .inr (1, [.ref q_p0_slots_places, .ref q_p0_slots_above, .ref q_p0_slots_below, .ref q_p0_slots_most, .ref q_p0_slots_sold, .int v_p0_slots_made])), (q_p0_slots_most, .inl (cI, 8, .inl v_p0_slots_most)), (q_p0_slots_sold, .inl (cI, 8, .inl f_2)), (q_p0_tickets, .inr (2, [.ref q_p0_tickets_slot, .ref q_p0_tickets_guests, .ref q_p0_tickets_kind, .ref q_p0_tickets_returned, .int x_7])), (q_p0_tickets_slot, .inl (cI, 60, .inl f_3)), (q_p0_tickets_guests, .inl (cI, 60, .inl f_4)), (q_p0_tickets_kind, .inl (cI, 60, .inl f_5)), (q_p0_tickets_returned, .inl (cZ, 60, .inl f_6)), (q_p0_requests, .inr (3, [.ref q_p0_requests_slot, .ref q_p0_requests_guests, .ref q_p0_requests_kind, .ref q_p0_requests_ticket, .int v_p0_requests_made, .int x_9])), (q_p0_requests_slot, .inl (cI, 30, .inl v_p0_requests_slot)), (q_p0_requests_guests, .inl (cI, 30, .inl v_p0_requests_guests)), (q_p0_requests_kind, .inl (cI, 30, .inl v_p0_requests_kind)), (q_p0_requests_ticket, .inl (cI, 30, .inl f_8)), (q_p0_doors, .inr (6, [.ref q_p0_doors_seconds, .ref q_p0_doors_order, .ref q_p0_doors_firstIn, .ref q_p0_doors_doubles, .int v_p0_doors_found, .ref q_p0_doors_goneOut])), (q_p0_doors_seconds, .inl (cI, 360, .inl v_p0_doors_seconds))] H := hP
    have hD : va_D A [(q_p2, .inl (cJ, n_p2, .inr (.inl v_p2))), (q_p0, .inr (0, [.ref q_p0_slots, .ref q_p0_tickets, .ref q_p0_requests, .ref q_p0_chances, .ref q_p0_tariff, .ref q_p0_doors])), (q_p0_slots, .inr (1, [.ref q_p0_slots_places, .ref q_p0_slots_above, .ref q_p0_slots_below, .ref q_p0_slots_most, .ref q_p0_slots_sold, .int v_p0_slots_made])), (q_p0_slots_most, .inl (cI, 8, .inl v_p0_slots_most)), (q_p0_slots_sold, .inl (cI, 8, .inl f_2)), (q_p0_tickets, .inr (2, [.ref q_p0_tickets_slot, .ref q_p0_tickets_guests, .ref q_p0_tickets_kind, .ref q_p0_tickets_returned, .int x_7])), (q_p0_tickets_slot, .inl (cI, 60, .inl f_3)), (q_p0_tickets_guests, .inl (cI, 60, .inl f_4)), (q_p0_tickets_kind, .inl (cI, 60, .inl f_5)), (q_p0_tickets_returned, .inl (cZ, 60, .inl f_6)), (q_p0_requests, .inr (3, [.ref q_p0_requests_slot, .ref q_p0_requests_guests, .ref q_p0_requests_kind, .ref q_p0_requests_ticket, .int v_p0_requests_made, .int x_9])), (q_p0_requests_slot, .inl (cI, 30, .inl v_p0_requests_slot)), (q_p0_requests_guests, .inl (cI, 30, .inl v_p0_requests_guests)), (q_p0_requests_kind, .inl (cI, 30, .inl v_p0_requests_kind)), (q_p0_requests_ticket, .inl (cI, 30, .inl f_8)), (q_p0_doors, .inr (6, [.ref q_p0_doors_seconds, .ref q_p0_doors_order, .ref q_p0_doors_firstIn, .ref q_p0_doors_doubles, .int v_p0_doors_found, .ref q_p0_doors_goneOut])), (q_p0_doors_seconds, .inl (cI, 360, .inl v_p0_doors_seconds))] := hD
    refine lv_i2l hx hb d_L_back_7 rfl ?_
    obtain ⟨h_10, hw⟩ := hw
    refine va_last hx hb hK hP hD hS 0 1 rfl rfl h_10 d_L_back_8 (fun H locs hP hD hS => ?_)
    obtain ⟨f_11, ef_11⟩ : ∃ g : Nat → Int64, g = vp_updL v_p2 (0 : Int32).toNatClampNeg r_1.toInt64 := ⟨_, rfl⟩
    have hw := hw f_11 ef_11
    have hP : va_P (dC, dI) classes [(q_p2, .inl (cJ, n_p2, .inr (.inl f_11))), (q_p0, .inr (0, [.ref q_p0_slots, .ref q_p0_tickets, .ref q_p0_requests, .ref q_p0_chances, .ref q_p0_tariff, .ref q_p0_doors])), (q_p0_slots, .inr (1, [.ref q_p0_slots_places, .ref q_p0_slots_above, .ref q_p0_slots_below, .ref q_p0_slots_most, .ref q_p0_slots_sold, .int v_p0_slots_made])), (q_p0_slots_most, .inl (cI, 8, .inl v_p0_slots_most)), (q_p0_slots_sold, .inl (cI, 8, .inl f_2)), (q_p0_tickets, .inr (2, [.ref q_p0_tickets_slot, .ref q_p0_tickets_guests, .ref q_p0_tickets_kind, .ref q_p0_tickets_returned, .int x_7])), (q_p0_tickets_slot, .inl (cI, 60, .inl f_3)), (q_p0_tickets_guests, .inl (cI, 60, .inl f_4)), (q_p0_tickets_kind, .inl (cI, 60, .inl f_5)), (q_p0_tickets_returned, .inl (cZ, 60, .inl f_6)), (q_p0_requests, .inr (3, [.ref q_p0_requests_slot, .ref q_p0_requests_guests, .ref q_p0_requests_kind, .ref q_p0_requests_ticket, .int v_p0_requests_made, .int x_9])), (q_p0_requests_slot, .inl (cI, 30, .inl v_p0_requests_slot)), (q_p0_requests_guests, .inl (cI, 30, .inl v_p0_requests_guests)), (q_p0_requests_kind, .inl (cI, 30, .inl v_p0_requests_kind)), (q_p0_requests_ticket, .inl (cI, 30, .inl f_8)), (q_p0_doors, .inr (6, [.ref q_p0_doors_seconds, .ref q_p0_doors_order, .ref q_p0_doors_firstIn, .ref q_p0_doors_doubles, .int v_p0_doors_found, .ref q_p0_doors_goneOut])), (q_p0_doors_seconds, .inl (cI, 360, .inl v_p0_doors_seconds))] H := by rw [ef_11]; exact hP
    have hD : va_D A [(q_p2, .inl (cJ, n_p2, .inr (.inl f_11))), (q_p0, .inr (0, [.ref q_p0_slots, .ref q_p0_tickets, .ref q_p0_requests, .ref q_p0_chances, .ref q_p0_tariff, .ref q_p0_doors])), (q_p0_slots, .inr (1, [.ref q_p0_slots_places, .ref q_p0_slots_above, .ref q_p0_slots_below, .ref q_p0_slots_most, .ref q_p0_slots_sold, .int v_p0_slots_made])), (q_p0_slots_most, .inl (cI, 8, .inl v_p0_slots_most)), (q_p0_slots_sold, .inl (cI, 8, .inl f_2)), (q_p0_tickets, .inr (2, [.ref q_p0_tickets_slot, .ref q_p0_tickets_guests, .ref q_p0_tickets_kind, .ref q_p0_tickets_returned, .int x_7])), (q_p0_tickets_slot, .inl (cI, 60, .inl f_3)), (q_p0_tickets_guests, .inl (cI, 60, .inl f_4)), (q_p0_tickets_kind, .inl (cI, 60, .inl f_5)), (q_p0_tickets_returned, .inl (cZ, 60, .inl f_6)), (q_p0_requests, .inr (3, [.ref q_p0_requests_slot, .ref q_p0_requests_guests, .ref q_p0_requests_kind, .ref q_p0_requests_ticket, .int v_p0_requests_made, .int x_9])), (q_p0_requests_slot, .inl (cI, 30, .inl v_p0_requests_slot)), (q_p0_requests_guests, .inl (cI, 30, .inl v_p0_requests_guests)), (q_p0_requests_kind, .inl (cI, 30, .inl v_p0_requests_kind)), (q_p0_requests_ticket, .inl (cI, 30, .inl f_8)), (q_p0_doors, .inr (6, [.ref q_p0_doors_seconds, .ref q_p0_doors_order, .ref q_p0_doors_firstIn, .ref q_p0_doors_doubles, .int v_p0_doors_found, .ref q_p0_doors_goneOut])), (q_p0_doors_seconds, .inl (cI, 360, .inl v_p0_doors_seconds))] := by rw [ef_11]; exact hD
    refine lv_goto (tgt := 15) hx hb d_L_back_9 (by decide) ?_
    refine lv_iconst (v := (0 : Int32)) hx hb d_L_back_15 (by decide) ?_
    exact rw_i (u := (f_2, f_3, f_4, f_5, f_6, x_7, f_8, x_9, f_11)) C0 hw (hP.sub [1, 2, 3, 4, 5, 6, 7, 8, 9, 10, 11, 12, 13, 14, 15, 16, 0] rfl) (hD.sub [1, 2, 3, 4, 5, 6, 7, 8, 9, 10, 11, 12, 13, 14, 15, 16, 0] (by decide) rfl) hS (by decide) (by decide) d_L_back_16
theorem d_L_waits_0 : decode b_L_waits 0 = .ok (.aload 4, 2) := by decide +kernel
theorem d_L_waits_2 : decode b_L_waits 2 = .ok (.iconst 0, 1) := by decide +kernel
theorem d_L_waits_3 : decode b_L_waits 3 = .ok (.aload_n 0, 1) := by decide +kernel
theorem d_L_waits_4 : decode b_L_waits 4 = .ok (.iload_n 1, 1) := by decide +kernel
theorem d_L_waits_5 : decode b_L_waits 5 = .ok (.iload_n 2, 1) := by decide +kernel
theorem d_L_waits_6 : decode b_L_waits 6 = .ok (.iload_n 3, 1) := by decide +kernel
theorem d_L_waits_7 : decode b_L_waits 7 = .ok (.invokevirtual 36, 3) := by decide +kernel
theorem d_L_waits_10 : decode b_L_waits 10 = .ok (.i2l, 1) := by decide +kernel
theorem d_L_waits_11 : decode b_L_waits 11 = .ok (.lastore, 1) := by decide +kernel
theorem d_L_waits_12 : decode b_L_waits 12 = .ok (.goto 15, 3) := by decide +kernel
theorem d_L_waits_15 : decode b_L_waits 15 = .ok (.astore 5, 2) := by decide +kernel
theorem d_L_waits_17 : decode b_L_waits 17 = .ok (.iconst 1, 1) := by decide +kernel
theorem d_L_waits_18 : decode b_L_waits 18 = .ok (.ireturn, 1) := by decide +kernel
theorem d_L_waits_19 : decode b_L_waits 19 = .ok (.astore 5, 2) := by decide +kernel
theorem d_L_waits_21 : decode b_L_waits 21 = .ok (.iconst 2, 1) := by decide +kernel
theorem d_L_waits_22 : decode b_L_waits 22 = .ok (.ireturn, 1) := by decide +kernel
theorem d_L_waits_23 : decode b_L_waits 23 = .ok (.astore 5, 2) := by decide +kernel
theorem d_L_waits_25 : decode b_L_waits 25 = .ok (.iconst 3, 1) := by decide +kernel
theorem d_L_waits_26 : decode b_L_waits 26 = .ok (.ireturn, 1) := by decide +kernel
theorem d_L_waits_27 : decode b_L_waits 27 = .ok (.iconst 0, 1) := by decide +kernel
theorem d_L_waits_28 : decode b_L_waits 28 = .ok (.ireturn, 1) := by decide +kernel
def wp_L_waits (post : Int32 → ((Nat → Int32) × (Nat → Int32) × (Nat → Int32) × (Nat → Int32) × (Int32) × (Nat → Int64)) → Prop) (n_p4 : Nat) (a_1 : Int32) (a_2 : Int32) (a_3 : Int32) (v_p0_slots_made : Int32) (v_p0_requests_slot : Nat → Int32) (v_p0_requests_guests : Nat → Int32) (v_p0_requests_kind : Nat → Int32) (v_p0_requests_ticket : Nat → Int32) (v_p0_requests_made : Int32) (v_p4 : Nat → Int64) : Prop := wp_X_waits (fun r_1 u => match u with | (f_2, f_3, f_4, f_5, x_6) => (vp_in (0 : Int32) n_p4 ∧ (∀ f_8 : Nat → Int64, f_8 = vp_updL v_p4 (0 : Int32).toNatClampNeg r_1.toInt64 → post (0 : Int32) (f_2, f_3, f_4, f_5, x_6, f_8)))) (fun E => (E = "java/lang/IllegalArgumentException" ∧ post (3 : Int32) (v_p0_requests_slot, v_p0_requests_guests, v_p0_requests_kind, v_p0_requests_ticket, v_p0_requests_made, v_p4)) ∨ (E = "java/lang/IllegalStateException" ∧ post (2 : Int32) (v_p0_requests_slot, v_p0_requests_guests, v_p0_requests_kind, v_p0_requests_ticket, v_p0_requests_made, v_p4)) ∨ (E = "java/lang/IndexOutOfBoundsException" ∧ post (1 : Int32) (v_p0_requests_slot, v_p0_requests_guests, v_p0_requests_kind, v_p0_requests_ticket, v_p0_requests_made, v_p4))) a_1 a_2 a_3 v_p0_slots_made v_p0_requests_slot v_p0_requests_guests v_p0_requests_kind v_p0_requests_ticket v_p0_requests_made
set_option maxHeartbeats 4000000 in
set_option maxRecDepth 100000 in
theorem c_L_waits (l : Launch) (hl9 : l.stackTraces = false) (dC : Nat → ClassId) (dI : Nat → Nat → Nat) (cI cJ cZ : ClassId) (q_p0 q_p0_slots q_p0_requests q_p0_requests_slot q_p0_requests_guests q_p0_requests_kind q_p0_requests_ticket q_p4 q_p0_tickets q_p0_chances q_p0_tariff q_p0_doors q_p0_slots_places q_p0_slots_above q_p0_slots_below q_p0_slots_most q_p0_slots_sold : Nat) (n_p4 : Nat) (a_1 : Int32) (a_2 : Int32) (a_3 : Int32) (v_p0_slots_made : Int32) (v_p0_requests_slot : Nat → Int32) (v_p0_requests_guests : Nat → Int32) (v_p0_requests_kind : Nat → Int32) (v_p0_requests_ticket : Nat → Int32) (v_p0_requests_made : Int32) (v_p0_requests_served : Int32) (v_p4 : Nat → Int64) (post : Int32 → ((Nat → Int32) × (Nat → Int32) × (Nat → Int32) × (Nat → Int32) × (Int32) × (Nat → Int64)) → Prop) (hw : wp_L_waits post n_p4 a_1 a_2 a_3 v_p0_slots_made v_p0_requests_slot v_p0_requests_guests v_p0_requests_kind v_p0_requests_ticket v_p0_requests_made v_p4) : KiW l y_L_waits b_L_waits 6 (some .int) [(0, 12, 15, 21), (0, 12, 19, 13), (0, 12, 23, 15)] ({ frames := 8, cells := 1, slots := 6, locals := 126 } : Room) dC dI cI cJ cZ [.ref q_p0, .int a_1, .int a_2, .int a_3, .ref q_p4] [(q_p0, .inr (0, [.ref q_p0_slots, .ref q_p0_tickets, .ref q_p0_requests, .ref q_p0_chances, .ref q_p0_tariff, .ref q_p0_doors])), (q_p0_slots, .inr (1, [.ref q_p0_slots_places, .ref q_p0_slots_above, .ref q_p0_slots_below, .ref q_p0_slots_most, .ref q_p0_slots_sold, .int v_p0_slots_made])), (q_p0_requests, .inr (3, [.ref q_p0_requests_slot, .ref q_p0_requests_guests, .ref q_p0_requests_kind, .ref q_p0_requests_ticket, .int v_p0_requests_made, .int v_p0_requests_served])), (q_p0_requests_slot, .inl (cI, 30, .inl v_p0_requests_slot)), (q_p0_requests_guests, .inl (cI, 30, .inl v_p0_requests_guests)), (q_p0_requests_kind, .inl (cI, 30, .inl v_p0_requests_kind)), (q_p0_requests_ticket, .inl (cI, 30, .inl v_p0_requests_ticket)), (q_p4, .inl (cJ, n_p4, .inr (.inl v_p4)))] post (fun u : (Nat → Int32) × (Nat → Int32) × (Nat → Int32) × (Nat → Int32) × (Int32) × (Nat → Int64) => [(q_p0, .inr (0, [.ref q_p0_slots, .ref q_p0_tickets, .ref q_p0_requests, .ref q_p0_chances, .ref q_p0_tariff, .ref q_p0_doors])), (q_p0_slots, .inr (1, [.ref q_p0_slots_places, .ref q_p0_slots_above, .ref q_p0_slots_below, .ref q_p0_slots_most, .ref q_p0_slots_sold, .int v_p0_slots_made])), (q_p0_requests, .inr (3, [.ref q_p0_requests_slot, .ref q_p0_requests_guests, .ref q_p0_requests_kind, .ref q_p0_requests_ticket, .int u.2.2.2.2.1, .int v_p0_requests_served])), (q_p0_requests_slot, .inl (cI, 30, .inl u.1)), (q_p0_requests_guests, .inl (cI, 30, .inl u.2.1)), (q_p0_requests_kind, .inl (cI, 30, .inl u.2.2.1)), (q_p0_requests_ticket, .inl (cI, 30, .inl u.2.2.2.1)), (q_p4, .inl (cJ, n_p4, .inr (.inl u.2.2.2.2.2)))]) := by
  refine mkiW hl9 (own := R_L) rfl (by decide) ?_
  intro p e s m args below meth c A C0 hTab hNc eav hP hD
  have hN : ∀ q ∈ ([] : List Loc), s.heap.size ≤ q.base := fun q h => by cases h
  obtain ⟨-, hx, hb, hml, hr, hown, hts, hlocks, hK, hZ, hA, hNS⟩ := id C0
  subst eav
  have hS : va_S A s.heap s.heap [] := va_S.rf
  have hl := lv_entry ([.ref q_p0, .int a_1, .int a_2, .int a_3, .ref q_p4]) (n := 6) (Nat.le_of_ble_eq_true rfl)
  rw [lg_entry_eq]
  generalize (lg_sl ([.ref q_p0, .int a_1, .int a_2, .int a_3, .ref q_p4]) ++ List.replicate (6 - (lg_sl ([.ref q_p0, .int a_1, .int a_2, .int a_3, .ref q_p4])).length) Slot.unset).toArray = ls at hl ⊢
  have hl : lv_has ls 6 [(0, .ref q_p0), (1, .int a_1), (2, .int a_2), (3, .int a_3), (4, .ref q_p4)] := hl
  unfold wp_L_waits at hw
  refine lv_aload hx hb d_L_waits_0 (lv_at hl 4 rfl) ?_
  refine lv_iconst (v := (0 : Int32)) hx hb d_L_waits_2 (by decide) ?_
  refine lv_aload_n hx hb d_L_waits_3 rfl (lv_at hl 0 rfl) ?_
  refine lv_iload_n hx hb d_L_waits_4 rfl (lv_at hl 1 rfl) ?_
  refine lv_iload_n hx hb d_L_waits_5 rfl (lv_at hl 2 rfl) ?_
  refine lv_iload_n hx hb d_L_waits_6 rfl (lv_at hl 3 rfl) ?_
  refine jx_i C0 hP hD hS [0, 1, 2, 3, 4, 5, 6] [7] (ru_Vx C0 (As := [.int a_1, .int a_2, .int a_3]) (rest := [.int (0 : Int32), .ref q_p4]) (c_X_waits l hl9 dC dI cI cJ cZ q_p0 q_p0_slots q_p0_requests q_p0_requests_slot q_p0_requests_guests q_p0_requests_kind q_p0_requests_ticket q_p0_tickets q_p0_chances q_p0_tariff q_p0_doors q_p0_slots_places q_p0_slots_above q_p0_slots_below q_p0_slots_most q_p0_slots_sold a_1 a_2 a_3 v_p0_slots_made v_p0_requests_slot v_p0_requests_guests v_p0_requests_kind v_p0_requests_ticket v_p0_requests_made v_p0_requests_served _ _ hw _) k_434 k_435 k_436 k_437 k_86 (n9 := 3) (by decide +kernel) rfl (ci := 0) rfl rfl ⟨Nat.le_of_ble_eq_true rfl, Nat.le_of_ble_eq_true rfl⟩ hP hD hS [0, 1, 2, 3, 4, 5, 6] rfl (by decide) hl.1 rfl (Nat.le_of_ble_eq_true rfl) d_L_waits_7 ⟨Nat.le_of_ble_eq_true rfl, Nat.le_of_ble_eq_true rfl⟩) rfl rfl (by decide) (by decide) (fun E ce q9 H locs hw hP hD hS hce hcv hcl => ?_) (fun r_1 u H locs hw hP hD hS => ?_)
  · rcases hw with ⟨rfl, hw⟩ | ⟨rfl, hw⟩ | ⟨rfl, hw⟩
    · refine xcatch (E := "java/lang/IllegalArgumentException") (name := "java/lang/IllegalArgumentException") C0 [⟨0, 12, 15, 21⟩, ⟨0, 12, 19, 13⟩] ⟨0, 12, 23, 15⟩ [] (by rw [hTab]; rfl) (fun z hz => by
        rcases List.mem_cons.mp hz with rfl | hz
        · exact Or.inr ⟨by decide, "java/lang/IndexOutOfBoundsException", (hts _ k_417), hNc.2.1⟩
        rcases List.mem_cons.mp hz with rfl | hz
        · exact Or.inr ⟨by decide, "java/lang/IllegalStateException", (hts _ k_411), hNc.1⟩
        exact nomatch hz) (by decide) (by decide) k_412 (zn hZ zc_IAE) hce hcv hcl ?_
      refine lv_astore (lv' := [(5, .ref q9), (0, .ref q_p0), (1, .int a_1), (2, .int a_2), (3, .int a_3), (4, .ref q_p4)]) hx hb d_L_waits_23 hl (by decide) rfl (fun ls hl => ?_)
      refine lv_iconst (v := (3 : Int32)) hx hb d_L_waits_25 (by decide) ?_
      exact rw_i (u := (v_p0_requests_slot, v_p0_requests_guests, v_p0_requests_kind, v_p0_requests_ticket, v_p0_requests_made, v_p4)) C0 hw (hP.sub [1, 2, 3, 4, 5, 6, 7, 0] rfl) (hD.sub [1, 2, 3, 4, 5, 6, 7, 0] (by decide) rfl) hS (by decide) (by decide) d_L_waits_26
    · refine xcatch (E := "java/lang/IllegalStateException") (name := "java/lang/IllegalStateException") C0 [⟨0, 12, 15, 21⟩] ⟨0, 12, 19, 13⟩ [⟨0, 12, 23, 15⟩] (by rw [hTab]; rfl) (fun z hz => by
        rcases List.mem_cons.mp hz with rfl | hz
        · exact Or.inr ⟨by decide, "java/lang/IndexOutOfBoundsException", (hts _ k_417), hNc.2.2⟩
        exact nomatch hz) (by decide) (by decide) k_411 (zn hZ zc_ISE) hce hcv hcl ?_
      refine lv_astore (lv' := [(5, .ref q9), (0, .ref q_p0), (1, .int a_1), (2, .int a_2), (3, .int a_3), (4, .ref q_p4)]) hx hb d_L_waits_19 hl (by decide) rfl (fun ls hl => ?_)
      refine lv_iconst (v := (2 : Int32)) hx hb d_L_waits_21 (by decide) ?_
      exact rw_i (u := (v_p0_requests_slot, v_p0_requests_guests, v_p0_requests_kind, v_p0_requests_ticket, v_p0_requests_made, v_p4)) C0 hw (hP.sub [1, 2, 3, 4, 5, 6, 7, 0] rfl) (hD.sub [1, 2, 3, 4, 5, 6, 7, 0] (by decide) rfl) hS (by decide) (by decide) d_L_waits_22
    · refine xcatch (E := "java/lang/IndexOutOfBoundsException") (name := "java/lang/IndexOutOfBoundsException") C0 [] ⟨0, 12, 15, 21⟩ [⟨0, 12, 19, 13⟩, ⟨0, 12, 23, 15⟩] (by rw [hTab]; rfl) (fun z hz => nomatch hz) (by decide) (by decide) k_417 (zn hZ zc_IOB) hce hcv hcl ?_
      refine lv_astore (lv' := [(5, .ref q9), (0, .ref q_p0), (1, .int a_1), (2, .int a_2), (3, .int a_3), (4, .ref q_p4)]) hx hb d_L_waits_15 hl (by decide) rfl (fun ls hl => ?_)
      refine lv_iconst (v := (1 : Int32)) hx hb d_L_waits_17 (by decide) ?_
      exact rw_i (u := (v_p0_requests_slot, v_p0_requests_guests, v_p0_requests_kind, v_p0_requests_ticket, v_p0_requests_made, v_p4)) C0 hw (hP.sub [1, 2, 3, 4, 5, 6, 7, 0] rfl) (hD.sub [1, 2, 3, 4, 5, 6, 7, 0] (by decide) rfl) hS (by decide) (by decide) d_L_waits_18
  · obtain ⟨f_2, f_3, f_4, f_5, x_6⟩ := u
    try dsimp only at hw
    have hP : va_P (dC, dI) classes [(q_p4, .inl (cJ, n_p4, .inr (.inl v_p4))), (q_p0, .inr (0, [.ref q_p0_slots, .ref q_p0_tickets, .ref q_p0_requests, .ref q_p0_chances, .ref q_p0_tariff, .ref q_p0_doors])), (q_p0_slots, .inr (1, [.ref q_p0_slots_places, .ref q_p0_slots_above, .ref q_p0_slots_below, .ref q_p0_slots_most, .ref q_p0_slots_sold, .int v_p0_slots_made])), (q_p0_requests, .inr (3, [.ref q_p0_requests_slot, .ref q_p0_requests_guests, .ref q_p0_requests_kind, .ref q_p0_requests_ticket, .int x_6, .int v_p0_requests_served])), (q_p0_requests_slot, .inl (cI, 30, .inl f_2)), (q_p0_requests_guests, .inl (cI, 30, .inl f_3)), (q_p0_requests_kind, .inl (cI, 30, .inl f_4)), (q_p0_requests_ticket, .inl (cI, 30, .inl f_5))] H := hP
    have hD : va_D A [(q_p4, .inl (cJ, n_p4, .inr (.inl v_p4))), (q_p0, .inr (0, [.ref q_p0_slots, .ref q_p0_tickets, .ref q_p0_requests, .ref q_p0_chances, .ref q_p0_tariff, .ref q_p0_doors])), (q_p0_slots, .inr (1, [.ref q_p0_slots_places, .ref q_p0_slots_above, .ref q_p0_slots_below, .ref q_p0_slots_most, .ref q_p0_slots_sold, .int v_p0_slots_made])), (q_p0_requests, .inr (3, [.ref q_p0_requests_slot, .ref q_p0_requests_guests, .ref q_p0_requests_kind, .ref q_p0_requests_ticket, .int x_6, .int v_p0_requests_served])), (q_p0_requests_slot, .inl (cI, 30, .inl f_2)), (q_p0_requests_guests, .inl (cI, 30, .inl f_3)), (q_p0_requests_kind, .inl (cI, 30, .inl f_4)), (q_p0_requests_ticket, .inl (cI, 30, .inl f_5))] := hD
    refine lv_i2l hx hb d_L_waits_10 rfl ?_
    obtain ⟨h_7, hw⟩ := hw
    refine va_last hx hb hK hP hD hS 0 1 rfl rfl h_7 d_L_waits_11 (fun H locs hP hD hS => ?_)
    obtain ⟨f_8, ef_8⟩ : ∃ g : Nat → Int64, g = vp_updL v_p4 (0 : Int32).toNatClampNeg r_1.toInt64 := ⟨_, rfl⟩
    have hw := hw f_8 ef_8
    have hP : va_P (dC, dI) classes [(q_p4, .inl (cJ, n_p4, .inr (.inl f_8))), (q_p0, .inr (0, [.ref q_p0_slots, .ref q_p0_tickets, .ref q_p0_requests, .ref q_p0_chances, .ref q_p0_tariff, .ref q_p0_doors])), (q_p0_slots, .inr (1, [.ref q_p0_slots_places, .ref q_p0_slots_above, .ref q_p0_slots_below, .ref q_p0_slots_most, .ref q_p0_slots_sold, .int v_p0_slots_made])), (q_p0_requests, .inr (3, [.ref q_p0_requests_slot, .ref q_p0_requests_guests, .ref q_p0_requests_kind, .ref q_p0_requests_ticket, .int x_6, .int v_p0_requests_served])), (q_p0_requests_slot, .inl (cI, 30, .inl f_2)), (q_p0_requests_guests, .inl (cI, 30, .inl f_3)), (q_p0_requests_kind, .inl (cI, 30, .inl f_4)), (q_p0_requests_ticket, .inl (cI, 30, .inl f_5))] H := by rw [ef_8]; exact hP
    have hD : va_D A [(q_p4, .inl (cJ, n_p4, .inr (.inl f_8))), (q_p0, .inr (0, [.ref q_p0_slots, .ref q_p0_tickets, .ref q_p0_requests, .ref q_p0_chances, .ref q_p0_tariff, .ref q_p0_doors])), (q_p0_slots, .inr (1, [.ref q_p0_slots_places, .ref q_p0_slots_above, .ref q_p0_slots_below, .ref q_p0_slots_most, .ref q_p0_slots_sold, .int v_p0_slots_made])), (q_p0_requests, .inr (3, [.ref q_p0_requests_slot, .ref q_p0_requests_guests, .ref q_p0_requests_kind, .ref q_p0_requests_ticket, .int x_6, .int v_p0_requests_served])), (q_p0_requests_slot, .inl (cI, 30, .inl f_2)), (q_p0_requests_guests, .inl (cI, 30, .inl f_3)), (q_p0_requests_kind, .inl (cI, 30, .inl f_4)), (q_p0_requests_ticket, .inl (cI, 30, .inl f_5))] := by rw [ef_8]; exact hD
    refine lv_goto (tgt := 27) hx hb d_L_waits_12 (by decide) ?_
    refine lv_iconst (v := (0 : Int32)) hx hb d_L_waits_27 (by decide) ?_
    exact rw_i (u := (f_2, f_3, f_4, f_5, x_6, f_8)) C0 hw (hP.sub [1, 2, 3, 4, 5, 6, 7, 0] rfl) (hD.sub [1, 2, 3, 4, 5, 6, 7, 0] (by decide) rfl) hS (by decide) (by decide) d_L_waits_28
theorem d_L_given_0 : decode b_L_given 0 = .ok (.aload_n 2, 1) := by decide +kernel
theorem d_L_given_1 : decode b_L_given 1 = .ok (.iconst 0, 1) := by decide +kernel
theorem d_L_given_2 : decode b_L_given 2 = .ok (.aload_n 0, 1) := by decide +kernel
theorem d_L_given_3 : decode b_L_given 3 = .ok (.iload_n 1, 1) := by decide +kernel
theorem d_L_given_4 : decode b_L_given 4 = .ok (.invokevirtual 39, 3) := by decide +kernel
theorem d_L_given_7 : decode b_L_given 7 = .ok (.i2l, 1) := by decide +kernel
theorem d_L_given_8 : decode b_L_given 8 = .ok (.lastore, 1) := by decide +kernel
theorem d_L_given_9 : decode b_L_given 9 = .ok (.goto 6, 3) := by decide +kernel
theorem d_L_given_12 : decode b_L_given 12 = .ok (.astore_n 3, 1) := by decide +kernel
theorem d_L_given_13 : decode b_L_given 13 = .ok (.iconst 1, 1) := by decide +kernel
theorem d_L_given_14 : decode b_L_given 14 = .ok (.ireturn, 1) := by decide +kernel
theorem d_L_given_15 : decode b_L_given 15 = .ok (.iconst 0, 1) := by decide +kernel
theorem d_L_given_16 : decode b_L_given 16 = .ok (.ireturn, 1) := by decide +kernel
def wp_L_given (post : Int32 → (Nat → Int64) → Prop) (n_p2 : Nat) (a_1 : Int32) (v_p0_requests_ticket : Nat → Int32) (v_p0_requests_made : Int32) (v_p2 : Nat → Int64) : Prop := wp_X_given (fun r_1 _ => (vp_in (0 : Int32) n_p2 ∧ (∀ f_3 : Nat → Int64, f_3 = vp_updL v_p2 (0 : Int32).toNatClampNeg r_1.toInt64 → post (0 : Int32) f_3))) (fun E => (E = "java/lang/IndexOutOfBoundsException" ∧ post (1 : Int32) v_p2)) a_1 v_p0_requests_ticket v_p0_requests_made
set_option maxHeartbeats 4000000 in
set_option maxRecDepth 100000 in
theorem c_L_given (l : Launch) (hl9 : l.stackTraces = false) (dC : Nat → ClassId) (dI : Nat → Nat → Nat) (cI cJ cZ : ClassId) (q_p0 q_p0_requests q_p0_requests_ticket q_p2 q_p0_slots q_p0_tickets q_p0_chances q_p0_tariff q_p0_doors q_p0_requests_slot q_p0_requests_guests q_p0_requests_kind : Nat) (n_p2 : Nat) (a_1 : Int32) (v_p0_requests_ticket : Nat → Int32) (v_p0_requests_made : Int32) (v_p0_requests_served : Int32) (v_p2 : Nat → Int64) (post : Int32 → (Nat → Int64) → Prop) (hw : wp_L_given post n_p2 a_1 v_p0_requests_ticket v_p0_requests_made v_p2) : KiW l y_L_given b_L_given 4 (some .int) [(0, 9, 12, 21)] ({ frames := 7, cells := 1, slots := 6, locals := 103 } : Room) dC dI cI cJ cZ [.ref q_p0, .int a_1, .ref q_p2] [(q_p0, .inr (0, [.ref q_p0_slots, .ref q_p0_tickets, .ref q_p0_requests, .ref q_p0_chances, .ref q_p0_tariff, .ref q_p0_doors])), (q_p0_requests, .inr (3, [.ref q_p0_requests_slot, .ref q_p0_requests_guests, .ref q_p0_requests_kind, .ref q_p0_requests_ticket, .int v_p0_requests_made, .int v_p0_requests_served])), (q_p0_requests_ticket, .inl (cI, 30, .inl v_p0_requests_ticket)), (q_p2, .inl (cJ, n_p2, .inr (.inl v_p2)))] post (fun u : (Nat → Int64) => [(q_p0, .inr (0, [.ref q_p0_slots, .ref q_p0_tickets, .ref q_p0_requests, .ref q_p0_chances, .ref q_p0_tariff, .ref q_p0_doors])), (q_p0_requests, .inr (3, [.ref q_p0_requests_slot, .ref q_p0_requests_guests, .ref q_p0_requests_kind, .ref q_p0_requests_ticket, .int v_p0_requests_made, .int v_p0_requests_served])), (q_p0_requests_ticket, .inl (cI, 30, .inl v_p0_requests_ticket)), (q_p2, .inl (cJ, n_p2, .inr (.inl u)))]) := by
  refine mkiW hl9 (own := R_L) rfl (by decide) ?_
  intro p e s m args below meth c A C0 hTab hNc eav hP hD
  have hN : ∀ q ∈ ([] : List Loc), s.heap.size ≤ q.base := fun q h => by cases h
  obtain ⟨-, hx, hb, hml, hr, hown, hts, hlocks, hK, hZ, hA, hNS⟩ := id C0
  subst eav
  have hS : va_S A s.heap s.heap [] := va_S.rf
  have hl := lv_entry ([.ref q_p0, .int a_1, .ref q_p2]) (n := 4) (Nat.le_of_ble_eq_true rfl)
  rw [lg_entry_eq]
  generalize (lg_sl ([.ref q_p0, .int a_1, .ref q_p2]) ++ List.replicate (4 - (lg_sl ([.ref q_p0, .int a_1, .ref q_p2])).length) Slot.unset).toArray = ls at hl ⊢
  have hl : lv_has ls 4 [(0, .ref q_p0), (1, .int a_1), (2, .ref q_p2)] := hl
  unfold wp_L_given at hw
  refine lv_aload_n hx hb d_L_given_0 rfl (lv_at hl 2 rfl) ?_
  refine lv_iconst (v := (0 : Int32)) hx hb d_L_given_1 (by decide) ?_
  refine lv_aload_n hx hb d_L_given_2 rfl (lv_at hl 0 rfl) ?_
  refine lv_iload_n hx hb d_L_given_3 rfl (lv_at hl 1 rfl) ?_
  refine jxn_i C0 hP hD hS hN [0, 1, 2] [3] (ru_Vx C0 (As := [.int a_1]) (rest := [.int (0 : Int32), .ref q_p2]) (c_X_given l hl9 dC dI cI cJ cZ q_p0 q_p0_requests q_p0_requests_ticket q_p0_slots q_p0_tickets q_p0_chances q_p0_tariff q_p0_doors q_p0_requests_slot q_p0_requests_guests q_p0_requests_kind a_1 v_p0_requests_ticket v_p0_requests_made v_p0_requests_served _ _ hw _) k_438 k_439 k_440 k_441 k_86 (n9 := 1) (by decide +kernel) rfl (ci := 0) rfl rfl ⟨Nat.le_of_ble_eq_true rfl, Nat.le_of_ble_eq_true rfl⟩ hP hD hS [0, 1, 2] rfl (by decide) hl.1 rfl (Nat.le_of_ble_eq_true rfl) d_L_given_4 ⟨Nat.le_of_ble_eq_true rfl, Nat.le_of_ble_eq_true rfl⟩) rfl rfl (by decide) (by decide) (fun E ce q9 H locs hw hP hD hS hN hce hcv hcl => ?_) (fun r_1 u H locs hw hP hD hS hN => ?_)
  · obtain ⟨rfl, hw⟩ := hw
    refine xcatch (E := "java/lang/IndexOutOfBoundsException") (name := "java/lang/IndexOutOfBoundsException") C0 [] ⟨0, 9, 12, 21⟩ [] (by rw [hTab]; rfl) (fun z hz => nomatch hz) (by decide) (by decide) k_417 (zn hZ zc_IOB) hce hcv hcl ?_
    refine lv_astore_n (lv' := [(3, .ref q9), (0, .ref q_p0), (1, .int a_1), (2, .ref q_p2)]) hx hb d_L_given_12 rfl hl (by decide) rfl (fun ls hl => ?_)
    refine lv_iconst (v := (1 : Int32)) hx hb d_L_given_13 (by decide) ?_
    exact rw_i (u := v_p2) C0 hw (hP.sub [1, 2, 3, 0] rfl) (hD.sub [1, 2, 3, 0] (by decide) rfl) hS (by decide) (by decide) d_L_given_14
  · try dsimp only at hw
    have hP : va_P (dC, dI) classes [(q_p2, .inl (cJ, n_p2, .inr (.inl v_p2))), (q_p0, .inr (0, [.ref q_p0_slots, .ref q_p0_tickets, .ref q_p0_requests, .ref q_p0_chances, .ref q_p0_tariff, .ref q_p0_doors])), (q_p0_requests, .inr (3, [.ref q_p0_requests_slot, .ref q_p0_requests_guests, .ref q_p0_requests_kind, .ref q_p0_requests_ticket, .int v_p0_requests_made, .int v_p0_requests_served])), (q_p0_requests_ticket, .inl (cI, 30, .inl v_p0_requests_ticket))] H := hP
    have hD : va_D A [(q_p2, .inl (cJ, n_p2, .inr (.inl v_p2))), (q_p0, .inr (0, [.ref q_p0_slots, .ref q_p0_tickets, .ref q_p0_requests, .ref q_p0_chances, .ref q_p0_tariff, .ref q_p0_doors])), (q_p0_requests, .inr (3, [.ref q_p0_requests_slot, .ref q_p0_requests_guests, .ref q_p0_requests_kind, .ref q_p0_requests_ticket, .int v_p0_requests_made, .int v_p0_requests_served])), (q_p0_requests_ticket, .inl (cI, 30, .inl v_p0_requests_ticket))] := hD
    refine lv_i2l hx hb d_L_given_7 rfl ?_
    obtain ⟨h_2, hw⟩ := hw
    refine va_last hx hb hK hP hD hS 0 1 rfl rfl h_2 d_L_given_8 (fun H locs hP hD hS => ?_)
    obtain ⟨f_3, ef_3⟩ : ∃ g : Nat → Int64, g = vp_updL v_p2 (0 : Int32).toNatClampNeg r_1.toInt64 := ⟨_, rfl⟩
    have hw := hw f_3 ef_3
    have hP : va_P (dC, dI) classes [(q_p2, .inl (cJ, n_p2, .inr (.inl f_3))), (q_p0, .inr (0, [.ref q_p0_slots, .ref q_p0_tickets, .ref q_p0_requests, .ref q_p0_chances, .ref q_p0_tariff, .ref q_p0_doors])), (q_p0_requests, .inr (3, [.ref q_p0_requests_slot, .ref q_p0_requests_guests, .ref q_p0_requests_kind, .ref q_p0_requests_ticket, .int v_p0_requests_made, .int v_p0_requests_served])), (q_p0_requests_ticket, .inl (cI, 30, .inl v_p0_requests_ticket))] H := by rw [ef_3]; exact hP
    have hD : va_D A [(q_p2, .inl (cJ, n_p2, .inr (.inl f_3))), (q_p0, .inr (0, [.ref q_p0_slots, .ref q_p0_tickets, .ref q_p0_requests, .ref q_p0_chances, .ref q_p0_tariff, .ref q_p0_doors])), (q_p0_requests, .inr (3, [.ref q_p0_requests_slot, .ref q_p0_requests_guests, .ref q_p0_requests_kind, .ref q_p0_requests_ticket, .int v_p0_requests_made, .int v_p0_requests_served])), (q_p0_requests_ticket, .inl (cI, 30, .inl v_p0_requests_ticket))] := by rw [ef_3]; exact hD
    refine lv_goto (tgt := 15) hx hb d_L_given_9 (by decide) ?_
    refine lv_iconst (v := (0 : Int32)) hx hb d_L_given_15 (by decide) ?_
    exact rw_i (u := f_3) C0 hw (hP.sub [1, 2, 3, 0] rfl) (hD.sub [1, 2, 3, 0] (by decide) rfl) hS (by decide) (by decide) d_L_given_16
theorem d_L_unit_0 : decode b_L_unit 0 = .ok (.aload_n 2, 1) := by decide +kernel
theorem d_L_unit_1 : decode b_L_unit 1 = .ok (.iconst 0, 1) := by decide +kernel
theorem d_L_unit_2 : decode b_L_unit 2 = .ok (.aload_n 0, 1) := by decide +kernel
theorem d_L_unit_3 : decode b_L_unit 3 = .ok (.iload_n 1, 1) := by decide +kernel
theorem d_L_unit_4 : decode b_L_unit 4 = .ok (.invokevirtual 42, 3) := by decide +kernel
theorem d_L_unit_7 : decode b_L_unit 7 = .ok (.i2l, 1) := by decide +kernel
theorem d_L_unit_8 : decode b_L_unit 8 = .ok (.lastore, 1) := by decide +kernel
theorem d_L_unit_9 : decode b_L_unit 9 = .ok (.goto 9, 3) := by decide +kernel
theorem d_L_unit_12 : decode b_L_unit 12 = .ok (.astore_n 3, 1) := by decide +kernel
theorem d_L_unit_13 : decode b_L_unit 13 = .ok (.iconst 1, 1) := by decide +kernel
theorem d_L_unit_14 : decode b_L_unit 14 = .ok (.ireturn, 1) := by decide +kernel
theorem d_L_unit_15 : decode b_L_unit 15 = .ok (.astore_n 3, 1) := by decide +kernel
theorem d_L_unit_16 : decode b_L_unit 16 = .ok (.iconst 2, 1) := by decide +kernel
theorem d_L_unit_17 : decode b_L_unit 17 = .ok (.ireturn, 1) := by decide +kernel
theorem d_L_unit_18 : decode b_L_unit 18 = .ok (.iconst 0, 1) := by decide +kernel
theorem d_L_unit_19 : decode b_L_unit 19 = .ok (.ireturn, 1) := by decide +kernel
def wp_L_unit (post : Int32 → ((Nat → Int32) × (Int32) × (Nat → Int64)) → Prop) (n_p2 : Nat) (a_1 : Int32) (v_p0_tariff_text : Nat → Int32) (v_p0_tariff_length : Int32) (v_p2 : Nat → Int64) : Prop := wp_X_unit (fun r_1 u => match u with | (f_2, x_3) => (vp_in (0 : Int32) n_p2 ∧ (∀ f_5 : Nat → Int64, f_5 = vp_updL v_p2 (0 : Int32).toNatClampNeg r_1.toInt64 → post (0 : Int32) (f_2, x_3, f_5)))) (fun E => (E = "java/lang/IllegalArgumentException" ∧ post (2 : Int32) (v_p0_tariff_text, v_p0_tariff_length, v_p2)) ∨ (E = "java/lang/IllegalStateException" ∧ post (1 : Int32) (v_p0_tariff_text, v_p0_tariff_length, v_p2))) a_1 v_p0_tariff_text v_p0_tariff_length
set_option maxHeartbeats 4000000 in
set_option maxRecDepth 100000 in
theorem c_L_unit (l : Launch) (hl9 : l.stackTraces = false) (dC : Nat → ClassId) (dI : Nat → Nat → Nat) (cI cJ cZ : ClassId) (q_p0 q_p0_tariff q_p0_tariff_text q_p2 q_p0_slots q_p0_tickets q_p0_requests q_p0_chances q_p0_doors q_p0_tariff_prices q_p0_tariff_percents q_p0_tariff_newPrices q_p0_tariff_newPercents : Nat) (n_p2 : Nat) (a_1 : Int32) (v_p0_tariff_text : Nat → Int32) (v_p0_tariff_length : Int32) (v_p0_tariff_clauses : Int32) (v_p0_tariff_newClauses : Int32) (v_p0_tariff_state : Int32) (v_p0_tariff_subject : Int32) (v_p0_tariff_number : Int32) (v_p0_tariff_digits : Int32) (v_p2 : Nat → Int64) (post : Int32 → ((Nat → Int32) × (Int32) × (Nat → Int64)) → Prop) (hw : wp_L_unit post n_p2 a_1 v_p0_tariff_text v_p0_tariff_length v_p2) : KiW l y_L_unit b_L_unit 4 (some .int) [(0, 9, 12, 13), (0, 9, 15, 15)] ({ frames := 7, cells := 1, slots := 6, locals := 103 } : Room) dC dI cI cJ cZ [.ref q_p0, .int a_1, .ref q_p2] [(q_p0, .inr (0, [.ref q_p0_slots, .ref q_p0_tickets, .ref q_p0_requests, .ref q_p0_chances, .ref q_p0_tariff, .ref q_p0_doors])), (q_p0_tariff, .inr (5, [.ref q_p0_tariff_text, .int v_p0_tariff_length, .ref q_p0_tariff_prices, .ref q_p0_tariff_percents, .int v_p0_tariff_clauses, .ref q_p0_tariff_newPrices, .ref q_p0_tariff_newPercents, .int v_p0_tariff_newClauses, .int v_p0_tariff_state, .int v_p0_tariff_subject, .int v_p0_tariff_number, .int v_p0_tariff_digits])), (q_p0_tariff_text, .inl (cI, 60, .inl v_p0_tariff_text)), (q_p2, .inl (cJ, n_p2, .inr (.inl v_p2)))] post (fun u : (Nat → Int32) × (Int32) × (Nat → Int64) => [(q_p0, .inr (0, [.ref q_p0_slots, .ref q_p0_tickets, .ref q_p0_requests, .ref q_p0_chances, .ref q_p0_tariff, .ref q_p0_doors])), (q_p0_tariff, .inr (5, [.ref q_p0_tariff_text, .int u.2.1, .ref q_p0_tariff_prices, .ref q_p0_tariff_percents, .int v_p0_tariff_clauses, .ref q_p0_tariff_newPrices, .ref q_p0_tariff_newPercents, .int v_p0_tariff_newClauses, .int v_p0_tariff_state, .int v_p0_tariff_subject, .int v_p0_tariff_number, .int v_p0_tariff_digits])), (q_p0_tariff_text, .inl (cI, 60, .inl u.1)), (q_p2, .inl (cJ, n_p2, .inr (.inl u.2.2)))]) := by
  refine mkiW hl9 (own := R_L) rfl (by decide) ?_
  intro p e s m args below meth c A C0 hTab hNc eav hP hD
  have hN : ∀ q ∈ ([] : List Loc), s.heap.size ≤ q.base := fun q h => by cases h
  obtain ⟨-, hx, hb, hml, hr, hown, hts, hlocks, hK, hZ, hA, hNS⟩ := id C0
  subst eav
  have hS : va_S A s.heap s.heap [] := va_S.rf
  have hl := lv_entry ([.ref q_p0, .int a_1, .ref q_p2]) (n := 4) (Nat.le_of_ble_eq_true rfl)
  rw [lg_entry_eq]
  generalize (lg_sl ([.ref q_p0, .int a_1, .ref q_p2]) ++ List.replicate (4 - (lg_sl ([.ref q_p0, .int a_1, .ref q_p2])).length) Slot.unset).toArray = ls at hl ⊢
  have hl : lv_has ls 4 [(0, .ref q_p0), (1, .int a_1), (2, .ref q_p2)] := hl
  unfold wp_L_unit at hw
  refine lv_aload_n hx hb d_L_unit_0 rfl (lv_at hl 2 rfl) ?_
  refine lv_iconst (v := (0 : Int32)) hx hb d_L_unit_1 (by decide) ?_
  refine lv_aload_n hx hb d_L_unit_2 rfl (lv_at hl 0 rfl) ?_
  refine lv_iload_n hx hb d_L_unit_3 rfl (lv_at hl 1 rfl) ?_
  refine jx_i C0 hP hD hS [0, 1, 2] [3] (ru_Vx C0 (As := [.int a_1]) (rest := [.int (0 : Int32), .ref q_p2]) (c_X_unit l hl9 dC dI cI cJ cZ q_p0 q_p0_tariff q_p0_tariff_text q_p0_slots q_p0_tickets q_p0_requests q_p0_chances q_p0_doors q_p0_tariff_prices q_p0_tariff_percents q_p0_tariff_newPrices q_p0_tariff_newPercents a_1 v_p0_tariff_text v_p0_tariff_length v_p0_tariff_clauses v_p0_tariff_newClauses v_p0_tariff_state v_p0_tariff_subject v_p0_tariff_number v_p0_tariff_digits _ _ hw _) k_442 k_443 k_444 k_445 k_86 (n9 := 1) (by decide +kernel) rfl (ci := 0) rfl rfl ⟨Nat.le_of_ble_eq_true rfl, Nat.le_of_ble_eq_true rfl⟩ hP hD hS [0, 1, 2] rfl (by decide) hl.1 rfl (Nat.le_of_ble_eq_true rfl) d_L_unit_4 ⟨Nat.le_of_ble_eq_true rfl, Nat.le_of_ble_eq_true rfl⟩) rfl rfl (by decide) (by decide) (fun E ce q9 H locs hw hP hD hS hce hcv hcl => ?_) (fun r_1 u H locs hw hP hD hS => ?_)
  · rcases hw with ⟨rfl, hw⟩ | ⟨rfl, hw⟩
    · refine xcatch (E := "java/lang/IllegalArgumentException") (name := "java/lang/IllegalArgumentException") C0 [⟨0, 9, 12, 13⟩] ⟨0, 9, 15, 15⟩ [] (by rw [hTab]; rfl) (fun z hz => by
        rcases List.mem_cons.mp hz with rfl | hz
        · exact Or.inr ⟨by decide, "java/lang/IllegalStateException", (hts _ k_411), hNc.1⟩
        exact nomatch hz) (by decide) (by decide) k_412 (zn hZ zc_IAE) hce hcv hcl ?_
      refine lv_astore_n (lv' := [(3, .ref q9), (0, .ref q_p0), (1, .int a_1), (2, .ref q_p2)]) hx hb d_L_unit_15 rfl hl (by decide) rfl (fun ls hl => ?_)
      refine lv_iconst (v := (2 : Int32)) hx hb d_L_unit_16 (by decide) ?_
      exact rw_i (u := (v_p0_tariff_text, v_p0_tariff_length, v_p2)) C0 hw (hP.sub [1, 2, 3, 0] rfl) (hD.sub [1, 2, 3, 0] (by decide) rfl) hS (by decide) (by decide) d_L_unit_17
    · refine xcatch (E := "java/lang/IllegalStateException") (name := "java/lang/IllegalStateException") C0 [] ⟨0, 9, 12, 13⟩ [⟨0, 9, 15, 15⟩] (by rw [hTab]; rfl) (fun z hz => nomatch hz) (by decide) (by decide) k_411 (zn hZ zc_ISE) hce hcv hcl ?_
      refine lv_astore_n (lv' := [(3, .ref q9), (0, .ref q_p0), (1, .int a_1), (2, .ref q_p2)]) hx hb d_L_unit_12 rfl hl (by decide) rfl (fun ls hl => ?_)
      refine lv_iconst (v := (1 : Int32)) hx hb d_L_unit_13 (by decide) ?_
      exact rw_i (u := (v_p0_tariff_text, v_p0_tariff_length, v_p2)) C0 hw (hP.sub [1, 2, 3, 0] rfl) (hD.sub [1, 2, 3, 0] (by decide) rfl) hS (by decide) (by decide) d_L_unit_14
  · obtain ⟨f_2, x_3⟩ := u
    try dsimp only at hw
    have hP : va_P (dC, dI) classes [(q_p2, .inl (cJ, n_p2, .inr (.inl v_p2))), (q_p0, .inr (0, [.ref q_p0_slots, .ref q_p0_tickets, .ref q_p0_requests, .ref q_p0_chances, .ref q_p0_tariff, .ref q_p0_doors])), (q_p0_tariff, .inr (5, [.ref q_p0_tariff_text, .int x_3, .ref q_p0_tariff_prices, .ref q_p0_tariff_percents, .int v_p0_tariff_clauses, .ref q_p0_tariff_newPrices, .ref q_p0_tariff_newPercents, .int v_p0_tariff_newClauses, .int v_p0_tariff_state, .int v_p0_tariff_subject, .int v_p0_tariff_number, .int v_p0_tariff_digits])), (q_p0_tariff_text, .inl (cI, 60, .inl f_2))] H := hP
    have hD : va_D A [(q_p2, .inl (cJ, n_p2, .inr (.inl v_p2))), (q_p0, .inr (0, [.ref q_p0_slots, .ref q_p0_tickets, .ref q_p0_requests, .ref q_p0_chances, .ref q_p0_tariff, .ref q_p0_doors])), (q_p0_tariff, .inr (5, [.ref q_p0_tariff_text, .int x_3, .ref q_p0_tariff_prices, .ref q_p0_tariff_percents, .int v_p0_tariff_clauses, .ref q_p0_tariff_newPrices, .ref q_p0_tariff_newPercents, .int v_p0_tariff_newClauses, .int v_p0_tariff_state, .int v_p0_tariff_subject, .int v_p0_tariff_number, .int v_p0_tariff_digits])), (q_p0_tariff_text, .inl (cI, 60, .inl f_2))] := hD
    refine lv_i2l hx hb d_L_unit_7 rfl ?_
    obtain ⟨h_4, hw⟩ := hw
    refine va_last hx hb hK hP hD hS 0 1 rfl rfl h_4 d_L_unit_8 (fun H locs hP hD hS => ?_)
    obtain ⟨f_5, ef_5⟩ : ∃ g : Nat → Int64, g = vp_updL v_p2 (0 : Int32).toNatClampNeg r_1.toInt64 := ⟨_, rfl⟩
    have hw := hw f_5 ef_5
    have hP : va_P (dC, dI) classes [(q_p2, .inl (cJ, n_p2, .inr (.inl f_5))), (q_p0, .inr (0, [.ref q_p0_slots, .ref q_p0_tickets, .ref q_p0_requests, .ref q_p0_chances, .ref q_p0_tariff, .ref q_p0_doors])), (q_p0_tariff, .inr (5, [.ref q_p0_tariff_text, .int x_3, .ref q_p0_tariff_prices, .ref q_p0_tariff_percents, .int v_p0_tariff_clauses, .ref q_p0_tariff_newPrices, .ref q_p0_tariff_newPercents, .int v_p0_tariff_newClauses, .int v_p0_tariff_state, .int v_p0_tariff_subject, .int v_p0_tariff_number, .int v_p0_tariff_digits])), (q_p0_tariff_text, .inl (cI, 60, .inl f_2))] H := by rw [ef_5]; exact hP
    have hD : va_D A [(q_p2, .inl (cJ, n_p2, .inr (.inl f_5))), (q_p0, .inr (0, [.ref q_p0_slots, .ref q_p0_tickets, .ref q_p0_requests, .ref q_p0_chances, .ref q_p0_tariff, .ref q_p0_doors])), (q_p0_tariff, .inr (5, [.ref q_p0_tariff_text, .int x_3, .ref q_p0_tariff_prices, .ref q_p0_tariff_percents, .int v_p0_tariff_clauses, .ref q_p0_tariff_newPrices, .ref q_p0_tariff_newPercents, .int v_p0_tariff_newClauses, .int v_p0_tariff_state, .int v_p0_tariff_subject, .int v_p0_tariff_number, .int v_p0_tariff_digits])), (q_p0_tariff_text, .inl (cI, 60, .inl f_2))] := by rw [ef_5]; exact hD
    refine lv_goto (tgt := 18) hx hb d_L_unit_9 (by decide) ?_
    refine lv_iconst (v := (0 : Int32)) hx hb d_L_unit_18 (by decide) ?_
    exact rw_i (u := (f_2, x_3, f_5)) C0 hw (hP.sub [1, 2, 3, 0] rfl) (hD.sub [1, 2, 3, 0] (by decide) rfl) hS (by decide) (by decide) d_L_unit_19
theorem d_L_price_0 : decode b_L_price 0 = .ok (.aload_n 2, 1) := by decide +kernel
theorem d_L_price_1 : decode b_L_price 1 = .ok (.iconst 0, 1) := by decide +kernel
theorem d_L_price_2 : decode b_L_price 2 = .ok (.aload_n 0, 1) := by decide +kernel
theorem d_L_price_3 : decode b_L_price 3 = .ok (.iload_n 1, 1) := by decide +kernel
theorem d_L_price_4 : decode b_L_price 4 = .ok (.invokevirtual 45, 3) := by decide +kernel
theorem d_L_price_7 : decode b_L_price 7 = .ok (.i2l, 1) := by decide +kernel
theorem d_L_price_8 : decode b_L_price 8 = .ok (.lastore, 1) := by decide +kernel
theorem d_L_price_9 : decode b_L_price 9 = .ok (.goto 6, 3) := by decide +kernel
theorem d_L_price_12 : decode b_L_price 12 = .ok (.astore_n 3, 1) := by decide +kernel
theorem d_L_price_13 : decode b_L_price 13 = .ok (.iconst 1, 1) := by decide +kernel
theorem d_L_price_14 : decode b_L_price 14 = .ok (.ireturn, 1) := by decide +kernel
theorem d_L_price_15 : decode b_L_price 15 = .ok (.iconst 0, 1) := by decide +kernel
theorem d_L_price_16 : decode b_L_price 16 = .ok (.ireturn, 1) := by decide +kernel
def wp_L_price (post : Int32 → (Nat → Int64) → Prop) (n_p2 : Nat) (a_1 : Int32) (v_p0_tickets_guests : Nat → Int32) (v_p0_tickets_kind : Nat → Int32) (v_p0_tickets_made : Int32) (v_p0_tariff_prices : Nat → Int32) (v_p0_tariff_percents : Nat → Int32) (v_p2 : Nat → Int64) : Prop := wp_X_price (fun r_1 _ => (vp_in (0 : Int32) n_p2 ∧ (∀ f_3 : Nat → Int64, f_3 = vp_updL v_p2 (0 : Int32).toNatClampNeg r_1.toInt64 → post (0 : Int32) f_3))) (fun E => (E = "java/lang/IndexOutOfBoundsException" ∧ post (1 : Int32) v_p2)) a_1 v_p0_tickets_guests v_p0_tickets_kind v_p0_tickets_made v_p0_tariff_prices v_p0_tariff_percents
set_option maxHeartbeats 4000000 in
set_option maxRecDepth 100000 in
theorem c_L_price (l : Launch) (hl9 : l.stackTraces = false) (dC : Nat → ClassId) (dI : Nat → Nat → Nat) (cI cJ cZ : ClassId) (q_p0 q_p0_tickets q_p0_tickets_guests q_p0_tickets_kind q_p0_tariff q_p0_tariff_prices q_p0_tariff_percents q_p2 q_p0_slots q_p0_requests q_p0_chances q_p0_doors q_p0_tickets_slot q_p0_tickets_returned q_p0_tariff_text q_p0_tariff_newPrices q_p0_tariff_newPercents : Nat) (n_p2 : Nat) (a_1 : Int32) (v_p0_tickets_guests : Nat → Int32) (v_p0_tickets_kind : Nat → Int32) (v_p0_tickets_made : Int32) (v_p0_tariff_length : Int32) (v_p0_tariff_prices : Nat → Int32) (v_p0_tariff_percents : Nat → Int32) (v_p0_tariff_clauses : Int32) (v_p0_tariff_newClauses : Int32) (v_p0_tariff_state : Int32) (v_p0_tariff_subject : Int32) (v_p0_tariff_number : Int32) (v_p0_tariff_digits : Int32) (v_p2 : Nat → Int64) (post : Int32 → (Nat → Int64) → Prop) (hw : wp_L_price post n_p2 a_1 v_p0_tickets_guests v_p0_tickets_kind v_p0_tickets_made v_p0_tariff_prices v_p0_tariff_percents v_p2) : KiW l y_L_price b_L_price 4 (some .int) [(0, 9, 12, 21)] ({ frames := 8, cells := 1, slots := 6, locals := 124 } : Room) dC dI cI cJ cZ [.ref q_p0, .int a_1, .ref q_p2] [(q_p0, .inr (0, [.ref q_p0_slots, .ref q_p0_tickets, .ref q_p0_requests, .ref q_p0_chances, .ref q_p0_tariff, .ref q_p0_doors])), (q_p0_tickets, .inr (2, [.ref q_p0_tickets_slot, .ref q_p0_tickets_guests, .ref q_p0_tickets_kind, .ref q_p0_tickets_returned, .int v_p0_tickets_made])), (q_p0_tickets_guests, .inl (cI, 60, .inl v_p0_tickets_guests)), (q_p0_tickets_kind, .inl (cI, 60, .inl v_p0_tickets_kind)), (q_p0_tariff, .inr (5, [.ref q_p0_tariff_text, .int v_p0_tariff_length, .ref q_p0_tariff_prices, .ref q_p0_tariff_percents, .int v_p0_tariff_clauses, .ref q_p0_tariff_newPrices, .ref q_p0_tariff_newPercents, .int v_p0_tariff_newClauses, .int v_p0_tariff_state, .int v_p0_tariff_subject, .int v_p0_tariff_number, .int v_p0_tariff_digits])), (q_p0_tariff_prices, .inl (cI, 5, .inl v_p0_tariff_prices)), (q_p0_tariff_percents, .inl (cI, 10, .inl v_p0_tariff_percents)), (q_p2, .inl (cJ, n_p2, .inr (.inl v_p2)))] post (fun u : (Nat → Int64) => [(q_p0, .inr (0, [.ref q_p0_slots, .ref q_p0_tickets, .ref q_p0_requests, .ref q_p0_chances, .ref q_p0_tariff, .ref q_p0_doors])), (q_p0_tickets, .inr (2, [.ref q_p0_tickets_slot, .ref q_p0_tickets_guests, .ref q_p0_tickets_kind, .ref q_p0_tickets_returned, .int v_p0_tickets_made])), (q_p0_tickets_guests, .inl (cI, 60, .inl v_p0_tickets_guests)), (q_p0_tickets_kind, .inl (cI, 60, .inl v_p0_tickets_kind)), (q_p0_tariff, .inr (5, [.ref q_p0_tariff_text, .int v_p0_tariff_length, .ref q_p0_tariff_prices, .ref q_p0_tariff_percents, .int v_p0_tariff_clauses, .ref q_p0_tariff_newPrices, .ref q_p0_tariff_newPercents, .int v_p0_tariff_newClauses, .int v_p0_tariff_state, .int v_p0_tariff_subject, .int v_p0_tariff_number, .int v_p0_tariff_digits])), (q_p0_tariff_prices, .inl (cI, 5, .inl v_p0_tariff_prices)), (q_p0_tariff_percents, .inl (cI, 10, .inl v_p0_tariff_percents)), (q_p2, .inl (cJ, n_p2, .inr (.inl u)))]) := by
  refine mkiW hl9 (own := R_L) rfl (by decide) ?_
  intro p e s m args below meth c A C0 hTab hNc eav hP hD
  have hN : ∀ q ∈ ([] : List Loc), s.heap.size ≤ q.base := fun q h => by cases h
  obtain ⟨-, hx, hb, hml, hr, hown, hts, hlocks, hK, hZ, hA, hNS⟩ := id C0
  subst eav
  have hS : va_S A s.heap s.heap [] := va_S.rf
  have hl := lv_entry ([.ref q_p0, .int a_1, .ref q_p2]) (n := 4) (Nat.le_of_ble_eq_true rfl)
  rw [lg_entry_eq]
  generalize (lg_sl ([.ref q_p0, .int a_1, .ref q_p2]) ++ List.replicate (4 - (lg_sl ([.ref q_p0, .int a_1, .ref q_p2])).length) Slot.unset).toArray = ls at hl ⊢
  have hl : lv_has ls 4 [(0, .ref q_p0), (1, .int a_1), (2, .ref q_p2)] := hl
  unfold wp_L_price at hw
  refine lv_aload_n hx hb d_L_price_0 rfl (lv_at hl 2 rfl) ?_
  refine lv_iconst (v := (0 : Int32)) hx hb d_L_price_1 (by decide) ?_
  refine lv_aload_n hx hb d_L_price_2 rfl (lv_at hl 0 rfl) ?_
  refine lv_iload_n hx hb d_L_price_3 rfl (lv_at hl 1 rfl) ?_
  refine jx_i C0 hP hD hS [0, 1, 2, 3, 4, 5, 6] [7] (ru_Vx C0 (As := [.int a_1]) (rest := [.int (0 : Int32), .ref q_p2]) (c_X_price l hl9 dC dI cI cJ cZ q_p0 q_p0_tickets q_p0_tickets_guests q_p0_tickets_kind q_p0_tariff q_p0_tariff_prices q_p0_tariff_percents q_p0_slots q_p0_requests q_p0_chances q_p0_doors q_p0_tickets_slot q_p0_tickets_returned q_p0_tariff_text q_p0_tariff_newPrices q_p0_tariff_newPercents a_1 v_p0_tickets_guests v_p0_tickets_kind v_p0_tickets_made v_p0_tariff_length v_p0_tariff_prices v_p0_tariff_percents v_p0_tariff_clauses v_p0_tariff_newClauses v_p0_tariff_state v_p0_tariff_subject v_p0_tariff_number v_p0_tariff_digits _ _ hw _) k_446 k_447 k_448 k_449 k_86 (n9 := 1) (by decide +kernel) rfl (ci := 0) rfl rfl ⟨Nat.le_of_ble_eq_true rfl, Nat.le_of_ble_eq_true rfl⟩ hP hD hS [0, 1, 2, 3, 4, 5, 6] rfl (by decide) hl.1 rfl (Nat.le_of_ble_eq_true rfl) d_L_price_4 ⟨Nat.le_of_ble_eq_true rfl, Nat.le_of_ble_eq_true rfl⟩) rfl rfl (by decide) (by decide) (fun E ce q9 H locs hw hP hD hS hce hcv hcl => ?_) (fun r_1 u H locs hw hP hD hS => ?_)
  · obtain ⟨rfl, hw⟩ := hw
    refine xcatch (E := "java/lang/IndexOutOfBoundsException") (name := "java/lang/IndexOutOfBoundsException") C0 [] ⟨0, 9, 12, 21⟩ [] (by rw [hTab]; rfl) (fun z hz => nomatch hz) (by decide) (by decide) k_417 (zn hZ zc_IOB) hce hcv hcl ?_
    refine lv_astore_n (lv' := [(3, .ref q9), (0, .ref q_p0), (1, .int a_1), (2, .ref q_p2)]) hx hb d_L_price_12 rfl hl (by decide) rfl (fun ls hl => ?_)
    refine lv_iconst (v := (1 : Int32)) hx hb d_L_price_13 (by decide) ?_
    exact rw_i (u := v_p2) C0 hw (hP.sub [1, 2, 3, 4, 5, 6, 7, 0] rfl) (hD.sub [1, 2, 3, 4, 5, 6, 7, 0] (by decide) rfl) hS (by decide) (by decide) d_L_price_14
  · try dsimp only at hw
    have hP : va_P (dC, dI) classes [(q_p2, .inl (cJ, n_p2, .inr (.inl v_p2))), (q_p0, .inr (0, [.ref q_p0_slots, .ref q_p0_tickets, .ref q_p0_requests, .ref q_p0_chances, .ref q_p0_tariff, .ref q_p0_doors])), (q_p0_tickets, .inr (2, [.ref q_p0_tickets_slot, .ref q_p0_tickets_guests, .ref q_p0_tickets_kind, .ref q_p0_tickets_returned, .int v_p0_tickets_made])), (q_p0_tickets_guests, .inl (cI, 60, .inl v_p0_tickets_guests)), (q_p0_tickets_kind, .inl (cI, 60, .inl v_p0_tickets_kind)), (q_p0_tariff, .inr (5, [.ref q_p0_tariff_text, .int v_p0_tariff_length, .ref q_p0_tariff_prices, .ref q_p0_tariff_percents, .int v_p0_tariff_clauses, .ref q_p0_tariff_newPrices, .ref q_p0_tariff_newPercents, .int v_p0_tariff_newClauses, .int v_p0_tariff_state, .int v_p0_tariff_subject, .int v_p0_tariff_number, .int v_p0_tariff_digits])), (q_p0_tariff_prices, .inl (cI, 5, .inl v_p0_tariff_prices)), (q_p0_tariff_percents, .inl (cI, 10, .inl v_p0_tariff_percents))] H := hP
    have hD : va_D A [(q_p2, .inl (cJ, n_p2, .inr (.inl v_p2))), (q_p0, .inr (0, [.ref q_p0_slots, .ref q_p0_tickets, .ref q_p0_requests, .ref q_p0_chances, .ref q_p0_tariff, .ref q_p0_doors])), (q_p0_tickets, .inr (2, [.ref q_p0_tickets_slot, .ref q_p0_tickets_guests, .ref q_p0_tickets_kind, .ref q_p0_tickets_returned, .int v_p0_tickets_made])), (q_p0_tickets_guests, .inl (cI, 60, .inl v_p0_tickets_guests)), (q_p0_tickets_kind, .inl (cI, 60, .inl v_p0_tickets_kind)), (q_p0_tariff, .inr (5, [.ref q_p0_tariff_text, .int v_p0_tariff_length, .ref q_p0_tariff_prices, .ref q_p0_tariff_percents, .int v_p0_tariff_clauses, .ref q_p0_tariff_newPrices, .ref q_p0_tariff_newPercents, .int v_p0_tariff_newClauses, .int v_p0_tariff_state, .int v_p0_tariff_subject, .int v_p0_tariff_number, .int v_p0_tariff_digits])), (q_p0_tariff_prices, .inl (cI, 5, .inl v_p0_tariff_prices)), (q_p0_tariff_percents, .inl (cI, 10, .inl v_p0_tariff_percents))] := hD
    refine lv_i2l hx hb d_L_price_7 rfl ?_
    obtain ⟨h_2, hw⟩ := hw
    refine va_last hx hb hK hP hD hS 0 1 rfl rfl h_2 d_L_price_8 (fun H locs hP hD hS => ?_)
    obtain ⟨f_3, ef_3⟩ : ∃ g : Nat → Int64, g = vp_updL v_p2 (0 : Int32).toNatClampNeg r_1.toInt64 := ⟨_, rfl⟩
    have hw := hw f_3 ef_3
    have hP : va_P (dC, dI) classes [(q_p2, .inl (cJ, n_p2, .inr (.inl f_3))), (q_p0, .inr (0, [.ref q_p0_slots, .ref q_p0_tickets, .ref q_p0_requests, .ref q_p0_chances, .ref q_p0_tariff, .ref q_p0_doors])), (q_p0_tickets, .inr (2, [.ref q_p0_tickets_slot, .ref q_p0_tickets_guests, .ref q_p0_tickets_kind, .ref q_p0_tickets_returned, .int v_p0_tickets_made])), (q_p0_tickets_guests, .inl (cI, 60, .inl v_p0_tickets_guests)), (q_p0_tickets_kind, .inl (cI, 60, .inl v_p0_tickets_kind)), (q_p0_tariff, .inr (5, [.ref q_p0_tariff_text, .int v_p0_tariff_length, .ref q_p0_tariff_prices, .ref q_p0_tariff_percents, .int v_p0_tariff_clauses, .ref q_p0_tariff_newPrices, .ref q_p0_tariff_newPercents, .int v_p0_tariff_newClauses, .int v_p0_tariff_state, .int v_p0_tariff_subject, .int v_p0_tariff_number, .int v_p0_tariff_digits])), (q_p0_tariff_prices, .inl (cI, 5, .inl v_p0_tariff_prices)), (q_p0_tariff_percents, .inl (cI, 10, .inl v_p0_tariff_percents))] H := by rw [ef_3]; exact hP
    have hD : va_D A [(q_p2, .inl (cJ, n_p2, .inr (.inl f_3))), (q_p0, .inr (0, [.ref q_p0_slots, .ref q_p0_tickets, .ref q_p0_requests, .ref q_p0_chances, .ref q_p0_tariff, .ref q_p0_doors])), (q_p0_tickets, .inr (2, [.ref q_p0_tickets_slot, .ref q_p0_tickets_guests, .ref q_p0_tickets_kind, .ref q_p0_tickets_returned, .int v_p0_tickets_made])), (q_p0_tickets_guests, .inl (cI, 60, .inl v_p0_tickets_guests)), (q_p0_tickets_kind, .inl (cI, 60, .inl v_p0_tickets_kind)), (q_p0_tariff, .inr (5, [.ref q_p0_tariff_text, .int v_p0_tariff_length, .ref q_p0_tariff_prices, .ref q_p0_tariff_percents, .int v_p0_tariff_clauses, .ref q_p0_tariff_newPrices, .ref q_p0_tariff_newPercents, .int v_p0_tariff_newClauses, .int v_p0_tariff_state, .int v_p0_tariff_subject, .int v_p0_tariff_number, .int v_p0_tariff_digits])), (q_p0_tariff_prices, .inl (cI, 5, .inl v_p0_tariff_prices)), (q_p0_tariff_percents, .inl (cI, 10, .inl v_p0_tariff_percents))] := by rw [ef_3]; exact hD
    refine lv_goto (tgt := 15) hx hb d_L_price_9 (by decide) ?_
    refine lv_iconst (v := (0 : Int32)) hx hb d_L_price_15 (by decide) ?_
    exact rw_i (u := f_3) C0 hw (hP.sub [1, 2, 3, 4, 5, 6, 7, 0] rfl) (hD.sub [1, 2, 3, 4, 5, 6, 7, 0] (by decide) rfl) hS (by decide) (by decide) d_L_price_16
theorem d_L_about_0 : decode b_L_about 0 = .ok (.aload_n 3, 1) := by decide +kernel
theorem d_L_about_1 : decode b_L_about 1 = .ok (.iconst 0, 1) := by decide +kernel
theorem d_L_about_2 : decode b_L_about 2 = .ok (.aload_n 0, 1) := by decide +kernel
theorem d_L_about_3 : decode b_L_about 3 = .ok (.iload_n 1, 1) := by decide +kernel
theorem d_L_about_4 : decode b_L_about 4 = .ok (.iload_n 2, 1) := by decide +kernel
theorem d_L_about_5 : decode b_L_about 5 = .ok (.invokevirtual 48, 3) := by decide +kernel
theorem d_L_about_8 : decode b_L_about 8 = .ok (.i2l, 1) := by decide +kernel
theorem d_L_about_9 : decode b_L_about 9 = .ok (.lastore, 1) := by decide +kernel
theorem d_L_about_10 : decode b_L_about 10 = .ok (.goto 7, 3) := by decide +kernel
theorem d_L_about_13 : decode b_L_about 13 = .ok (.astore 4, 2) := by decide +kernel
theorem d_L_about_15 : decode b_L_about 15 = .ok (.iconst 1, 1) := by decide +kernel
theorem d_L_about_16 : decode b_L_about 16 = .ok (.ireturn, 1) := by decide +kernel
theorem d_L_about_17 : decode b_L_about 17 = .ok (.iconst 0, 1) := by decide +kernel
theorem d_L_about_18 : decode b_L_about 18 = .ok (.ireturn, 1) := by decide +kernel
def wp_L_about (post : Int32 → (Nat → Int64) → Prop) (n_p3 : Nat) (a_1 : Int32) (a_2 : Int32) (v_p0_tickets_slot : Nat → Int32) (v_p0_tickets_guests : Nat → Int32) (v_p0_tickets_kind : Nat → Int32) (v_p0_tickets_returned : Nat → Int32) (v_p0_tickets_made : Int32) (v_p3 : Nat → Int64) : Prop := wp_X_about (fun r_1 _ => (vp_in (0 : Int32) n_p3 ∧ (∀ f_3 : Nat → Int64, f_3 = vp_updL v_p3 (0 : Int32).toNatClampNeg r_1.toInt64 → post (0 : Int32) f_3))) (fun E => (E = "java/lang/IndexOutOfBoundsException" ∧ post (1 : Int32) v_p3)) a_1 a_2 v_p0_tickets_slot v_p0_tickets_guests v_p0_tickets_kind v_p0_tickets_returned v_p0_tickets_made
set_option maxHeartbeats 4000000 in
set_option maxRecDepth 100000 in
theorem c_L_about (l : Launch) (hl9 : l.stackTraces = false) (dC : Nat → ClassId) (dI : Nat → Nat → Nat) (cI cJ cZ : ClassId) (q_p0 q_p0_tickets q_p0_tickets_slot q_p0_tickets_guests q_p0_tickets_kind q_p0_tickets_returned q_p3 q_p0_slots q_p0_requests q_p0_chances q_p0_tariff q_p0_doors : Nat) (n_p3 : Nat) (a_1 : Int32) (a_2 : Int32) (v_p0_tickets_slot : Nat → Int32) (v_p0_tickets_guests : Nat → Int32) (v_p0_tickets_kind : Nat → Int32) (v_p0_tickets_returned : Nat → Int32) (v_p0_tickets_made : Int32) (v_p3 : Nat → Int64) (post : Int32 → (Nat → Int64) → Prop) (hw : wp_L_about post n_p3 a_1 a_2 v_p0_tickets_slot v_p0_tickets_guests v_p0_tickets_kind v_p0_tickets_returned v_p0_tickets_made v_p3) : KiW l y_L_about b_L_about 5 (some .int) [(0, 10, 13, 21)] ({ frames := 8, cells := 1, slots := 6, locals := 125 } : Room) dC dI cI cJ cZ [.ref q_p0, .int a_1, .int a_2, .ref q_p3] [(q_p0, .inr (0, [.ref q_p0_slots, .ref q_p0_tickets, .ref q_p0_requests, .ref q_p0_chances, .ref q_p0_tariff, .ref q_p0_doors])), (q_p0_tickets, .inr (2, [.ref q_p0_tickets_slot, .ref q_p0_tickets_guests, .ref q_p0_tickets_kind, .ref q_p0_tickets_returned, .int v_p0_tickets_made])), (q_p0_tickets_slot, .inl (cI, 60, .inl v_p0_tickets_slot)), (q_p0_tickets_guests, .inl (cI, 60, .inl v_p0_tickets_guests)), (q_p0_tickets_kind, .inl (cI, 60, .inl v_p0_tickets_kind)), (q_p0_tickets_returned, .inl (cZ, 60, .inl v_p0_tickets_returned)), (q_p3, .inl (cJ, n_p3, .inr (.inl v_p3)))] post (fun u : (Nat → Int64) => [(q_p0, .inr (0, [.ref q_p0_slots, .ref q_p0_tickets, .ref q_p0_requests, .ref q_p0_chances, .ref q_p0_tariff, .ref q_p0_doors])), (q_p0_tickets, .inr (2, [.ref q_p0_tickets_slot, .ref q_p0_tickets_guests, .ref q_p0_tickets_kind, .ref q_p0_tickets_returned, .int v_p0_tickets_made])), (q_p0_tickets_slot, .inl (cI, 60, .inl v_p0_tickets_slot)), (q_p0_tickets_guests, .inl (cI, 60, .inl v_p0_tickets_guests)), (q_p0_tickets_kind, .inl (cI, 60, .inl v_p0_tickets_kind)), (q_p0_tickets_returned, .inl (cZ, 60, .inl v_p0_tickets_returned)), (q_p3, .inl (cJ, n_p3, .inr (.inl u)))]) := by
  refine mkiW hl9 (own := R_L) rfl (by decide) ?_
  intro p e s m args below meth c A C0 hTab hNc eav hP hD
  have hN : ∀ q ∈ ([] : List Loc), s.heap.size ≤ q.base := fun q h => by cases h
  obtain ⟨-, hx, hb, hml, hr, hown, hts, hlocks, hK, hZ, hA, hNS⟩ := id C0
  subst eav
  have hS : va_S A s.heap s.heap [] := va_S.rf
  have hl := lv_entry ([.ref q_p0, .int a_1, .int a_2, .ref q_p3]) (n := 5) (Nat.le_of_ble_eq_true rfl)
  rw [lg_entry_eq]
  generalize (lg_sl ([.ref q_p0, .int a_1, .int a_2, .ref q_p3]) ++ List.replicate (5 - (lg_sl ([.ref q_p0, .int a_1, .int a_2, .ref q_p3])).length) Slot.unset).toArray = ls at hl ⊢
  have hl : lv_has ls 5 [(0, .ref q_p0), (1, .int a_1), (2, .int a_2), (3, .ref q_p3)] := hl
  unfold wp_L_about at hw
  refine lv_aload_n hx hb d_L_about_0 rfl (lv_at hl 3 rfl) ?_
  refine lv_iconst (v := (0 : Int32)) hx hb d_L_about_1 (by decide) ?_
  refine lv_aload_n hx hb d_L_about_2 rfl (lv_at hl 0 rfl) ?_
  refine lv_iload_n hx hb d_L_about_3 rfl (lv_at hl 1 rfl) ?_
  refine lv_iload_n hx hb d_L_about_4 rfl (lv_at hl 2 rfl) ?_
  refine jx_i C0 hP hD hS [0, 1, 2, 3, 4, 5] [6] (ru_Vx C0 (As := [.int a_1, .int a_2]) (rest := [.int (0 : Int32), .ref q_p3]) (c_X_about l hl9 dC dI cI cJ cZ q_p0 q_p0_tickets q_p0_tickets_slot q_p0_tickets_guests q_p0_tickets_kind q_p0_tickets_returned q_p0_slots q_p0_requests q_p0_chances q_p0_tariff q_p0_doors a_1 a_2 v_p0_tickets_slot v_p0_tickets_guests v_p0_tickets_kind v_p0_tickets_returned v_p0_tickets_made _ _ hw _) k_450 k_451 k_452 k_453 k_86 (n9 := 2) (by decide +kernel) rfl (ci := 0) rfl rfl ⟨Nat.le_of_ble_eq_true rfl, Nat.le_of_ble_eq_true rfl⟩ hP hD hS [0, 1, 2, 3, 4, 5] rfl (by decide) hl.1 rfl (Nat.le_of_ble_eq_true rfl) d_L_about_5 ⟨Nat.le_of_ble_eq_true rfl, Nat.le_of_ble_eq_true rfl⟩) rfl rfl (by decide) (by decide) (fun E ce q9 H locs hw hP hD hS hce hcv hcl => ?_) (fun r_1 u H locs hw hP hD hS => ?_)
  · obtain ⟨rfl, hw⟩ := hw
    refine xcatch (E := "java/lang/IndexOutOfBoundsException") (name := "java/lang/IndexOutOfBoundsException") C0 [] ⟨0, 10, 13, 21⟩ [] (by rw [hTab]; rfl) (fun z hz => nomatch hz) (by decide) (by decide) k_417 (zn hZ zc_IOB) hce hcv hcl ?_
    refine lv_astore (lv' := [(4, .ref q9), (0, .ref q_p0), (1, .int a_1), (2, .int a_2), (3, .ref q_p3)]) hx hb d_L_about_13 hl (by decide) rfl (fun ls hl => ?_)
    refine lv_iconst (v := (1 : Int32)) hx hb d_L_about_15 (by decide) ?_
    exact rw_i (u := v_p3) C0 hw (hP.sub [1, 2, 3, 4, 5, 6, 0] rfl) (hD.sub [1, 2, 3, 4, 5, 6, 0] (by decide) rfl) hS (by decide) (by decide) d_L_about_16
  · try dsimp only at hw
    have hP : va_P (dC, dI) classes [(q_p3, .inl (cJ, n_p3, .inr (.inl v_p3))), (q_p0, .inr (0, [.ref q_p0_slots, .ref q_p0_tickets, .ref q_p0_requests, .ref q_p0_chances, .ref q_p0_tariff, .ref q_p0_doors])), (q_p0_tickets, .inr (2, [.ref q_p0_tickets_slot, .ref q_p0_tickets_guests, .ref q_p0_tickets_kind, .ref q_p0_tickets_returned, .int v_p0_tickets_made])), (q_p0_tickets_slot, .inl (cI, 60, .inl v_p0_tickets_slot)), (q_p0_tickets_guests, .inl (cI, 60, .inl v_p0_tickets_guests)), (q_p0_tickets_kind, .inl (cI, 60, .inl v_p0_tickets_kind)), (q_p0_tickets_returned, .inl (cZ, 60, .inl v_p0_tickets_returned))] H := hP
    have hD : va_D A [(q_p3, .inl (cJ, n_p3, .inr (.inl v_p3))), (q_p0, .inr (0, [.ref q_p0_slots, .ref q_p0_tickets, .ref q_p0_requests, .ref q_p0_chances, .ref q_p0_tariff, .ref q_p0_doors])), (q_p0_tickets, .inr (2, [.ref q_p0_tickets_slot, .ref q_p0_tickets_guests, .ref q_p0_tickets_kind, .ref q_p0_tickets_returned, .int v_p0_tickets_made])), (q_p0_tickets_slot, .inl (cI, 60, .inl v_p0_tickets_slot)), (q_p0_tickets_guests, .inl (cI, 60, .inl v_p0_tickets_guests)), (q_p0_tickets_kind, .inl (cI, 60, .inl v_p0_tickets_kind)), (q_p0_tickets_returned, .inl (cZ, 60, .inl v_p0_tickets_returned))] := hD
    refine lv_i2l hx hb d_L_about_8 rfl ?_
    obtain ⟨h_2, hw⟩ := hw
    refine va_last hx hb hK hP hD hS 0 1 rfl rfl h_2 d_L_about_9 (fun H locs hP hD hS => ?_)
    obtain ⟨f_3, ef_3⟩ : ∃ g : Nat → Int64, g = vp_updL v_p3 (0 : Int32).toNatClampNeg r_1.toInt64 := ⟨_, rfl⟩
    have hw := hw f_3 ef_3
    have hP : va_P (dC, dI) classes [(q_p3, .inl (cJ, n_p3, .inr (.inl f_3))), (q_p0, .inr (0, [.ref q_p0_slots, .ref q_p0_tickets, .ref q_p0_requests, .ref q_p0_chances, .ref q_p0_tariff, .ref q_p0_doors])), (q_p0_tickets, .inr (2, [.ref q_p0_tickets_slot, .ref q_p0_tickets_guests, .ref q_p0_tickets_kind, .ref q_p0_tickets_returned, .int v_p0_tickets_made])), (q_p0_tickets_slot, .inl (cI, 60, .inl v_p0_tickets_slot)), (q_p0_tickets_guests, .inl (cI, 60, .inl v_p0_tickets_guests)), (q_p0_tickets_kind, .inl (cI, 60, .inl v_p0_tickets_kind)), (q_p0_tickets_returned, .inl (cZ, 60, .inl v_p0_tickets_returned))] H := by rw [ef_3]; exact hP
    have hD : va_D A [(q_p3, .inl (cJ, n_p3, .inr (.inl f_3))), (q_p0, .inr (0, [.ref q_p0_slots, .ref q_p0_tickets, .ref q_p0_requests, .ref q_p0_chances, .ref q_p0_tariff, .ref q_p0_doors])), (q_p0_tickets, .inr (2, [.ref q_p0_tickets_slot, .ref q_p0_tickets_guests, .ref q_p0_tickets_kind, .ref q_p0_tickets_returned, .int v_p0_tickets_made])), (q_p0_tickets_slot, .inl (cI, 60, .inl v_p0_tickets_slot)), (q_p0_tickets_guests, .inl (cI, 60, .inl v_p0_tickets_guests)), (q_p0_tickets_kind, .inl (cI, 60, .inl v_p0_tickets_kind)), (q_p0_tickets_returned, .inl (cZ, 60, .inl v_p0_tickets_returned))] := by rw [ef_3]; exact hD
    refine lv_goto (tgt := 17) hx hb d_L_about_10 (by decide) ?_
    refine lv_iconst (v := (0 : Int32)) hx hb d_L_about_17 (by decide) ?_
    exact rw_i (u := f_3) C0 hw (hP.sub [1, 2, 3, 4, 5, 6, 0] rfl) (hD.sub [1, 2, 3, 4, 5, 6, 0] (by decide) rfl) hS (by decide) (by decide) d_L_about_18
theorem d_L_code_0 : decode b_L_code 0 = .ok (.aload_n 3, 1) := by decide +kernel
theorem d_L_code_1 : decode b_L_code 1 = .ok (.iconst 0, 1) := by decide +kernel
theorem d_L_code_2 : decode b_L_code 2 = .ok (.aload_n 0, 1) := by decide +kernel
theorem d_L_code_3 : decode b_L_code 3 = .ok (.iload_n 1, 1) := by decide +kernel
theorem d_L_code_4 : decode b_L_code 4 = .ok (.iload_n 2, 1) := by decide +kernel
theorem d_L_code_5 : decode b_L_code 5 = .ok (.invokevirtual 52, 3) := by decide +kernel
theorem d_L_code_8 : decode b_L_code 8 = .ok (.i2l, 1) := by decide +kernel
theorem d_L_code_9 : decode b_L_code 9 = .ok (.lastore, 1) := by decide +kernel
theorem d_L_code_10 : decode b_L_code 10 = .ok (.goto 7, 3) := by decide +kernel
theorem d_L_code_13 : decode b_L_code 13 = .ok (.astore 4, 2) := by decide +kernel
theorem d_L_code_15 : decode b_L_code 15 = .ok (.iconst 1, 1) := by decide +kernel
theorem d_L_code_16 : decode b_L_code 16 = .ok (.ireturn, 1) := by decide +kernel
theorem d_L_code_17 : decode b_L_code 17 = .ok (.iconst 0, 1) := by decide +kernel
theorem d_L_code_18 : decode b_L_code 18 = .ok (.ireturn, 1) := by decide +kernel
def wp_L_code (post : Int32 → (Nat → Int64) → Prop) (n_p3 : Nat) (a_1 : Int32) (a_2 : Int32) (v_p0_tickets_slot : Nat → Int32) (v_p0_tickets_made : Int32) (v_p3 : Nat → Int64) : Prop := wp_X_code (fun r_1 _ => (vp_in (0 : Int32) n_p3 ∧ (∀ f_3 : Nat → Int64, f_3 = vp_updL v_p3 (0 : Int32).toNatClampNeg r_1.toInt64 → post (0 : Int32) f_3))) (fun E => (E = "java/lang/IndexOutOfBoundsException" ∧ post (1 : Int32) v_p3)) a_1 a_2 v_p0_tickets_slot v_p0_tickets_made
set_option maxHeartbeats 4000000 in
set_option maxRecDepth 100000 in
theorem c_L_code (l : Launch) (hl9 : l.stackTraces = false) (dC : Nat → ClassId) (dI : Nat → Nat → Nat) (cI cJ cZ : ClassId) (q_p0 q_p0_tickets q_p0_tickets_slot q_p3 q_p0_slots q_p0_requests q_p0_chances q_p0_tariff q_p0_doors q_p0_tickets_guests q_p0_tickets_kind q_p0_tickets_returned : Nat) (n_p3 : Nat) (a_1 : Int32) (a_2 : Int32) (v_p0_tickets_slot : Nat → Int32) (v_p0_tickets_made : Int32) (v_p3 : Nat → Int64) (post : Int32 → (Nat → Int64) → Prop) (hw : wp_L_code post n_p3 a_1 a_2 v_p0_tickets_slot v_p0_tickets_made v_p3) : KiW l y_L_code b_L_code 5 (some .int) [(0, 10, 13, 21)] ({ frames := 8, cells := 1, slots := 6, locals := 125 } : Room) dC dI cI cJ cZ [.ref q_p0, .int a_1, .int a_2, .ref q_p3] [(q_p0, .inr (0, [.ref q_p0_slots, .ref q_p0_tickets, .ref q_p0_requests, .ref q_p0_chances, .ref q_p0_tariff, .ref q_p0_doors])), (q_p0_tickets, .inr (2, [.ref q_p0_tickets_slot, .ref q_p0_tickets_guests, .ref q_p0_tickets_kind, .ref q_p0_tickets_returned, .int v_p0_tickets_made])), (q_p0_tickets_slot, .inl (cI, 60, .inl v_p0_tickets_slot)), (q_p3, .inl (cJ, n_p3, .inr (.inl v_p3)))] post (fun u : (Nat → Int64) => [(q_p0, .inr (0, [.ref q_p0_slots, .ref q_p0_tickets, .ref q_p0_requests, .ref q_p0_chances, .ref q_p0_tariff, .ref q_p0_doors])), (q_p0_tickets, .inr (2, [.ref q_p0_tickets_slot, .ref q_p0_tickets_guests, .ref q_p0_tickets_kind, .ref q_p0_tickets_returned, .int v_p0_tickets_made])), (q_p0_tickets_slot, .inl (cI, 60, .inl v_p0_tickets_slot)), (q_p3, .inl (cJ, n_p3, .inr (.inl u)))]) := by
  refine mkiW hl9 (own := R_L) rfl (by decide) ?_
  intro p e s m args below meth c A C0 hTab hNc eav hP hD
  have hN : ∀ q ∈ ([] : List Loc), s.heap.size ≤ q.base := fun q h => by cases h
  obtain ⟨-, hx, hb, hml, hr, hown, hts, hlocks, hK, hZ, hA, hNS⟩ := id C0
  subst eav
  have hS : va_S A s.heap s.heap [] := va_S.rf
  have hl := lv_entry ([.ref q_p0, .int a_1, .int a_2, .ref q_p3]) (n := 5) (Nat.le_of_ble_eq_true rfl)
  rw [lg_entry_eq]
  generalize (lg_sl ([.ref q_p0, .int a_1, .int a_2, .ref q_p3]) ++ List.replicate (5 - (lg_sl ([.ref q_p0, .int a_1, .int a_2, .ref q_p3])).length) Slot.unset).toArray = ls at hl ⊢
  have hl : lv_has ls 5 [(0, .ref q_p0), (1, .int a_1), (2, .int a_2), (3, .ref q_p3)] := hl
  unfold wp_L_code at hw
  refine lv_aload_n hx hb d_L_code_0 rfl (lv_at hl 3 rfl) ?_
  refine lv_iconst (v := (0 : Int32)) hx hb d_L_code_1 (by decide) ?_
  refine lv_aload_n hx hb d_L_code_2 rfl (lv_at hl 0 rfl) ?_
  refine lv_iload_n hx hb d_L_code_3 rfl (lv_at hl 1 rfl) ?_
  refine lv_iload_n hx hb d_L_code_4 rfl (lv_at hl 2 rfl) ?_
  refine jx_i C0 hP hD hS [0, 1, 2] [3] (ru_Vx C0 (As := [.int a_1, .int a_2]) (rest := [.int (0 : Int32), .ref q_p3]) (c_X_code l hl9 dC dI cI cJ cZ q_p0 q_p0_tickets q_p0_tickets_slot q_p0_slots q_p0_requests q_p0_chances q_p0_tariff q_p0_doors q_p0_tickets_guests q_p0_tickets_kind q_p0_tickets_returned a_1 a_2 v_p0_tickets_slot v_p0_tickets_made _ _ hw _) k_454 k_455 k_456 k_457 k_86 (n9 := 2) (by decide +kernel) rfl (ci := 0) rfl rfl ⟨Nat.le_of_ble_eq_true rfl, Nat.le_of_ble_eq_true rfl⟩ hP hD hS [0, 1, 2] rfl (by decide) hl.1 rfl (Nat.le_of_ble_eq_true rfl) d_L_code_5 ⟨Nat.le_of_ble_eq_true rfl, Nat.le_of_ble_eq_true rfl⟩) rfl rfl (by decide) (by decide) (fun E ce q9 H locs hw hP hD hS hce hcv hcl => ?_) (fun r_1 u H locs hw hP hD hS => ?_)
  · obtain ⟨rfl, hw⟩ := hw
    refine xcatch (E := "java/lang/IndexOutOfBoundsException") (name := "java/lang/IndexOutOfBoundsException") C0 [] ⟨0, 10, 13, 21⟩ [] (by rw [hTab]; rfl) (fun z hz => nomatch hz) (by decide) (by decide) k_417 (zn hZ zc_IOB) hce hcv hcl ?_
    refine lv_astore (lv' := [(4, .ref q9), (0, .ref q_p0), (1, .int a_1), (2, .int a_2), (3, .ref q_p3)]) hx hb d_L_code_13 hl (by decide) rfl (fun ls hl => ?_)
    refine lv_iconst (v := (1 : Int32)) hx hb d_L_code_15 (by decide) ?_
    exact rw_i (u := v_p3) C0 hw (hP.sub [1, 2, 3, 0] rfl) (hD.sub [1, 2, 3, 0] (by decide) rfl) hS (by decide) (by decide) d_L_code_16
  · try dsimp only at hw
    have hP : va_P (dC, dI) classes [(q_p3, .inl (cJ, n_p3, .inr (.inl v_p3))), (q_p0, .inr (0, [.ref q_p0_slots, .ref q_p0_tickets, .ref q_p0_requests, .ref q_p0_chances, .ref q_p0_tariff, .ref q_p0_doors])), (q_p0_tickets, .inr (2, [.ref q_p0_tickets_slot, .ref q_p0_tickets_guests, .ref q_p0_tickets_kind, .ref q_p0_tickets_returned, .int v_p0_tickets_made])), (q_p0_tickets_slot, .inl (cI, 60, .inl v_p0_tickets_slot))] H := hP
    have hD : va_D A [(q_p3, .inl (cJ, n_p3, .inr (.inl v_p3))), (q_p0, .inr (0, [.ref q_p0_slots, .ref q_p0_tickets, .ref q_p0_requests, .ref q_p0_chances, .ref q_p0_tariff, .ref q_p0_doors])), (q_p0_tickets, .inr (2, [.ref q_p0_tickets_slot, .ref q_p0_tickets_guests, .ref q_p0_tickets_kind, .ref q_p0_tickets_returned, .int v_p0_tickets_made])), (q_p0_tickets_slot, .inl (cI, 60, .inl v_p0_tickets_slot))] := hD
    refine lv_i2l hx hb d_L_code_8 rfl ?_
    obtain ⟨h_2, hw⟩ := hw
    refine va_last hx hb hK hP hD hS 0 1 rfl rfl h_2 d_L_code_9 (fun H locs hP hD hS => ?_)
    obtain ⟨f_3, ef_3⟩ : ∃ g : Nat → Int64, g = vp_updL v_p3 (0 : Int32).toNatClampNeg r_1.toInt64 := ⟨_, rfl⟩
    have hw := hw f_3 ef_3
    have hP : va_P (dC, dI) classes [(q_p3, .inl (cJ, n_p3, .inr (.inl f_3))), (q_p0, .inr (0, [.ref q_p0_slots, .ref q_p0_tickets, .ref q_p0_requests, .ref q_p0_chances, .ref q_p0_tariff, .ref q_p0_doors])), (q_p0_tickets, .inr (2, [.ref q_p0_tickets_slot, .ref q_p0_tickets_guests, .ref q_p0_tickets_kind, .ref q_p0_tickets_returned, .int v_p0_tickets_made])), (q_p0_tickets_slot, .inl (cI, 60, .inl v_p0_tickets_slot))] H := by rw [ef_3]; exact hP
    have hD : va_D A [(q_p3, .inl (cJ, n_p3, .inr (.inl f_3))), (q_p0, .inr (0, [.ref q_p0_slots, .ref q_p0_tickets, .ref q_p0_requests, .ref q_p0_chances, .ref q_p0_tariff, .ref q_p0_doors])), (q_p0_tickets, .inr (2, [.ref q_p0_tickets_slot, .ref q_p0_tickets_guests, .ref q_p0_tickets_kind, .ref q_p0_tickets_returned, .int v_p0_tickets_made])), (q_p0_tickets_slot, .inl (cI, 60, .inl v_p0_tickets_slot))] := by rw [ef_3]; exact hD
    refine lv_goto (tgt := 17) hx hb d_L_code_10 (by decide) ?_
    refine lv_iconst (v := (0 : Int32)) hx hb d_L_code_17 (by decide) ?_
    exact rw_i (u := f_3) C0 hw (hP.sub [1, 2, 3, 0] rfl) (hD.sub [1, 2, 3, 0] (by decide) rfl) hS (by decide) (by decide) d_L_code_18
theorem d_L_read_0 : decode b_L_read 0 = .ok (.aload 4, 2) := by decide +kernel
theorem d_L_read_2 : decode b_L_read 2 = .ok (.iconst 0, 1) := by decide +kernel
theorem d_L_read_3 : decode b_L_read 3 = .ok (.aload_n 0, 1) := by decide +kernel
theorem d_L_read_4 : decode b_L_read 4 = .ok (.iload_n 1, 1) := by decide +kernel
theorem d_L_read_5 : decode b_L_read 5 = .ok (.iload_n 2, 1) := by decide +kernel
theorem d_L_read_6 : decode b_L_read 6 = .ok (.iload_n 3, 1) := by decide +kernel
theorem d_L_read_7 : decode b_L_read 7 = .ok (.invokevirtual 55, 3) := by decide +kernel
theorem d_L_read_10 : decode b_L_read 10 = .ok (.i2l, 1) := by decide +kernel
theorem d_L_read_11 : decode b_L_read 11 = .ok (.lastore, 1) := by decide +kernel
theorem d_L_read_12 : decode b_L_read 12 = .ok (.goto 11, 3) := by decide +kernel
theorem d_L_read_15 : decode b_L_read 15 = .ok (.astore 5, 2) := by decide +kernel
theorem d_L_read_17 : decode b_L_read 17 = .ok (.iconst 1, 1) := by decide +kernel
theorem d_L_read_18 : decode b_L_read 18 = .ok (.ireturn, 1) := by decide +kernel
theorem d_L_read_19 : decode b_L_read 19 = .ok (.astore 5, 2) := by decide +kernel
theorem d_L_read_21 : decode b_L_read 21 = .ok (.iconst 2, 1) := by decide +kernel
theorem d_L_read_22 : decode b_L_read 22 = .ok (.ireturn, 1) := by decide +kernel
theorem d_L_read_23 : decode b_L_read 23 = .ok (.iconst 0, 1) := by decide +kernel
theorem d_L_read_24 : decode b_L_read 24 = .ok (.ireturn, 1) := by decide +kernel
def wp_L_read (post : Int32 → ((Nat → Int32) × (Nat → Int64)) → Prop) (n_p4 : Nat) (a_1 : Int32) (a_2 : Int32) (a_3 : Int32) (v_p0_tickets_slot : Nat → Int32) (v_p0_tickets_returned : Nat → Int32) (v_p0_tickets_made : Int32) (v_p0_doors_seconds : Nat → Int32) (v_p4 : Nat → Int64) : Prop := wp_X_read (fun r_1 f_2 => (vp_in (0 : Int32) n_p4 ∧ (∀ f_4 : Nat → Int64, f_4 = vp_updL v_p4 (0 : Int32).toNatClampNeg r_1.toInt64 → post (0 : Int32) (f_2, f_4)))) (fun E => (E = "java/lang/IllegalArgumentException" ∧ post (2 : Int32) (v_p0_doors_seconds, v_p4)) ∨ (E = "java/lang/IndexOutOfBoundsException" ∧ post (1 : Int32) (v_p0_doors_seconds, v_p4))) a_1 a_2 a_3 v_p0_tickets_slot v_p0_tickets_returned v_p0_tickets_made v_p0_doors_seconds
set_option maxHeartbeats 4000000 in
set_option maxRecDepth 100000 in
theorem c_L_read (l : Launch) (hl9 : l.stackTraces = false) (dC : Nat → ClassId) (dI : Nat → Nat → Nat) (cI cJ cZ : ClassId) (q_p0 q_p0_tickets q_p0_tickets_slot q_p0_tickets_returned q_p0_doors q_p0_doors_seconds q_p4 q_p0_slots q_p0_requests q_p0_chances q_p0_tariff q_p0_tickets_guests q_p0_tickets_kind q_p0_doors_order q_p0_doors_firstIn q_p0_doors_doubles q_p0_doors_goneOut : Nat) (n_p4 : Nat) (a_1 : Int32) (a_2 : Int32) (a_3 : Int32) (v_p0_tickets_slot : Nat → Int32) (v_p0_tickets_returned : Nat → Int32) (v_p0_tickets_made : Int32) (v_p0_doors_seconds : Nat → Int32) (v_p0_doors_found : Int32) (v_p4 : Nat → Int64) (post : Int32 → ((Nat → Int32) × (Nat → Int64)) → Prop) (hw : wp_L_read post n_p4 a_1 a_2 a_3 v_p0_tickets_slot v_p0_tickets_returned v_p0_tickets_made v_p0_doors_seconds v_p4) : KiW l y_L_read b_L_read 6 (some .int) [(0, 12, 15, 21), (0, 12, 19, 15)] ({ frames := 8, cells := 1, slots := 6, locals := 127 } : Room) dC dI cI cJ cZ [.ref q_p0, .int a_1, .int a_2, .int a_3, .ref q_p4] [(q_p0, .inr (0, [.ref q_p0_slots, .ref q_p0_tickets, .ref q_p0_requests, .ref q_p0_chances, .ref q_p0_tariff, .ref q_p0_doors])), (q_p0_tickets, .inr (2, [.ref q_p0_tickets_slot, .ref q_p0_tickets_guests, .ref q_p0_tickets_kind, .ref q_p0_tickets_returned, .int v_p0_tickets_made])), (q_p0_tickets_slot, .inl (cI, 60, .inl v_p0_tickets_slot)), (q_p0_tickets_returned, .inl (cZ, 60, .inl v_p0_tickets_returned)), (q_p0_doors, .inr (6, [.ref q_p0_doors_seconds, .ref q_p0_doors_order, .ref q_p0_doors_firstIn, .ref q_p0_doors_doubles, .int v_p0_doors_found, .ref q_p0_doors_goneOut])), (q_p0_doors_seconds, .inl (cI, 360, .inl v_p0_doors_seconds)), (q_p4, .inl (cJ, n_p4, .inr (.inl v_p4)))] post (fun u : (Nat → Int32) × (Nat → Int64) => [(q_p0, .inr (0, [.ref q_p0_slots, .ref q_p0_tickets, .ref q_p0_requests, .ref q_p0_chances, .ref q_p0_tariff, .ref q_p0_doors])), (q_p0_tickets, .inr (2, [.ref q_p0_tickets_slot, .ref q_p0_tickets_guests, .ref q_p0_tickets_kind, .ref q_p0_tickets_returned, .int v_p0_tickets_made])), (q_p0_tickets_slot, .inl (cI, 60, .inl v_p0_tickets_slot)), (q_p0_tickets_returned, .inl (cZ, 60, .inl v_p0_tickets_returned)), (q_p0_doors, .inr (6, [.ref q_p0_doors_seconds, .ref q_p0_doors_order, .ref q_p0_doors_firstIn, .ref q_p0_doors_doubles, .int v_p0_doors_found, .ref q_p0_doors_goneOut])), (q_p0_doors_seconds, .inl (cI, 360, .inl u.1)), (q_p4, .inl (cJ, n_p4, .inr (.inl u.2)))]) := by
  refine mkiW hl9 (own := R_L) rfl (by decide) ?_
  intro p e s m args below meth c A C0 hTab hNc eav hP hD
  have hN : ∀ q ∈ ([] : List Loc), s.heap.size ≤ q.base := fun q h => by cases h
  obtain ⟨-, hx, hb, hml, hr, hown, hts, hlocks, hK, hZ, hA, hNS⟩ := id C0
  subst eav
  have hS : va_S A s.heap s.heap [] := va_S.rf
  have hl := lv_entry ([.ref q_p0, .int a_1, .int a_2, .int a_3, .ref q_p4]) (n := 6) (Nat.le_of_ble_eq_true rfl)
  rw [lg_entry_eq]
  generalize (lg_sl ([.ref q_p0, .int a_1, .int a_2, .int a_3, .ref q_p4]) ++ List.replicate (6 - (lg_sl ([.ref q_p0, .int a_1, .int a_2, .int a_3, .ref q_p4])).length) Slot.unset).toArray = ls at hl ⊢
  have hl : lv_has ls 6 [(0, .ref q_p0), (1, .int a_1), (2, .int a_2), (3, .int a_3), (4, .ref q_p4)] := hl
  unfold wp_L_read at hw
  refine lv_aload hx hb d_L_read_0 (lv_at hl 4 rfl) ?_
  refine lv_iconst (v := (0 : Int32)) hx hb d_L_read_2 (by decide) ?_
  refine lv_aload_n hx hb d_L_read_3 rfl (lv_at hl 0 rfl) ?_
  refine lv_iload_n hx hb d_L_read_4 rfl (lv_at hl 1 rfl) ?_
  refine lv_iload_n hx hb d_L_read_5 rfl (lv_at hl 2 rfl) ?_
  refine lv_iload_n hx hb d_L_read_6 rfl (lv_at hl 3 rfl) ?_
  refine jx_i C0 hP hD hS [0, 1, 2, 3, 4, 5] [6] (ru_Vx C0 (As := [.int a_1, .int a_2, .int a_3]) (rest := [.int (0 : Int32), .ref q_p4]) (c_X_read l hl9 dC dI cI cJ cZ q_p0 q_p0_tickets q_p0_tickets_slot q_p0_tickets_returned q_p0_doors q_p0_doors_seconds q_p0_slots q_p0_requests q_p0_chances q_p0_tariff q_p0_tickets_guests q_p0_tickets_kind q_p0_doors_order q_p0_doors_firstIn q_p0_doors_doubles q_p0_doors_goneOut a_1 a_2 a_3 v_p0_tickets_slot v_p0_tickets_returned v_p0_tickets_made v_p0_doors_seconds v_p0_doors_found _ _ hw _) k_458 k_459 k_460 k_461 k_86 (n9 := 3) (by decide +kernel) rfl (ci := 0) rfl rfl ⟨Nat.le_of_ble_eq_true rfl, Nat.le_of_ble_eq_true rfl⟩ hP hD hS [0, 1, 2, 3, 4, 5] rfl (by decide) hl.1 rfl (Nat.le_of_ble_eq_true rfl) d_L_read_7 ⟨Nat.le_of_ble_eq_true rfl, Nat.le_of_ble_eq_true rfl⟩) rfl rfl (by decide) (by decide) (fun E ce q9 H locs hw hP hD hS hce hcv hcl => ?_) (fun r_1 u H locs hw hP hD hS => ?_)
  · rcases hw with ⟨rfl, hw⟩ | ⟨rfl, hw⟩
    · refine xcatch (E := "java/lang/IllegalArgumentException") (name := "java/lang/IllegalArgumentException") C0 [⟨0, 12, 15, 21⟩] ⟨0, 12, 19, 15⟩ [] (by rw [hTab]; rfl) (fun z hz => by
        rcases List.mem_cons.mp hz with rfl | hz
        · exact Or.inr ⟨by decide, "java/lang/IndexOutOfBoundsException", (hts _ k_417), hNc.2.1⟩
        exact nomatch hz) (by decide) (by decide) k_412 (zn hZ zc_IAE) hce hcv hcl ?_
      refine lv_astore (lv' := [(5, .ref q9), (0, .ref q_p0), (1, .int a_1), (2, .int a_2), (3, .int a_3), (4, .ref q_p4)]) hx hb d_L_read_19 hl (by decide) rfl (fun ls hl => ?_)
      refine lv_iconst (v := (2 : Int32)) hx hb d_L_read_21 (by decide) ?_
      exact rw_i (u := (v_p0_doors_seconds, v_p4)) C0 hw (hP.sub [1, 2, 3, 4, 5, 6, 0] rfl) (hD.sub [1, 2, 3, 4, 5, 6, 0] (by decide) rfl) hS (by decide) (by decide) d_L_read_22
    · refine xcatch (E := "java/lang/IndexOutOfBoundsException") (name := "java/lang/IndexOutOfBoundsException") C0 [] ⟨0, 12, 15, 21⟩ [⟨0, 12, 19, 15⟩] (by rw [hTab]; rfl) (fun z hz => nomatch hz) (by decide) (by decide) k_417 (zn hZ zc_IOB) hce hcv hcl ?_
      refine lv_astore (lv' := [(5, .ref q9), (0, .ref q_p0), (1, .int a_1), (2, .int a_2), (3, .int a_3), (4, .ref q_p4)]) hx hb d_L_read_15 hl (by decide) rfl (fun ls hl => ?_)
      refine lv_iconst (v := (1 : Int32)) hx hb d_L_read_17 (by decide) ?_
      exact rw_i (u := (v_p0_doors_seconds, v_p4)) C0 hw (hP.sub [1, 2, 3, 4, 5, 6, 0] rfl) (hD.sub [1, 2, 3, 4, 5, 6, 0] (by decide) rfl) hS (by decide) (by decide) d_L_read_18
  · obtain ⟨f_2, rfl⟩ : ∃ z9, z9 = u := ⟨_, rfl⟩
    try dsimp only at hw
    have hP : va_P (dC, dI) classes [(q_p4, .inl (cJ, n_p4, .inr (.inl v_p4))), (q_p0, .inr (0, [.ref q_p0_slots, .ref q_p0_tickets, .ref q_p0_requests, .ref q_p0_chances, .ref q_p0_tariff, .ref q_p0_doors])), (q_p0_tickets, .inr (2, [.ref q_p0_tickets_slot, .ref q_p0_tickets_guests, .ref q_p0_tickets_kind, .ref q_p0_tickets_returned, .int v_p0_tickets_made])), (q_p0_tickets_slot, .inl (cI, 60, .inl v_p0_tickets_slot)), (q_p0_tickets_returned, .inl (cZ, 60, .inl v_p0_tickets_returned)), (q_p0_doors, .inr (6, [.ref q_p0_doors_seconds, .ref q_p0_doors_order, .ref q_p0_doors_firstIn, .ref q_p0_doors_doubles, .int v_p0_doors_found, .ref q_p0_doors_goneOut])), (q_p0_doors_seconds, .inl (cI, 360, .inl f_2))] H := hP
    have hD : va_D A [(q_p4, .inl (cJ, n_p4, .inr (.inl v_p4))), (q_p0, .inr (0, [.ref q_p0_slots, .ref q_p0_tickets, .ref q_p0_requests, .ref q_p0_chances, .ref q_p0_tariff, .ref q_p0_doors])), (q_p0_tickets, .inr (2, [.ref q_p0_tickets_slot, .ref q_p0_tickets_guests, .ref q_p0_tickets_kind, .ref q_p0_tickets_returned, .int v_p0_tickets_made])), (q_p0_tickets_slot, .inl (cI, 60, .inl v_p0_tickets_slot)), (q_p0_tickets_returned, .inl (cZ, 60, .inl v_p0_tickets_returned)), (q_p0_doors, .inr (6, [.ref q_p0_doors_seconds, .ref q_p0_doors_order, .ref q_p0_doors_firstIn, .ref q_p0_doors_doubles, .int v_p0_doors_found, .ref q_p0_doors_goneOut])), (q_p0_doors_seconds, .inl (cI, 360, .inl f_2))] := hD
    refine lv_i2l hx hb d_L_read_10 rfl ?_
    obtain ⟨h_3, hw⟩ := hw
    refine va_last hx hb hK hP hD hS 0 1 rfl rfl h_3 d_L_read_11 (fun H locs hP hD hS => ?_)
    obtain ⟨f_4, ef_4⟩ : ∃ g : Nat → Int64, g = vp_updL v_p4 (0 : Int32).toNatClampNeg r_1.toInt64 := ⟨_, rfl⟩
    have hw := hw f_4 ef_4
    have hP : va_P (dC, dI) classes [(q_p4, .inl (cJ, n_p4, .inr (.inl f_4))), (q_p0, .inr (0, [.ref q_p0_slots, .ref q_p0_tickets, .ref q_p0_requests, .ref q_p0_chances, .ref q_p0_tariff, .ref q_p0_doors])), (q_p0_tickets, .inr (2, [.ref q_p0_tickets_slot, .ref q_p0_tickets_guests, .ref q_p0_tickets_kind, .ref q_p0_tickets_returned, .int v_p0_tickets_made])), (q_p0_tickets_slot, .inl (cI, 60, .inl v_p0_tickets_slot)), (q_p0_tickets_returned, .inl (cZ, 60, .inl v_p0_tickets_returned)), (q_p0_doors, .inr (6, [.ref q_p0_doors_seconds, .ref q_p0_doors_order, .ref q_p0_doors_firstIn, .ref q_p0_doors_doubles, .int v_p0_doors_found, .ref q_p0_doors_goneOut])), (q_p0_doors_seconds, .inl (cI, 360, .inl f_2))] H := by rw [ef_4]; exact hP
    have hD : va_D A [(q_p4, .inl (cJ, n_p4, .inr (.inl f_4))), (q_p0, .inr (0, [.ref q_p0_slots, .ref q_p0_tickets, .ref q_p0_requests, .ref q_p0_chances, .ref q_p0_tariff, .ref q_p0_doors])), (q_p0_tickets, .inr (2, [.ref q_p0_tickets_slot, .ref q_p0_tickets_guests, .ref q_p0_tickets_kind, .ref q_p0_tickets_returned, .int v_p0_tickets_made])), (q_p0_tickets_slot, .inl (cI, 60, .inl v_p0_tickets_slot)), (q_p0_tickets_returned, .inl (cZ, 60, .inl v_p0_tickets_returned)), (q_p0_doors, .inr (6, [.ref q_p0_doors_seconds, .ref q_p0_doors_order, .ref q_p0_doors_firstIn, .ref q_p0_doors_doubles, .int v_p0_doors_found, .ref q_p0_doors_goneOut])), (q_p0_doors_seconds, .inl (cI, 360, .inl f_2))] := by rw [ef_4]; exact hD
    refine lv_goto (tgt := 23) hx hb d_L_read_12 (by decide) ?_
    refine lv_iconst (v := (0 : Int32)) hx hb d_L_read_23 (by decide) ?_
    exact rw_i (u := (f_2, f_4)) C0 hw (hP.sub [1, 2, 3, 4, 5, 6, 0] rfl) (hD.sub [1, 2, 3, 4, 5, 6, 0] (by decide) rfl) hS (by decide) (by decide) d_L_read_24
theorem d_L_twice_0 : decode b_L_twice 0 = .ok (.aload_n 3, 1) := by decide +kernel
theorem d_L_twice_1 : decode b_L_twice 1 = .ok (.iconst 0, 1) := by decide +kernel
theorem d_L_twice_2 : decode b_L_twice 2 = .ok (.aload_n 0, 1) := by decide +kernel
theorem d_L_twice_3 : decode b_L_twice 3 = .ok (.iload_n 1, 1) := by decide +kernel
theorem d_L_twice_4 : decode b_L_twice 4 = .ok (.iload_n 2, 1) := by decide +kernel
theorem d_L_twice_5 : decode b_L_twice 5 = .ok (.invokevirtual 58, 3) := by decide +kernel
theorem d_L_twice_8 : decode b_L_twice 8 = .ok (.i2l, 1) := by decide +kernel
theorem d_L_twice_9 : decode b_L_twice 9 = .ok (.lastore, 1) := by decide +kernel
theorem d_L_twice_10 : decode b_L_twice 10 = .ok (.goto 7, 3) := by decide +kernel
theorem d_L_twice_13 : decode b_L_twice 13 = .ok (.astore 4, 2) := by decide +kernel
theorem d_L_twice_15 : decode b_L_twice 15 = .ok (.iconst 1, 1) := by decide +kernel
theorem d_L_twice_16 : decode b_L_twice 16 = .ok (.ireturn, 1) := by decide +kernel
theorem d_L_twice_17 : decode b_L_twice 17 = .ok (.iconst 0, 1) := by decide +kernel
theorem d_L_twice_18 : decode b_L_twice 18 = .ok (.ireturn, 1) := by decide +kernel
def wp_L_twice (post : Int32 → (Nat → Int64) → Prop) (n_p3 : Nat) (a_1 : Int32) (a_2 : Int32) (v_p0_doors_seconds : Nat → Int32) (v_p0_doors_doubles : Nat → Int32) (v_p0_doors_found : Int32) (v_p3 : Nat → Int64) : Prop := wp_X_twice (fun r_1 _ => (vp_in (0 : Int32) n_p3 ∧ (∀ f_3 : Nat → Int64, f_3 = vp_updL v_p3 (0 : Int32).toNatClampNeg r_1.toInt64 → post (0 : Int32) f_3))) (fun E => (E = "java/lang/IndexOutOfBoundsException" ∧ post (1 : Int32) v_p3)) a_1 a_2 v_p0_doors_seconds v_p0_doors_doubles v_p0_doors_found
set_option maxHeartbeats 4000000 in
set_option maxRecDepth 100000 in
theorem c_L_twice (l : Launch) (hl9 : l.stackTraces = false) (dC : Nat → ClassId) (dI : Nat → Nat → Nat) (cI cJ cZ : ClassId) (q_p0 q_p0_doors q_p0_doors_seconds q_p0_doors_doubles q_p3 q_p0_slots q_p0_tickets q_p0_requests q_p0_chances q_p0_tariff q_p0_doors_order q_p0_doors_firstIn q_p0_doors_goneOut : Nat) (n_p3 : Nat) (a_1 : Int32) (a_2 : Int32) (v_p0_doors_seconds : Nat → Int32) (v_p0_doors_doubles : Nat → Int32) (v_p0_doors_found : Int32) (v_p3 : Nat → Int64) (post : Int32 → (Nat → Int64) → Prop) (hw : wp_L_twice post n_p3 a_1 a_2 v_p0_doors_seconds v_p0_doors_doubles v_p0_doors_found v_p3) : KiW l y_L_twice b_L_twice 5 (some .int) [(0, 10, 13, 21)] ({ frames := 7, cells := 1, slots := 6, locals := 105 } : Room) dC dI cI cJ cZ [.ref q_p0, .int a_1, .int a_2, .ref q_p3] [(q_p0, .inr (0, [.ref q_p0_slots, .ref q_p0_tickets, .ref q_p0_requests, .ref q_p0_chances, .ref q_p0_tariff, .ref q_p0_doors])), (q_p0_doors, .inr (6, [.ref q_p0_doors_seconds, .ref q_p0_doors_order, .ref q_p0_doors_firstIn, .ref q_p0_doors_doubles, .int v_p0_doors_found, .ref q_p0_doors_goneOut])), (q_p0_doors_seconds, .inl (cI, 360, .inl v_p0_doors_seconds)), (q_p0_doors_doubles, .inl (cI, 300, .inl v_p0_doors_doubles)), (q_p3, .inl (cJ, n_p3, .inr (.inl v_p3)))] post (fun u : (Nat → Int64) => [(q_p0, .inr (0, [.ref q_p0_slots, .ref q_p0_tickets, .ref q_p0_requests, .ref q_p0_chances, .ref q_p0_tariff, .ref q_p0_doors])), (q_p0_doors, .inr (6, [.ref q_p0_doors_seconds, .ref q_p0_doors_order, .ref q_p0_doors_firstIn, .ref q_p0_doors_doubles, .int v_p0_doors_found, .ref q_p0_doors_goneOut])), (q_p0_doors_seconds, .inl (cI, 360, .inl v_p0_doors_seconds)), (q_p0_doors_doubles, .inl (cI, 300, .inl v_p0_doors_doubles)), (q_p3, .inl (cJ, n_p3, .inr (.inl u)))]) := by
  refine mkiW hl9 (own := R_L) rfl (by decide) ?_
  intro p e s m args below meth c A C0 hTab hNc eav hP hD
  have hN : ∀ q ∈ ([] : List Loc), s.heap.size ≤ q.base := fun q h => by cases h
  obtain ⟨-, hx, hb, hml, hr, hown, hts, hlocks, hK, hZ, hA, hNS⟩ := id C0
  subst eav
  have hS : va_S A s.heap s.heap [] := va_S.rf
  have hl := lv_entry ([.ref q_p0, .int a_1, .int a_2, .ref q_p3]) (n := 5) (Nat.le_of_ble_eq_true rfl)
  rw [lg_entry_eq]
  generalize (lg_sl ([.ref q_p0, .int a_1, .int a_2, .ref q_p3]) ++ List.replicate (5 - (lg_sl ([.ref q_p0, .int a_1, .int a_2, .ref q_p3])).length) Slot.unset).toArray = ls at hl ⊢
  have hl : lv_has ls 5 [(0, .ref q_p0), (1, .int a_1), (2, .int a_2), (3, .ref q_p3)] := hl
  unfold wp_L_twice at hw
  refine lv_aload_n hx hb d_L_twice_0 rfl (lv_at hl 3 rfl) ?_
  refine lv_iconst (v := (0 : Int32)) hx hb d_L_twice_1 (by decide) ?_
  refine lv_aload_n hx hb d_L_twice_2 rfl (lv_at hl 0 rfl) ?_
  refine lv_iload_n hx hb d_L_twice_3 rfl (lv_at hl 1 rfl) ?_
  refine lv_iload_n hx hb d_L_twice_4 rfl (lv_at hl 2 rfl) ?_
  refine jx_i C0 hP hD hS [0, 1, 2, 3] [4] (ru_Vx C0 (As := [.int a_1, .int a_2]) (rest := [.int (0 : Int32), .ref q_p3]) (c_X_twice l hl9 dC dI cI cJ cZ q_p0 q_p0_doors q_p0_doors_seconds q_p0_doors_doubles q_p0_slots q_p0_tickets q_p0_requests q_p0_chances q_p0_tariff q_p0_doors_order q_p0_doors_firstIn q_p0_doors_goneOut a_1 a_2 v_p0_doors_seconds v_p0_doors_doubles v_p0_doors_found _ _ hw _) k_462 k_463 k_464 k_465 k_86 (n9 := 2) (by decide +kernel) rfl (ci := 0) rfl rfl ⟨Nat.le_of_ble_eq_true rfl, Nat.le_of_ble_eq_true rfl⟩ hP hD hS [0, 1, 2, 3] rfl (by decide) hl.1 rfl (Nat.le_of_ble_eq_true rfl) d_L_twice_5 ⟨Nat.le_of_ble_eq_true rfl, Nat.le_of_ble_eq_true rfl⟩) rfl rfl (by decide) (by decide) (fun E ce q9 H locs hw hP hD hS hce hcv hcl => ?_) (fun r_1 u H locs hw hP hD hS => ?_)
  · obtain ⟨rfl, hw⟩ := hw
    refine xcatch (E := "java/lang/IndexOutOfBoundsException") (name := "java/lang/IndexOutOfBoundsException") C0 [] ⟨0, 10, 13, 21⟩ [] (by rw [hTab]; rfl) (fun z hz => nomatch hz) (by decide) (by decide) k_417 (zn hZ zc_IOB) hce hcv hcl ?_
    refine lv_astore (lv' := [(4, .ref q9), (0, .ref q_p0), (1, .int a_1), (2, .int a_2), (3, .ref q_p3)]) hx hb d_L_twice_13 hl (by decide) rfl (fun ls hl => ?_)
    refine lv_iconst (v := (1 : Int32)) hx hb d_L_twice_15 (by decide) ?_
    exact rw_i (u := v_p3) C0 hw (hP.sub [1, 2, 3, 4, 0] rfl) (hD.sub [1, 2, 3, 4, 0] (by decide) rfl) hS (by decide) (by decide) d_L_twice_16
  · try dsimp only at hw
    have hP : va_P (dC, dI) classes [(q_p3, .inl (cJ, n_p3, .inr (.inl v_p3))), (q_p0, .inr (0, [.ref q_p0_slots, .ref q_p0_tickets, .ref q_p0_requests, .ref q_p0_chances, .ref q_p0_tariff, .ref q_p0_doors])), (q_p0_doors, .inr (6, [.ref q_p0_doors_seconds, .ref q_p0_doors_order, .ref q_p0_doors_firstIn, .ref q_p0_doors_doubles, .int v_p0_doors_found, .ref q_p0_doors_goneOut])), (q_p0_doors_seconds, .inl (cI, 360, .inl v_p0_doors_seconds)), (q_p0_doors_doubles, .inl (cI, 300, .inl v_p0_doors_doubles))] H := hP
    have hD : va_D A [(q_p3, .inl (cJ, n_p3, .inr (.inl v_p3))), (q_p0, .inr (0, [.ref q_p0_slots, .ref q_p0_tickets, .ref q_p0_requests, .ref q_p0_chances, .ref q_p0_tariff, .ref q_p0_doors])), (q_p0_doors, .inr (6, [.ref q_p0_doors_seconds, .ref q_p0_doors_order, .ref q_p0_doors_firstIn, .ref q_p0_doors_doubles, .int v_p0_doors_found, .ref q_p0_doors_goneOut])), (q_p0_doors_seconds, .inl (cI, 360, .inl v_p0_doors_seconds)), (q_p0_doors_doubles, .inl (cI, 300, .inl v_p0_doors_doubles))] := hD
    refine lv_i2l hx hb d_L_twice_8 rfl ?_
    obtain ⟨h_2, hw⟩ := hw
    refine va_last hx hb hK hP hD hS 0 1 rfl rfl h_2 d_L_twice_9 (fun H locs hP hD hS => ?_)
    obtain ⟨f_3, ef_3⟩ : ∃ g : Nat → Int64, g = vp_updL v_p3 (0 : Int32).toNatClampNeg r_1.toInt64 := ⟨_, rfl⟩
    have hw := hw f_3 ef_3
    have hP : va_P (dC, dI) classes [(q_p3, .inl (cJ, n_p3, .inr (.inl f_3))), (q_p0, .inr (0, [.ref q_p0_slots, .ref q_p0_tickets, .ref q_p0_requests, .ref q_p0_chances, .ref q_p0_tariff, .ref q_p0_doors])), (q_p0_doors, .inr (6, [.ref q_p0_doors_seconds, .ref q_p0_doors_order, .ref q_p0_doors_firstIn, .ref q_p0_doors_doubles, .int v_p0_doors_found, .ref q_p0_doors_goneOut])), (q_p0_doors_seconds, .inl (cI, 360, .inl v_p0_doors_seconds)), (q_p0_doors_doubles, .inl (cI, 300, .inl v_p0_doors_doubles))] H := by rw [ef_3]; exact hP
    have hD : va_D A [(q_p3, .inl (cJ, n_p3, .inr (.inl f_3))), (q_p0, .inr (0, [.ref q_p0_slots, .ref q_p0_tickets, .ref q_p0_requests, .ref q_p0_chances, .ref q_p0_tariff, .ref q_p0_doors])), (q_p0_doors, .inr (6, [.ref q_p0_doors_seconds, .ref q_p0_doors_order, .ref q_p0_doors_firstIn, .ref q_p0_doors_doubles, .int v_p0_doors_found, .ref q_p0_doors_goneOut])), (q_p0_doors_seconds, .inl (cI, 360, .inl v_p0_doors_seconds)), (q_p0_doors_doubles, .inl (cI, 300, .inl v_p0_doors_doubles))] := by rw [ef_3]; exact hD
    refine lv_goto (tgt := 17) hx hb d_L_twice_10 (by decide) ?_
    refine lv_iconst (v := (0 : Int32)) hx hb d_L_twice_17 (by decide) ?_
    exact rw_i (u := f_3) C0 hw (hP.sub [1, 2, 3, 4, 0] rfl) (hD.sub [1, 2, 3, 4, 0] (by decide) rfl) hS (by decide) (by decide) d_L_twice_18
theorem d_L_leaves_0 : decode b_L_leaves 0 = .ok (.aload_n 3, 1) := by decide +kernel
theorem d_L_leaves_1 : decode b_L_leaves 1 = .ok (.iconst 0, 1) := by decide +kernel
theorem d_L_leaves_2 : decode b_L_leaves 2 = .ok (.aload_n 0, 1) := by decide +kernel
theorem d_L_leaves_3 : decode b_L_leaves 3 = .ok (.iload_n 1, 1) := by decide +kernel
theorem d_L_leaves_4 : decode b_L_leaves 4 = .ok (.iload_n 2, 1) := by decide +kernel
theorem d_L_leaves_5 : decode b_L_leaves 5 = .ok (.invokevirtual 61, 3) := by decide +kernel
theorem d_L_leaves_8 : decode b_L_leaves 8 = .ok (.ifCond .eq 7, 3) := by decide +kernel
theorem d_L_leaves_11 : decode b_L_leaves 11 = .ok (.lconst 1, 1) := by decide +kernel
theorem d_L_leaves_12 : decode b_L_leaves 12 = .ok (.goto 4, 3) := by decide +kernel
theorem d_L_leaves_15 : decode b_L_leaves 15 = .ok (.lconst 0, 1) := by decide +kernel
theorem d_L_leaves_16 : decode b_L_leaves 16 = .ok (.lastore, 1) := by decide +kernel
theorem d_L_leaves_17 : decode b_L_leaves 17 = .ok (.goto 11, 3) := by decide +kernel
theorem d_L_leaves_20 : decode b_L_leaves 20 = .ok (.astore 4, 2) := by decide +kernel
theorem d_L_leaves_22 : decode b_L_leaves 22 = .ok (.iconst 1, 1) := by decide +kernel
theorem d_L_leaves_23 : decode b_L_leaves 23 = .ok (.ireturn, 1) := by decide +kernel
theorem d_L_leaves_24 : decode b_L_leaves 24 = .ok (.astore 4, 2) := by decide +kernel
theorem d_L_leaves_26 : decode b_L_leaves 26 = .ok (.iconst 2, 1) := by decide +kernel
theorem d_L_leaves_27 : decode b_L_leaves 27 = .ok (.ireturn, 1) := by decide +kernel
theorem d_L_leaves_28 : decode b_L_leaves 28 = .ok (.iconst 0, 1) := by decide +kernel
theorem d_L_leaves_29 : decode b_L_leaves 29 = .ok (.ireturn, 1) := by decide +kernel
def wp_L_leaves (post : Int32 → ((Nat → Int32) × (Nat → Int64)) → Prop) (n_p3 : Nat) (a_1 : Int32) (a_2 : Int32) (v_p0_tickets_made : Int32) (v_p0_doors_firstIn : Nat → Int32) (v_p0_doors_goneOut : Nat → Int32) (v_p3 : Nat → Int64) : Prop := wp_X_leaves (fun r_1 f_2 => ((r_1 = 0 → (vp_in (0 : Int32) n_p3 ∧ (∀ f_5 : Nat → Int64, f_5 = vp_updL v_p3 (0 : Int32).toNatClampNeg (0 : Int64) → post (0 : Int32) (f_2, f_5)))) ∧ (¬ (r_1 = 0) → (vp_in (0 : Int32) n_p3 ∧ (∀ f_7 : Nat → Int64, f_7 = vp_updL v_p3 (0 : Int32).toNatClampNeg (1 : Int64) → post (0 : Int32) (f_2, f_7)))))) (fun E => (E = "java/lang/IllegalArgumentException" ∧ post (2 : Int32) (v_p0_doors_goneOut, v_p3)) ∨ (E = "java/lang/IndexOutOfBoundsException" ∧ post (1 : Int32) (v_p0_doors_goneOut, v_p3))) a_1 a_2 v_p0_tickets_made v_p0_doors_firstIn v_p0_doors_goneOut
set_option maxHeartbeats 4000000 in
set_option maxRecDepth 100000 in
theorem c_L_leaves (l : Launch) (hl9 : l.stackTraces = false) (dC : Nat → ClassId) (dI : Nat → Nat → Nat) (cI cJ cZ : ClassId) (q_p0 q_p0_tickets q_p0_doors q_p0_doors_firstIn q_p0_doors_goneOut q_p3 q_p0_slots q_p0_requests q_p0_chances q_p0_tariff q_p0_tickets_slot q_p0_tickets_guests q_p0_tickets_kind q_p0_tickets_returned q_p0_doors_seconds q_p0_doors_order q_p0_doors_doubles : Nat) (n_p3 : Nat) (a_1 : Int32) (a_2 : Int32) (v_p0_tickets_made : Int32) (v_p0_doors_firstIn : Nat → Int32) (v_p0_doors_found : Int32) (v_p0_doors_goneOut : Nat → Int32) (v_p3 : Nat → Int64) (post : Int32 → ((Nat → Int32) × (Nat → Int64)) → Prop) (hw : wp_L_leaves post n_p3 a_1 a_2 v_p0_tickets_made v_p0_doors_firstIn v_p0_doors_goneOut v_p3) : KiW l y_L_leaves b_L_leaves 5 (some .int) [(0, 17, 20, 21), (0, 17, 24, 15)] ({ frames := 8, cells := 1, slots := 6, locals := 125 } : Room) dC dI cI cJ cZ [.ref q_p0, .int a_1, .int a_2, .ref q_p3] [(q_p0, .inr (0, [.ref q_p0_slots, .ref q_p0_tickets, .ref q_p0_requests, .ref q_p0_chances, .ref q_p0_tariff, .ref q_p0_doors])), (q_p0_tickets, .inr (2, [.ref q_p0_tickets_slot, .ref q_p0_tickets_guests, .ref q_p0_tickets_kind, .ref q_p0_tickets_returned, .int v_p0_tickets_made])), (q_p0_doors, .inr (6, [.ref q_p0_doors_seconds, .ref q_p0_doors_order, .ref q_p0_doors_firstIn, .ref q_p0_doors_doubles, .int v_p0_doors_found, .ref q_p0_doors_goneOut])), (q_p0_doors_firstIn, .inl (cI, 60, .inl v_p0_doors_firstIn)), (q_p0_doors_goneOut, .inl (cI, 60, .inl v_p0_doors_goneOut)), (q_p3, .inl (cJ, n_p3, .inr (.inl v_p3)))] post (fun u : (Nat → Int32) × (Nat → Int64) => [(q_p0, .inr (0, [.ref q_p0_slots, .ref q_p0_tickets, .ref q_p0_requests, .ref q_p0_chances, .ref q_p0_tariff, .ref q_p0_doors])), (q_p0_tickets, .inr (2, [.ref q_p0_tickets_slot, .ref q_p0_tickets_guests, .ref q_p0_tickets_kind, .ref q_p0_tickets_returned, .int v_p0_tickets_made])), (q_p0_doors, .inr (6, [.ref q_p0_doors_seconds, .ref q_p0_doors_order, .ref q_p0_doors_firstIn, .ref q_p0_doors_doubles, .int v_p0_doors_found, .ref q_p0_doors_goneOut])), (q_p0_doors_firstIn, .inl (cI, 60, .inl v_p0_doors_firstIn)), (q_p0_doors_goneOut, .inl (cI, 60, .inl u.1)), (q_p3, .inl (cJ, n_p3, .inr (.inl u.2)))]) := by
  refine mkiW hl9 (own := R_L) rfl (by decide) ?_
  intro p e s m args below meth c A C0 hTab hNc eav hP hD
  have hN : ∀ q ∈ ([] : List Loc), s.heap.size ≤ q.base := fun q h => by cases h
  obtain ⟨-, hx, hb, hml, hr, hown, hts, hlocks, hK, hZ, hA, hNS⟩ := id C0
  subst eav
  have hS : va_S A s.heap s.heap [] := va_S.rf
  have hl := lv_entry ([.ref q_p0, .int a_1, .int a_2, .ref q_p3]) (n := 5) (Nat.le_of_ble_eq_true rfl)
  rw [lg_entry_eq]
  generalize (lg_sl ([.ref q_p0, .int a_1, .int a_2, .ref q_p3]) ++ List.replicate (5 - (lg_sl ([.ref q_p0, .int a_1, .int a_2, .ref q_p3])).length) Slot.unset).toArray = ls at hl ⊢
  have hl : lv_has ls 5 [(0, .ref q_p0), (1, .int a_1), (2, .int a_2), (3, .ref q_p3)] := hl
  unfold wp_L_leaves at hw
  refine lv_aload_n hx hb d_L_leaves_0 rfl (lv_at hl 3 rfl) ?_
  refine lv_iconst (v := (0 : Int32)) hx hb d_L_leaves_1 (by decide) ?_
  refine lv_aload_n hx hb d_L_leaves_2 rfl (lv_at hl 0 rfl) ?_
  refine lv_iload_n hx hb d_L_leaves_3 rfl (lv_at hl 1 rfl) ?_
  refine lv_iload_n hx hb d_L_leaves_4 rfl (lv_at hl 2 rfl) ?_
  refine jx_i C0 hP hD hS [0, 1, 2, 3, 4] [5] (ru_Vx C0 (As := [.int a_1, .int a_2]) (rest := [.int (0 : Int32), .ref q_p3]) (c_X_leaves l hl9 dC dI cI cJ cZ q_p0 q_p0_tickets q_p0_doors q_p0_doors_firstIn q_p0_doors_goneOut q_p0_slots q_p0_requests q_p0_chances q_p0_tariff q_p0_tickets_slot q_p0_tickets_guests q_p0_tickets_kind q_p0_tickets_returned q_p0_doors_seconds q_p0_doors_order q_p0_doors_doubles a_1 a_2 v_p0_tickets_made v_p0_doors_firstIn v_p0_doors_found v_p0_doors_goneOut _ _ hw _) k_466 k_467 k_468 k_469 k_86 (n9 := 2) (by decide +kernel) rfl (ci := 0) rfl rfl ⟨Nat.le_of_ble_eq_true rfl, Nat.le_of_ble_eq_true rfl⟩ hP hD hS [0, 1, 2, 3, 4] rfl (by decide) hl.1 rfl (Nat.le_of_ble_eq_true rfl) d_L_leaves_5 ⟨Nat.le_of_ble_eq_true rfl, Nat.le_of_ble_eq_true rfl⟩) rfl rfl (by decide) (by decide) (fun E ce q9 H locs hw hP hD hS hce hcv hcl => ?_) (fun r_1 u H locs hw hP hD hS => ?_)
  · rcases hw with ⟨rfl, hw⟩ | ⟨rfl, hw⟩
    · refine xcatch (E := "java/lang/IllegalArgumentException") (name := "java/lang/IllegalArgumentException") C0 [⟨0, 17, 20, 21⟩] ⟨0, 17, 24, 15⟩ [] (by rw [hTab]; rfl) (fun z hz => by
        rcases List.mem_cons.mp hz with rfl | hz
        · exact Or.inr ⟨by decide, "java/lang/IndexOutOfBoundsException", (hts _ k_417), hNc.2.1⟩
        exact nomatch hz) (by decide) (by decide) k_412 (zn hZ zc_IAE) hce hcv hcl ?_
      refine lv_astore (lv' := [(4, .ref q9), (0, .ref q_p0), (1, .int a_1), (2, .int a_2), (3, .ref q_p3)]) hx hb d_L_leaves_24 hl (by decide) rfl (fun ls hl => ?_)
      refine lv_iconst (v := (2 : Int32)) hx hb d_L_leaves_26 (by decide) ?_
      exact rw_i (u := (v_p0_doors_goneOut, v_p3)) C0 hw (hP.sub [1, 2, 3, 4, 5, 0] rfl) (hD.sub [1, 2, 3, 4, 5, 0] (by decide) rfl) hS (by decide) (by decide) d_L_leaves_27
    · refine xcatch (E := "java/lang/IndexOutOfBoundsException") (name := "java/lang/IndexOutOfBoundsException") C0 [] ⟨0, 17, 20, 21⟩ [⟨0, 17, 24, 15⟩] (by rw [hTab]; rfl) (fun z hz => nomatch hz) (by decide) (by decide) k_417 (zn hZ zc_IOB) hce hcv hcl ?_
      refine lv_astore (lv' := [(4, .ref q9), (0, .ref q_p0), (1, .int a_1), (2, .int a_2), (3, .ref q_p3)]) hx hb d_L_leaves_20 hl (by decide) rfl (fun ls hl => ?_)
      refine lv_iconst (v := (1 : Int32)) hx hb d_L_leaves_22 (by decide) ?_
      exact rw_i (u := (v_p0_doors_goneOut, v_p3)) C0 hw (hP.sub [1, 2, 3, 4, 5, 0] rfl) (hD.sub [1, 2, 3, 4, 5, 0] (by decide) rfl) hS (by decide) (by decide) d_L_leaves_23
  · obtain ⟨f_2, rfl⟩ : ∃ z9, z9 = u := ⟨_, rfl⟩
    try dsimp only at hw
    have hP : va_P (dC, dI) classes [(q_p3, .inl (cJ, n_p3, .inr (.inl v_p3))), (q_p0, .inr (0, [.ref q_p0_slots, .ref q_p0_tickets, .ref q_p0_requests, .ref q_p0_chances, .ref q_p0_tariff, .ref q_p0_doors])), (q_p0_tickets, .inr (2, [.ref q_p0_tickets_slot, .ref q_p0_tickets_guests, .ref q_p0_tickets_kind, .ref q_p0_tickets_returned, .int v_p0_tickets_made])), (q_p0_doors, .inr (6, [.ref q_p0_doors_seconds, .ref q_p0_doors_order, .ref q_p0_doors_firstIn, .ref q_p0_doors_doubles, .int v_p0_doors_found, .ref q_p0_doors_goneOut])), (q_p0_doors_firstIn, .inl (cI, 60, .inl v_p0_doors_firstIn)), (q_p0_doors_goneOut, .inl (cI, 60, .inl f_2))] H := hP
    have hD : va_D A [(q_p3, .inl (cJ, n_p3, .inr (.inl v_p3))), (q_p0, .inr (0, [.ref q_p0_slots, .ref q_p0_tickets, .ref q_p0_requests, .ref q_p0_chances, .ref q_p0_tariff, .ref q_p0_doors])), (q_p0_tickets, .inr (2, [.ref q_p0_tickets_slot, .ref q_p0_tickets_guests, .ref q_p0_tickets_kind, .ref q_p0_tickets_returned, .int v_p0_tickets_made])), (q_p0_doors, .inr (6, [.ref q_p0_doors_seconds, .ref q_p0_doors_order, .ref q_p0_doors_firstIn, .ref q_p0_doors_doubles, .int v_p0_doors_found, .ref q_p0_doors_goneOut])), (q_p0_doors_firstIn, .inl (cI, 60, .inl v_p0_doors_firstIn)), (q_p0_doors_goneOut, .inl (cI, 60, .inl f_2))] := hD
    refine lv_if_eq (tgt := 15) hx hb d_L_leaves_8 (by decide) (fun c_3 => ?_) (fun c_3 => ?_)
    · have hw := hw.1 c_3
      refine lv_lconst (v := (0 : Int64)) hx hb d_L_leaves_15 (by decide) ?_
      obtain ⟨h_4, hw⟩ := hw
      refine va_last hx hb hK hP hD hS 0 1 rfl rfl h_4 d_L_leaves_16 (fun H locs hP hD hS => ?_)
      obtain ⟨f_5, ef_5⟩ : ∃ g : Nat → Int64, g = vp_updL v_p3 (0 : Int32).toNatClampNeg (0 : Int64) := ⟨_, rfl⟩
      have hw := hw f_5 ef_5
      have hP : va_P (dC, dI) classes [(q_p3, .inl (cJ, n_p3, .inr (.inl f_5))), (q_p0, .inr (0, [.ref q_p0_slots, .ref q_p0_tickets, .ref q_p0_requests, .ref q_p0_chances, .ref q_p0_tariff, .ref q_p0_doors])), (q_p0_tickets, .inr (2, [.ref q_p0_tickets_slot, .ref q_p0_tickets_guests, .ref q_p0_tickets_kind, .ref q_p0_tickets_returned, .int v_p0_tickets_made])), (q_p0_doors, .inr (6, [.ref q_p0_doors_seconds, .ref q_p0_doors_order, .ref q_p0_doors_firstIn, .ref q_p0_doors_doubles, .int v_p0_doors_found, .ref q_p0_doors_goneOut])), (q_p0_doors_firstIn, .inl (cI, 60, .inl v_p0_doors_firstIn)), (q_p0_doors_goneOut, .inl (cI, 60, .inl f_2))] H := by rw [ef_5]; exact hP
      have hD : va_D A [(q_p3, .inl (cJ, n_p3, .inr (.inl f_5))), (q_p0, .inr (0, [.ref q_p0_slots, .ref q_p0_tickets, .ref q_p0_requests, .ref q_p0_chances, .ref q_p0_tariff, .ref q_p0_doors])), (q_p0_tickets, .inr (2, [.ref q_p0_tickets_slot, .ref q_p0_tickets_guests, .ref q_p0_tickets_kind, .ref q_p0_tickets_returned, .int v_p0_tickets_made])), (q_p0_doors, .inr (6, [.ref q_p0_doors_seconds, .ref q_p0_doors_order, .ref q_p0_doors_firstIn, .ref q_p0_doors_doubles, .int v_p0_doors_found, .ref q_p0_doors_goneOut])), (q_p0_doors_firstIn, .inl (cI, 60, .inl v_p0_doors_firstIn)), (q_p0_doors_goneOut, .inl (cI, 60, .inl f_2))] := by rw [ef_5]; exact hD
      refine lv_goto (tgt := 28) hx hb d_L_leaves_17 (by decide) ?_
      refine lv_iconst (v := (0 : Int32)) hx hb d_L_leaves_28 (by decide) ?_
      exact rw_i (u := (f_2, f_5)) C0 hw (hP.sub [1, 2, 3, 4, 5, 0] rfl) (hD.sub [1, 2, 3, 4, 5, 0] (by decide) rfl) hS (by decide) (by decide) d_L_leaves_29
    · have hw := hw.2 c_3
      refine lv_lconst (v := (1 : Int64)) hx hb d_L_leaves_11 (by decide) ?_
      refine lv_goto (tgt := 16) hx hb d_L_leaves_12 (by decide) ?_
      obtain ⟨h_6, hw⟩ := hw
      refine va_last hx hb hK hP hD hS 0 1 rfl rfl h_6 d_L_leaves_16 (fun H locs hP hD hS => ?_)
      obtain ⟨f_7, ef_7⟩ : ∃ g : Nat → Int64, g = vp_updL v_p3 (0 : Int32).toNatClampNeg (1 : Int64) := ⟨_, rfl⟩
      have hw := hw f_7 ef_7
      have hP : va_P (dC, dI) classes [(q_p3, .inl (cJ, n_p3, .inr (.inl f_7))), (q_p0, .inr (0, [.ref q_p0_slots, .ref q_p0_tickets, .ref q_p0_requests, .ref q_p0_chances, .ref q_p0_tariff, .ref q_p0_doors])), (q_p0_tickets, .inr (2, [.ref q_p0_tickets_slot, .ref q_p0_tickets_guests, .ref q_p0_tickets_kind, .ref q_p0_tickets_returned, .int v_p0_tickets_made])), (q_p0_doors, .inr (6, [.ref q_p0_doors_seconds, .ref q_p0_doors_order, .ref q_p0_doors_firstIn, .ref q_p0_doors_doubles, .int v_p0_doors_found, .ref q_p0_doors_goneOut])), (q_p0_doors_firstIn, .inl (cI, 60, .inl v_p0_doors_firstIn)), (q_p0_doors_goneOut, .inl (cI, 60, .inl f_2))] H := by rw [ef_7]; exact hP
      have hD : va_D A [(q_p3, .inl (cJ, n_p3, .inr (.inl f_7))), (q_p0, .inr (0, [.ref q_p0_slots, .ref q_p0_tickets, .ref q_p0_requests, .ref q_p0_chances, .ref q_p0_tariff, .ref q_p0_doors])), (q_p0_tickets, .inr (2, [.ref q_p0_tickets_slot, .ref q_p0_tickets_guests, .ref q_p0_tickets_kind, .ref q_p0_tickets_returned, .int v_p0_tickets_made])), (q_p0_doors, .inr (6, [.ref q_p0_doors_seconds, .ref q_p0_doors_order, .ref q_p0_doors_firstIn, .ref q_p0_doors_doubles, .int v_p0_doors_found, .ref q_p0_doors_goneOut])), (q_p0_doors_firstIn, .inl (cI, 60, .inl v_p0_doors_firstIn)), (q_p0_doors_goneOut, .inl (cI, 60, .inl f_2))] := by rw [ef_7]; exact hD
      refine lv_goto (tgt := 28) hx hb d_L_leaves_17 (by decide) ?_
      refine lv_iconst (v := (0 : Int32)) hx hb d_L_leaves_28 (by decide) ?_
      exact rw_i (u := (f_2, f_7)) C0 hw (hP.sub [1, 2, 3, 4, 5, 0] rfl) (hD.sub [1, 2, 3, 4, 5, 0] (by decide) rfl) hS (by decide) (by decide) d_L_leaves_29
theorem d_L_inside_0 : decode b_L_inside 0 = .ok (.aload_n 2, 1) := by decide +kernel
theorem d_L_inside_1 : decode b_L_inside 1 = .ok (.iconst 0, 1) := by decide +kernel
theorem d_L_inside_2 : decode b_L_inside 2 = .ok (.aload_n 0, 1) := by decide +kernel
theorem d_L_inside_3 : decode b_L_inside 3 = .ok (.iload_n 1, 1) := by decide +kernel
theorem d_L_inside_4 : decode b_L_inside 4 = .ok (.invokevirtual 65, 3) := by decide +kernel
theorem d_L_inside_7 : decode b_L_inside 7 = .ok (.i2l, 1) := by decide +kernel
theorem d_L_inside_8 : decode b_L_inside 8 = .ok (.lastore, 1) := by decide +kernel
theorem d_L_inside_9 : decode b_L_inside 9 = .ok (.goto 6, 3) := by decide +kernel
theorem d_L_inside_12 : decode b_L_inside 12 = .ok (.astore_n 3, 1) := by decide +kernel
theorem d_L_inside_13 : decode b_L_inside 13 = .ok (.iconst 1, 1) := by decide +kernel
theorem d_L_inside_14 : decode b_L_inside 14 = .ok (.ireturn, 1) := by decide +kernel
theorem d_L_inside_15 : decode b_L_inside 15 = .ok (.iconst 0, 1) := by decide +kernel
theorem d_L_inside_16 : decode b_L_inside 16 = .ok (.ireturn, 1) := by decide +kernel
def wp_L_inside (post : Int32 → (Nat → Int64) → Prop) (n_p2 : Nat) (a_1 : Int32) (v_p0_tickets_guests : Nat → Int32) (v_p0_tickets_made : Int32) (v_p0_doors_firstIn : Nat → Int32) (v_p0_doors_goneOut : Nat → Int32) (v_p2 : Nat → Int64) : Prop := wp_X_inside (fun r_1 _ => (vp_in (0 : Int32) n_p2 ∧ (∀ f_3 : Nat → Int64, f_3 = vp_updL v_p2 (0 : Int32).toNatClampNeg r_1.toInt64 → post (0 : Int32) f_3))) (fun E => (E = "java/lang/IllegalArgumentException" ∧ post (1 : Int32) v_p2)) a_1 v_p0_tickets_guests v_p0_tickets_made v_p0_doors_firstIn v_p0_doors_goneOut
set_option maxHeartbeats 4000000 in
set_option maxRecDepth 100000 in
theorem c_L_inside (l : Launch) (hl9 : l.stackTraces = false) (dC : Nat → ClassId) (dI : Nat → Nat → Nat) (cI cJ cZ : ClassId) (q_p0 q_p0_tickets q_p0_tickets_guests q_p0_doors q_p0_doors_firstIn q_p0_doors_goneOut q_p2 q_p0_slots q_p0_requests q_p0_chances q_p0_tariff q_p0_tickets_slot q_p0_tickets_kind q_p0_tickets_returned q_p0_doors_seconds q_p0_doors_order q_p0_doors_doubles : Nat) (n_p2 : Nat) (a_1 : Int32) (v_p0_tickets_guests : Nat → Int32) (v_p0_tickets_made : Int32) (v_p0_doors_firstIn : Nat → Int32) (v_p0_doors_found : Int32) (v_p0_doors_goneOut : Nat → Int32) (v_p2 : Nat → Int64) (post : Int32 → (Nat → Int64) → Prop) (hw : wp_L_inside post n_p2 a_1 v_p0_tickets_guests v_p0_tickets_made v_p0_doors_firstIn v_p0_doors_goneOut v_p2) : KiW l y_L_inside b_L_inside 4 (some .int) [(0, 9, 12, 15)] ({ frames := 8, cells := 1, slots := 6, locals := 125 } : Room) dC dI cI cJ cZ [.ref q_p0, .int a_1, .ref q_p2] [(q_p0, .inr (0, [.ref q_p0_slots, .ref q_p0_tickets, .ref q_p0_requests, .ref q_p0_chances, .ref q_p0_tariff, .ref q_p0_doors])), (q_p0_tickets, .inr (2, [.ref q_p0_tickets_slot, .ref q_p0_tickets_guests, .ref q_p0_tickets_kind, .ref q_p0_tickets_returned, .int v_p0_tickets_made])), (q_p0_tickets_guests, .inl (cI, 60, .inl v_p0_tickets_guests)), (q_p0_doors, .inr (6, [.ref q_p0_doors_seconds, .ref q_p0_doors_order, .ref q_p0_doors_firstIn, .ref q_p0_doors_doubles, .int v_p0_doors_found, .ref q_p0_doors_goneOut])), (q_p0_doors_firstIn, .inl (cI, 60, .inl v_p0_doors_firstIn)), (q_p0_doors_goneOut, .inl (cI, 60, .inl v_p0_doors_goneOut)), (q_p2, .inl (cJ, n_p2, .inr (.inl v_p2)))] post (fun u : (Nat → Int64) => [(q_p0, .inr (0, [.ref q_p0_slots, .ref q_p0_tickets, .ref q_p0_requests, .ref q_p0_chances, .ref q_p0_tariff, .ref q_p0_doors])), (q_p0_tickets, .inr (2, [.ref q_p0_tickets_slot, .ref q_p0_tickets_guests, .ref q_p0_tickets_kind, .ref q_p0_tickets_returned, .int v_p0_tickets_made])), (q_p0_tickets_guests, .inl (cI, 60, .inl v_p0_tickets_guests)), (q_p0_doors, .inr (6, [.ref q_p0_doors_seconds, .ref q_p0_doors_order, .ref q_p0_doors_firstIn, .ref q_p0_doors_doubles, .int v_p0_doors_found, .ref q_p0_doors_goneOut])), (q_p0_doors_firstIn, .inl (cI, 60, .inl v_p0_doors_firstIn)), (q_p0_doors_goneOut, .inl (cI, 60, .inl v_p0_doors_goneOut)), (q_p2, .inl (cJ, n_p2, .inr (.inl u)))]) := by
  refine mkiW hl9 (own := R_L) rfl (by decide) ?_
  intro p e s m args below meth c A C0 hTab hNc eav hP hD
  have hN : ∀ q ∈ ([] : List Loc), s.heap.size ≤ q.base := fun q h => by cases h
  obtain ⟨-, hx, hb, hml, hr, hown, hts, hlocks, hK, hZ, hA, hNS⟩ := id C0
  subst eav
  have hS : va_S A s.heap s.heap [] := va_S.rf
  have hl := lv_entry ([.ref q_p0, .int a_1, .ref q_p2]) (n := 4) (Nat.le_of_ble_eq_true rfl)
  rw [lg_entry_eq]
  generalize (lg_sl ([.ref q_p0, .int a_1, .ref q_p2]) ++ List.replicate (4 - (lg_sl ([.ref q_p0, .int a_1, .ref q_p2])).length) Slot.unset).toArray = ls at hl ⊢
  have hl : lv_has ls 4 [(0, .ref q_p0), (1, .int a_1), (2, .ref q_p2)] := hl
  unfold wp_L_inside at hw
  refine lv_aload_n hx hb d_L_inside_0 rfl (lv_at hl 2 rfl) ?_
  refine lv_iconst (v := (0 : Int32)) hx hb d_L_inside_1 (by decide) ?_
  refine lv_aload_n hx hb d_L_inside_2 rfl (lv_at hl 0 rfl) ?_
  refine lv_iload_n hx hb d_L_inside_3 rfl (lv_at hl 1 rfl) ?_
  refine jx_i C0 hP hD hS [0, 1, 2, 3, 4, 5] [6] (ru_Vx C0 (As := [.int a_1]) (rest := [.int (0 : Int32), .ref q_p2]) (c_X_inside l hl9 dC dI cI cJ cZ q_p0 q_p0_tickets q_p0_tickets_guests q_p0_doors q_p0_doors_firstIn q_p0_doors_goneOut q_p0_slots q_p0_requests q_p0_chances q_p0_tariff q_p0_tickets_slot q_p0_tickets_kind q_p0_tickets_returned q_p0_doors_seconds q_p0_doors_order q_p0_doors_doubles a_1 v_p0_tickets_guests v_p0_tickets_made v_p0_doors_firstIn v_p0_doors_found v_p0_doors_goneOut _ _ hw _) k_470 k_471 k_472 k_473 k_86 (n9 := 1) (by decide +kernel) rfl (ci := 0) rfl rfl ⟨Nat.le_of_ble_eq_true rfl, Nat.le_of_ble_eq_true rfl⟩ hP hD hS [0, 1, 2, 3, 4, 5] rfl (by decide) hl.1 rfl (Nat.le_of_ble_eq_true rfl) d_L_inside_4 ⟨Nat.le_of_ble_eq_true rfl, Nat.le_of_ble_eq_true rfl⟩) rfl rfl (by decide) (by decide) (fun E ce q9 H locs hw hP hD hS hce hcv hcl => ?_) (fun r_1 u H locs hw hP hD hS => ?_)
  · obtain ⟨rfl, hw⟩ := hw
    refine xcatch (E := "java/lang/IllegalArgumentException") (name := "java/lang/IllegalArgumentException") C0 [] ⟨0, 9, 12, 15⟩ [] (by rw [hTab]; rfl) (fun z hz => nomatch hz) (by decide) (by decide) k_412 (zn hZ zc_IAE) hce hcv hcl ?_
    refine lv_astore_n (lv' := [(3, .ref q9), (0, .ref q_p0), (1, .int a_1), (2, .ref q_p2)]) hx hb d_L_inside_12 rfl hl (by decide) rfl (fun ls hl => ?_)
    refine lv_iconst (v := (1 : Int32)) hx hb d_L_inside_13 (by decide) ?_
    exact rw_i (u := v_p2) C0 hw (hP.sub [1, 2, 3, 4, 5, 6, 0] rfl) (hD.sub [1, 2, 3, 4, 5, 6, 0] (by decide) rfl) hS (by decide) (by decide) d_L_inside_14
  · try dsimp only at hw
    have hP : va_P (dC, dI) classes [(q_p2, .inl (cJ, n_p2, .inr (.inl v_p2))), (q_p0, .inr (0, [.ref q_p0_slots, .ref q_p0_tickets, .ref q_p0_requests, .ref q_p0_chances, .ref q_p0_tariff, .ref q_p0_doors])), (q_p0_tickets, .inr (2, [.ref q_p0_tickets_slot, .ref q_p0_tickets_guests, .ref q_p0_tickets_kind, .ref q_p0_tickets_returned, .int v_p0_tickets_made])), (q_p0_tickets_guests, .inl (cI, 60, .inl v_p0_tickets_guests)), (q_p0_doors, .inr (6, [.ref q_p0_doors_seconds, .ref q_p0_doors_order, .ref q_p0_doors_firstIn, .ref q_p0_doors_doubles, .int v_p0_doors_found, .ref q_p0_doors_goneOut])), (q_p0_doors_firstIn, .inl (cI, 60, .inl v_p0_doors_firstIn)), (q_p0_doors_goneOut, .inl (cI, 60, .inl v_p0_doors_goneOut))] H := hP
    have hD : va_D A [(q_p2, .inl (cJ, n_p2, .inr (.inl v_p2))), (q_p0, .inr (0, [.ref q_p0_slots, .ref q_p0_tickets, .ref q_p0_requests, .ref q_p0_chances, .ref q_p0_tariff, .ref q_p0_doors])), (q_p0_tickets, .inr (2, [.ref q_p0_tickets_slot, .ref q_p0_tickets_guests, .ref q_p0_tickets_kind, .ref q_p0_tickets_returned, .int v_p0_tickets_made])), (q_p0_tickets_guests, .inl (cI, 60, .inl v_p0_tickets_guests)), (q_p0_doors, .inr (6, [.ref q_p0_doors_seconds, .ref q_p0_doors_order, .ref q_p0_doors_firstIn, .ref q_p0_doors_doubles, .int v_p0_doors_found, .ref q_p0_doors_goneOut])), (q_p0_doors_firstIn, .inl (cI, 60, .inl v_p0_doors_firstIn)), (q_p0_doors_goneOut, .inl (cI, 60, .inl v_p0_doors_goneOut))] := hD
    refine lv_i2l hx hb d_L_inside_7 rfl ?_
    obtain ⟨h_2, hw⟩ := hw
    refine va_last hx hb hK hP hD hS 0 1 rfl rfl h_2 d_L_inside_8 (fun H locs hP hD hS => ?_)
    obtain ⟨f_3, ef_3⟩ : ∃ g : Nat → Int64, g = vp_updL v_p2 (0 : Int32).toNatClampNeg r_1.toInt64 := ⟨_, rfl⟩
    have hw := hw f_3 ef_3
    have hP : va_P (dC, dI) classes [(q_p2, .inl (cJ, n_p2, .inr (.inl f_3))), (q_p0, .inr (0, [.ref q_p0_slots, .ref q_p0_tickets, .ref q_p0_requests, .ref q_p0_chances, .ref q_p0_tariff, .ref q_p0_doors])), (q_p0_tickets, .inr (2, [.ref q_p0_tickets_slot, .ref q_p0_tickets_guests, .ref q_p0_tickets_kind, .ref q_p0_tickets_returned, .int v_p0_tickets_made])), (q_p0_tickets_guests, .inl (cI, 60, .inl v_p0_tickets_guests)), (q_p0_doors, .inr (6, [.ref q_p0_doors_seconds, .ref q_p0_doors_order, .ref q_p0_doors_firstIn, .ref q_p0_doors_doubles, .int v_p0_doors_found, .ref q_p0_doors_goneOut])), (q_p0_doors_firstIn, .inl (cI, 60, .inl v_p0_doors_firstIn)), (q_p0_doors_goneOut, .inl (cI, 60, .inl v_p0_doors_goneOut))] H := by rw [ef_3]; exact hP
    have hD : va_D A [(q_p2, .inl (cJ, n_p2, .inr (.inl f_3))), (q_p0, .inr (0, [.ref q_p0_slots, .ref q_p0_tickets, .ref q_p0_requests, .ref q_p0_chances, .ref q_p0_tariff, .ref q_p0_doors])), (q_p0_tickets, .inr (2, [.ref q_p0_tickets_slot, .ref q_p0_tickets_guests, .ref q_p0_tickets_kind, .ref q_p0_tickets_returned, .int v_p0_tickets_made])), (q_p0_tickets_guests, .inl (cI, 60, .inl v_p0_tickets_guests)), (q_p0_doors, .inr (6, [.ref q_p0_doors_seconds, .ref q_p0_doors_order, .ref q_p0_doors_firstIn, .ref q_p0_doors_doubles, .int v_p0_doors_found, .ref q_p0_doors_goneOut])), (q_p0_doors_firstIn, .inl (cI, 60, .inl v_p0_doors_firstIn)), (q_p0_doors_goneOut, .inl (cI, 60, .inl v_p0_doors_goneOut))] := by rw [ef_3]; exact hD
    refine lv_goto (tgt := 15) hx hb d_L_inside_9 (by decide) ?_
    refine lv_iconst (v := (0 : Int32)) hx hb d_L_inside_15 (by decide) ?_
    exact rw_i (u := f_3) C0 hw (hP.sub [1, 2, 3, 4, 5, 6, 0] rfl) (hD.sub [1, 2, 3, 4, 5, 6, 0] (by decide) rfl) hS (by decide) (by decide) d_L_inside_16
theorem d_L_count_0 : decode b_L_count 0 = .ok (.aload_n 2, 1) := by decide +kernel
theorem d_L_count_1 : decode b_L_count 1 = .ok (.iconst 0, 1) := by decide +kernel
theorem d_L_count_2 : decode b_L_count 2 = .ok (.aload_n 0, 1) := by decide +kernel
theorem d_L_count_3 : decode b_L_count 3 = .ok (.iload_n 1, 1) := by decide +kernel
theorem d_L_count_4 : decode b_L_count 4 = .ok (.invokevirtual 68, 3) := by decide +kernel
theorem d_L_count_7 : decode b_L_count 7 = .ok (.i2l, 1) := by decide +kernel
theorem d_L_count_8 : decode b_L_count 8 = .ok (.lastore, 1) := by decide +kernel
theorem d_L_count_9 : decode b_L_count 9 = .ok (.goto 6, 3) := by decide +kernel
theorem d_L_count_12 : decode b_L_count 12 = .ok (.astore_n 3, 1) := by decide +kernel
theorem d_L_count_13 : decode b_L_count 13 = .ok (.iconst 1, 1) := by decide +kernel
theorem d_L_count_14 : decode b_L_count 14 = .ok (.ireturn, 1) := by decide +kernel
theorem d_L_count_15 : decode b_L_count 15 = .ok (.iconst 0, 1) := by decide +kernel
theorem d_L_count_16 : decode b_L_count 16 = .ok (.ireturn, 1) := by decide +kernel
def wp_L_count (post : Int32 → (Nat → Int64) → Prop) (n_p2 : Nat) (a_1 : Int32) (v_p0_slots_made : Int32) (v_p0_tickets_made : Int32) (v_p0_requests_made : Int32) (v_p0_requests_served : Int32) (v_p0_tariff_length : Int32) (v_p0_tariff_clauses : Int32) (v_p2 : Nat → Int64) : Prop := wp_X_count (fun r_1 _ => (vp_in (0 : Int32) n_p2 ∧ (∀ f_3 : Nat → Int64, f_3 = vp_updL v_p2 (0 : Int32).toNatClampNeg r_1.toInt64 → post (0 : Int32) f_3))) (fun E => (E = "java/lang/IndexOutOfBoundsException" ∧ post (1 : Int32) v_p2)) a_1 v_p0_slots_made v_p0_tickets_made v_p0_requests_made v_p0_requests_served v_p0_tariff_length v_p0_tariff_clauses
set_option maxHeartbeats 4000000 in
set_option maxRecDepth 100000 in
theorem c_L_count (l : Launch) (hl9 : l.stackTraces = false) (dC : Nat → ClassId) (dI : Nat → Nat → Nat) (cI cJ cZ : ClassId) (q_p0 q_p0_slots q_p0_tickets q_p0_requests q_p0_tariff q_p2 q_p0_chances q_p0_doors q_p0_slots_places q_p0_slots_above q_p0_slots_below q_p0_slots_most q_p0_slots_sold q_p0_tickets_slot q_p0_tickets_guests q_p0_tickets_kind q_p0_tickets_returned q_p0_requests_slot q_p0_requests_guests q_p0_requests_kind q_p0_requests_ticket q_p0_tariff_text q_p0_tariff_prices q_p0_tariff_percents q_p0_tariff_newPrices q_p0_tariff_newPercents : Nat) (n_p2 : Nat) (a_1 : Int32) (v_p0_slots_made : Int32) (v_p0_tickets_made : Int32) (v_p0_requests_made : Int32) (v_p0_requests_served : Int32) (v_p0_tariff_length : Int32) (v_p0_tariff_clauses : Int32) (v_p0_tariff_newClauses : Int32) (v_p0_tariff_state : Int32) (v_p0_tariff_subject : Int32) (v_p0_tariff_number : Int32) (v_p0_tariff_digits : Int32) (v_p2 : Nat → Int64) (post : Int32 → (Nat → Int64) → Prop) (hw : wp_L_count post n_p2 a_1 v_p0_slots_made v_p0_tickets_made v_p0_requests_made v_p0_requests_served v_p0_tariff_length v_p0_tariff_clauses v_p2) : KiW l y_L_count b_L_count 4 (some .int) [(0, 9, 12, 21)] ({ frames := 7, cells := 1, slots := 6, locals := 103 } : Room) dC dI cI cJ cZ [.ref q_p0, .int a_1, .ref q_p2] [(q_p0, .inr (0, [.ref q_p0_slots, .ref q_p0_tickets, .ref q_p0_requests, .ref q_p0_chances, .ref q_p0_tariff, .ref q_p0_doors])), (q_p0_slots, .inr (1, [.ref q_p0_slots_places, .ref q_p0_slots_above, .ref q_p0_slots_below, .ref q_p0_slots_most, .ref q_p0_slots_sold, .int v_p0_slots_made])), (q_p0_tickets, .inr (2, [.ref q_p0_tickets_slot, .ref q_p0_tickets_guests, .ref q_p0_tickets_kind, .ref q_p0_tickets_returned, .int v_p0_tickets_made])), (q_p0_requests, .inr (3, [.ref q_p0_requests_slot, .ref q_p0_requests_guests, .ref q_p0_requests_kind, .ref q_p0_requests_ticket, .int v_p0_requests_made, .int v_p0_requests_served])), (q_p0_tariff, .inr (5, [.ref q_p0_tariff_text, .int v_p0_tariff_length, .ref q_p0_tariff_prices, .ref q_p0_tariff_percents, .int v_p0_tariff_clauses, .ref q_p0_tariff_newPrices, .ref q_p0_tariff_newPercents, .int v_p0_tariff_newClauses, .int v_p0_tariff_state, .int v_p0_tariff_subject, .int v_p0_tariff_number, .int v_p0_tariff_digits])), (q_p2, .inl (cJ, n_p2, .inr (.inl v_p2)))] post (fun u : (Nat → Int64) => [(q_p0, .inr (0, [.ref q_p0_slots, .ref q_p0_tickets, .ref q_p0_requests, .ref q_p0_chances, .ref q_p0_tariff, .ref q_p0_doors])), (q_p0_slots, .inr (1, [.ref q_p0_slots_places, .ref q_p0_slots_above, .ref q_p0_slots_below, .ref q_p0_slots_most, .ref q_p0_slots_sold, .int v_p0_slots_made])), (q_p0_tickets, .inr (2, [.ref q_p0_tickets_slot, .ref q_p0_tickets_guests, .ref q_p0_tickets_kind, .ref q_p0_tickets_returned, .int v_p0_tickets_made])), (q_p0_requests, .inr (3, [.ref q_p0_requests_slot, .ref q_p0_requests_guests, .ref q_p0_requests_kind, .ref q_p0_requests_ticket, .int v_p0_requests_made, .int v_p0_requests_served])), (q_p0_tariff, .inr (5, [.ref q_p0_tariff_text, .int v_p0_tariff_length, .ref q_p0_tariff_prices, .ref q_p0_tariff_percents, .int v_p0_tariff_clauses, .ref q_p0_tariff_newPrices, .ref q_p0_tariff_newPercents, .int v_p0_tariff_newClauses, .int v_p0_tariff_state, .int v_p0_tariff_subject, .int v_p0_tariff_number, .int v_p0_tariff_digits])), (q_p2, .inl (cJ, n_p2, .inr (.inl u)))]) := by
  refine mkiW hl9 (own := R_L) rfl (by decide) ?_
  intro p e s m args below meth c A C0 hTab hNc eav hP hD
  have hN : ∀ q ∈ ([] : List Loc), s.heap.size ≤ q.base := fun q h => by cases h
  obtain ⟨-, hx, hb, hml, hr, hown, hts, hlocks, hK, hZ, hA, hNS⟩ := id C0
  subst eav
  have hS : va_S A s.heap s.heap [] := va_S.rf
  have hl := lv_entry ([.ref q_p0, .int a_1, .ref q_p2]) (n := 4) (Nat.le_of_ble_eq_true rfl)
  rw [lg_entry_eq]
  generalize (lg_sl ([.ref q_p0, .int a_1, .ref q_p2]) ++ List.replicate (4 - (lg_sl ([.ref q_p0, .int a_1, .ref q_p2])).length) Slot.unset).toArray = ls at hl ⊢
  have hl : lv_has ls 4 [(0, .ref q_p0), (1, .int a_1), (2, .ref q_p2)] := hl
  unfold wp_L_count at hw
  refine lv_aload_n hx hb d_L_count_0 rfl (lv_at hl 2 rfl) ?_
  refine lv_iconst (v := (0 : Int32)) hx hb d_L_count_1 (by decide) ?_
  refine lv_aload_n hx hb d_L_count_2 rfl (lv_at hl 0 rfl) ?_
  refine lv_iload_n hx hb d_L_count_3 rfl (lv_at hl 1 rfl) ?_
  refine jxn_i C0 hP hD hS hN [0, 1, 2, 3, 4] [5] (ru_Vx C0 (As := [.int a_1]) (rest := [.int (0 : Int32), .ref q_p2]) (c_X_count l hl9 dC dI cI cJ cZ q_p0 q_p0_slots q_p0_tickets q_p0_requests q_p0_tariff q_p0_chances q_p0_doors q_p0_slots_places q_p0_slots_above q_p0_slots_below q_p0_slots_most q_p0_slots_sold q_p0_tickets_slot q_p0_tickets_guests q_p0_tickets_kind q_p0_tickets_returned q_p0_requests_slot q_p0_requests_guests q_p0_requests_kind q_p0_requests_ticket q_p0_tariff_text q_p0_tariff_prices q_p0_tariff_percents q_p0_tariff_newPrices q_p0_tariff_newPercents a_1 v_p0_slots_made v_p0_tickets_made v_p0_requests_made v_p0_requests_served v_p0_tariff_length v_p0_tariff_clauses v_p0_tariff_newClauses v_p0_tariff_state v_p0_tariff_subject v_p0_tariff_number v_p0_tariff_digits _ _ hw _) k_474 k_475 k_476 k_477 k_86 (n9 := 1) (by decide +kernel) rfl (ci := 0) rfl rfl ⟨Nat.le_of_ble_eq_true rfl, Nat.le_of_ble_eq_true rfl⟩ hP hD hS [0, 1, 2, 3, 4] rfl (by decide) hl.1 rfl (Nat.le_of_ble_eq_true rfl) d_L_count_4 ⟨Nat.le_of_ble_eq_true rfl, Nat.le_of_ble_eq_true rfl⟩) rfl rfl (by decide) (by decide) (fun E ce q9 H locs hw hP hD hS hN hce hcv hcl => ?_) (fun r_1 u H locs hw hP hD hS hN => ?_)
  · obtain ⟨rfl, hw⟩ := hw
    refine xcatch (E := "java/lang/IndexOutOfBoundsException") (name := "java/lang/IndexOutOfBoundsException") C0 [] ⟨0, 9, 12, 21⟩ [] (by rw [hTab]; rfl) (fun z hz => nomatch hz) (by decide) (by decide) k_417 (zn hZ zc_IOB) hce hcv hcl ?_
    refine lv_astore_n (lv' := [(3, .ref q9), (0, .ref q_p0), (1, .int a_1), (2, .ref q_p2)]) hx hb d_L_count_12 rfl hl (by decide) rfl (fun ls hl => ?_)
    refine lv_iconst (v := (1 : Int32)) hx hb d_L_count_13 (by decide) ?_
    exact rw_i (u := v_p2) C0 hw (hP.sub [1, 2, 3, 4, 5, 0] rfl) (hD.sub [1, 2, 3, 4, 5, 0] (by decide) rfl) hS (by decide) (by decide) d_L_count_14
  · try dsimp only at hw
    have hP : va_P (dC, dI) classes [(q_p2, .inl (cJ, n_p2, .inr (.inl v_p2))), (q_p0, .inr (0, [.ref q_p0_slots, .ref q_p0_tickets, .ref q_p0_requests, .ref q_p0_chances, .ref q_p0_tariff, .ref q_p0_doors])), (q_p0_slots, .inr (1, [.ref q_p0_slots_places, .ref q_p0_slots_above, .ref q_p0_slots_below, .ref q_p0_slots_most, .ref q_p0_slots_sold, .int v_p0_slots_made])), (q_p0_tickets, .inr (2, [.ref q_p0_tickets_slot, .ref q_p0_tickets_guests, .ref q_p0_tickets_kind, .ref q_p0_tickets_returned, .int v_p0_tickets_made])), (q_p0_requests, .inr (3, [.ref q_p0_requests_slot, .ref q_p0_requests_guests, .ref q_p0_requests_kind, .ref q_p0_requests_ticket, .int v_p0_requests_made, .int v_p0_requests_served])), (q_p0_tariff, .inr (5, [.ref q_p0_tariff_text, .int v_p0_tariff_length, .ref q_p0_tariff_prices, .ref q_p0_tariff_percents, .int v_p0_tariff_clauses, .ref q_p0_tariff_newPrices, .ref q_p0_tariff_newPercents, .int v_p0_tariff_newClauses, .int v_p0_tariff_state, .int v_p0_tariff_subject, .int v_p0_tariff_number, .int v_p0_tariff_digits]))] H := hP
    have hD : va_D A [(q_p2, .inl (cJ, n_p2, .inr (.inl v_p2))), (q_p0, .inr (0, [.ref q_p0_slots, .ref q_p0_tickets, .ref q_p0_requests, .ref q_p0_chances, .ref q_p0_tariff, .ref q_p0_doors])), (q_p0_slots, .inr (1, [.ref q_p0_slots_places, .ref q_p0_slots_above, .ref q_p0_slots_below, .ref q_p0_slots_most, .ref q_p0_slots_sold, .int v_p0_slots_made])), (q_p0_tickets, .inr (2, [.ref q_p0_tickets_slot, .ref q_p0_tickets_guests, .ref q_p0_tickets_kind, .ref q_p0_tickets_returned, .int v_p0_tickets_made])), (q_p0_requests, .inr (3, [.ref q_p0_requests_slot, .ref q_p0_requests_guests, .ref q_p0_requests_kind, .ref q_p0_requests_ticket, .int v_p0_requests_made, .int v_p0_requests_served])), (q_p0_tariff, .inr (5, [.ref q_p0_tariff_text, .int v_p0_tariff_length, .ref q_p0_tariff_prices, .ref q_p0_tariff_percents, .int v_p0_tariff_clauses, .ref q_p0_tariff_newPrices, .ref q_p0_tariff_newPercents, .int v_p0_tariff_newClauses, .int v_p0_tariff_state, .int v_p0_tariff_subject, .int v_p0_tariff_number, .int v_p0_tariff_digits]))] := hD
    refine lv_i2l hx hb d_L_count_7 rfl ?_
    obtain ⟨h_2, hw⟩ := hw
    refine va_last hx hb hK hP hD hS 0 1 rfl rfl h_2 d_L_count_8 (fun H locs hP hD hS => ?_)
    obtain ⟨f_3, ef_3⟩ : ∃ g : Nat → Int64, g = vp_updL v_p2 (0 : Int32).toNatClampNeg r_1.toInt64 := ⟨_, rfl⟩
    have hw := hw f_3 ef_3
    have hP : va_P (dC, dI) classes [(q_p2, .inl (cJ, n_p2, .inr (.inl f_3))), (q_p0, .inr (0, [.ref q_p0_slots, .ref q_p0_tickets, .ref q_p0_requests, .ref q_p0_chances, .ref q_p0_tariff, .ref q_p0_doors])), (q_p0_slots, .inr (1, [.ref q_p0_slots_places, .ref q_p0_slots_above, .ref q_p0_slots_below, .ref q_p0_slots_most, .ref q_p0_slots_sold, .int v_p0_slots_made])), (q_p0_tickets, .inr (2, [.ref q_p0_tickets_slot, .ref q_p0_tickets_guests, .ref q_p0_tickets_kind, .ref q_p0_tickets_returned, .int v_p0_tickets_made])), (q_p0_requests, .inr (3, [.ref q_p0_requests_slot, .ref q_p0_requests_guests, .ref q_p0_requests_kind, .ref q_p0_requests_ticket, .int v_p0_requests_made, .int v_p0_requests_served])), (q_p0_tariff, .inr (5, [.ref q_p0_tariff_text, .int v_p0_tariff_length, .ref q_p0_tariff_prices, .ref q_p0_tariff_percents, .int v_p0_tariff_clauses, .ref q_p0_tariff_newPrices, .ref q_p0_tariff_newPercents, .int v_p0_tariff_newClauses, .int v_p0_tariff_state, .int v_p0_tariff_subject, .int v_p0_tariff_number, .int v_p0_tariff_digits]))] H := by rw [ef_3]; exact hP
    have hD : va_D A [(q_p2, .inl (cJ, n_p2, .inr (.inl f_3))), (q_p0, .inr (0, [.ref q_p0_slots, .ref q_p0_tickets, .ref q_p0_requests, .ref q_p0_chances, .ref q_p0_tariff, .ref q_p0_doors])), (q_p0_slots, .inr (1, [.ref q_p0_slots_places, .ref q_p0_slots_above, .ref q_p0_slots_below, .ref q_p0_slots_most, .ref q_p0_slots_sold, .int v_p0_slots_made])), (q_p0_tickets, .inr (2, [.ref q_p0_tickets_slot, .ref q_p0_tickets_guests, .ref q_p0_tickets_kind, .ref q_p0_tickets_returned, .int v_p0_tickets_made])), (q_p0_requests, .inr (3, [.ref q_p0_requests_slot, .ref q_p0_requests_guests, .ref q_p0_requests_kind, .ref q_p0_requests_ticket, .int v_p0_requests_made, .int v_p0_requests_served])), (q_p0_tariff, .inr (5, [.ref q_p0_tariff_text, .int v_p0_tariff_length, .ref q_p0_tariff_prices, .ref q_p0_tariff_percents, .int v_p0_tariff_clauses, .ref q_p0_tariff_newPrices, .ref q_p0_tariff_newPercents, .int v_p0_tariff_newClauses, .int v_p0_tariff_state, .int v_p0_tariff_subject, .int v_p0_tariff_number, .int v_p0_tariff_digits]))] := by rw [ef_3]; exact hD
    refine lv_goto (tgt := 15) hx hb d_L_count_9 (by decide) ?_
    refine lv_iconst (v := (0 : Int32)) hx hb d_L_count_15 (by decide) ?_
    exact rw_i (u := f_3) C0 hw (hP.sub [1, 2, 3, 4, 5, 0] rfl) (hD.sub [1, 2, 3, 4, 5, 0] (by decide) rfl) hS (by decide) (by decide) d_L_count_16
