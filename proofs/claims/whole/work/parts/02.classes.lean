def R_X : String := "SlotTickets"
def F_X : u_T := fun k => match k with
  | 0 => ("SlotTickets", "slots", "LSlotTickets$Slots;", true)
  | 1 => ("SlotTickets", "tickets", "LSlotTickets$Tickets;", true)
  | 2 => ("SlotTickets", "requests", "LSlotTickets$Requests;", true)
  | 3 => ("SlotTickets", "chances", "LSlotTickets$Chances;", true)
  | 4 => ("SlotTickets", "tariff", "LSlotTickets$Tariff;", true)
  | _ => ("SlotTickets", "doors", "LSlotTickets$Doors;", true)
def t_X : Nat → FieldType := fun k => match k with
  | 0 => .object "SlotTickets$Slots"
  | 1 => .object "SlotTickets$Tickets"
  | 2 => .object "SlotTickets$Requests"
  | 3 => .object "SlotTickets$Chances"
  | 4 => .object "SlotTickets$Tariff"
  | _ => .object "SlotTickets$Doors"
theorem n_X : ∀ a, a < 6 → ∀ b, b < 6 → a ≠ b → (F_X a).2.1 ≠ (F_X b).2.1 := by decide +kernel
theorem t_X_ok : ∀ k, k < 6 → parseFieldDescriptor (F_X k).2.2.1 = some (t_X k) := by decide +kernel
def R_XS : String := "SlotTickets$Slots"
def F_XS : u_T := fun k => match k with
  | 0 => ("SlotTickets$Slots", "places", "[I", true)
  | 1 => ("SlotTickets$Slots", "above", "[I", true)
  | 2 => ("SlotTickets$Slots", "below", "[I", true)
  | 3 => ("SlotTickets$Slots", "most", "[I", true)
  | 4 => ("SlotTickets$Slots", "sold", "[I", true)
  | _ => ("SlotTickets$Slots", "made", "I", false)
def t_XS : Nat → FieldType := fun k => match k with
  | 0 => .array .int
  | 1 => .array .int
  | 2 => .array .int
  | 3 => .array .int
  | 4 => .array .int
  | _ => .int
theorem n_XS : ∀ a, a < 6 → ∀ b, b < 6 → a ≠ b → (F_XS a).2.1 ≠ (F_XS b).2.1 := by decide +kernel
theorem t_XS_ok : ∀ k, k < 6 → parseFieldDescriptor (F_XS k).2.2.1 = some (t_XS k) := by decide +kernel
def R_XT : String := "SlotTickets$Tickets"
def F_XT : u_T := fun k => match k with
  | 0 => ("SlotTickets$Tickets", "slot", "[I", true)
  | 1 => ("SlotTickets$Tickets", "guests", "[I", true)
  | 2 => ("SlotTickets$Tickets", "kind", "[I", true)
  | 3 => ("SlotTickets$Tickets", "returned", "[Z", true)
  | _ => ("SlotTickets$Tickets", "made", "I", false)
def t_XT : Nat → FieldType := fun k => match k with
  | 0 => .array .int
  | 1 => .array .int
  | 2 => .array .int
  | 3 => .array .boolean
  | _ => .int
theorem n_XT : ∀ a, a < 5 → ∀ b, b < 5 → a ≠ b → (F_XT a).2.1 ≠ (F_XT b).2.1 := by decide +kernel
theorem t_XT_ok : ∀ k, k < 5 → parseFieldDescriptor (F_XT k).2.2.1 = some (t_XT k) := by decide +kernel
def R_XR : String := "SlotTickets$Requests"
def F_XR : u_T := fun k => match k with
  | 0 => ("SlotTickets$Requests", "slot", "[I", true)
  | 1 => ("SlotTickets$Requests", "guests", "[I", true)
  | 2 => ("SlotTickets$Requests", "kind", "[I", true)
  | 3 => ("SlotTickets$Requests", "ticket", "[I", true)
  | 4 => ("SlotTickets$Requests", "made", "I", false)
  | _ => ("SlotTickets$Requests", "served", "I", false)
def t_XR : Nat → FieldType := fun k => match k with
  | 0 => .array .int
  | 1 => .array .int
  | 2 => .array .int
  | 3 => .array .int
  | 4 => .int
  | _ => .int
theorem n_XR : ∀ a, a < 6 → ∀ b, b < 6 → a ≠ b → (F_XR a).2.1 ≠ (F_XR b).2.1 := by decide +kernel
theorem t_XR_ok : ∀ k, k < 6 → parseFieldDescriptor (F_XR k).2.2.1 = some (t_XR k) := by decide +kernel
def R_XC : String := "SlotTickets$Chances"
def F_XC : u_T := fun k => match k with
  | _ => ("SlotTickets$Chances", "ways", "[J", true)
def t_XC : Nat → FieldType := fun k => match k with
  | _ => .array .long
theorem n_XC : ∀ a, a < 1 → ∀ b, b < 1 → a ≠ b → (F_XC a).2.1 ≠ (F_XC b).2.1 := by decide +kernel
theorem t_XC_ok : ∀ k, k < 1 → parseFieldDescriptor (F_XC k).2.2.1 = some (t_XC k) := by decide +kernel
def R_XF : String := "SlotTickets$Tariff"
def F_XF : u_T := fun k => match k with
  | 0 => ("SlotTickets$Tariff", "text", "[I", true)
  | 1 => ("SlotTickets$Tariff", "length", "I", false)
  | 2 => ("SlotTickets$Tariff", "prices", "[I", true)
  | 3 => ("SlotTickets$Tariff", "percents", "[I", true)
  | 4 => ("SlotTickets$Tariff", "clauses", "I", false)
  | 5 => ("SlotTickets$Tariff", "newPrices", "[I", true)
  | 6 => ("SlotTickets$Tariff", "newPercents", "[I", true)
  | 7 => ("SlotTickets$Tariff", "newClauses", "I", false)
  | 8 => ("SlotTickets$Tariff", "state", "I", false)
  | 9 => ("SlotTickets$Tariff", "subject", "I", false)
  | 10 => ("SlotTickets$Tariff", "number", "I", false)
  | _ => ("SlotTickets$Tariff", "digits", "I", false)
def t_XF : Nat → FieldType := fun k => match k with
  | 0 => .array .int
  | 1 => .int
  | 2 => .array .int
  | 3 => .array .int
  | 4 => .int
  | 5 => .array .int
  | 6 => .array .int
  | 7 => .int
  | 8 => .int
  | 9 => .int
  | 10 => .int
  | _ => .int
theorem n_XF : ∀ a, a < 12 → ∀ b, b < 12 → a ≠ b → (F_XF a).2.1 ≠ (F_XF b).2.1 := by decide +kernel
theorem t_XF_ok : ∀ k, k < 12 → parseFieldDescriptor (F_XF k).2.2.1 = some (t_XF k) := by decide +kernel
def R_XD : String := "SlotTickets$Doors"
def F_XD : u_T := fun k => match k with
  | 0 => ("SlotTickets$Doors", "seconds", "[I", true)
  | 1 => ("SlotTickets$Doors", "order", "[I", true)
  | 2 => ("SlotTickets$Doors", "firstIn", "[I", true)
  | 3 => ("SlotTickets$Doors", "doubles", "[I", true)
  | 4 => ("SlotTickets$Doors", "found", "I", false)
  | _ => ("SlotTickets$Doors", "goneOut", "[I", true)
def t_XD : Nat → FieldType := fun k => match k with
  | 0 => .array .int
  | 1 => .array .int
  | 2 => .array .int
  | 3 => .array .int
  | 4 => .int
  | _ => .array .int
theorem n_XD : ∀ a, a < 6 → ∀ b, b < 6 → a ≠ b → (F_XD a).2.1 ≠ (F_XD b).2.1 := by decide +kernel
theorem t_XD_ok : ∀ k, k < 6 → parseFieldDescriptor (F_XD k).2.2.1 = some (t_XD k) := by decide +kernel
def R_M : String := "SlotTicketsModel"
def F_M : u_T := fun k => match k with
  | 0 => ("SlotTicketsModel", "thrown", "I", false)
  | 1 => ("SlotTicketsModel", "slots", "I", false)
  | 2 => ("SlotTicketsModel", "places", "[I", true)
  | 3 => ("SlotTicketsModel", "aboves", "[I", true)
  | 4 => ("SlotTicketsModel", "belows", "[I", true)
  | 5 => ("SlotTicketsModel", "riskAboves", "[I", true)
  | 6 => ("SlotTicketsModel", "riskBelows", "[I", true)
  | 7 => ("SlotTicketsModel", "tickets", "I", false)
  | 8 => ("SlotTicketsModel", "slotOf", "[I", true)
  | 9 => ("SlotTicketsModel", "guests", "[I", true)
  | 10 => ("SlotTicketsModel", "kinds", "[I", true)
  | 11 => ("SlotTicketsModel", "returned", "[Z", true)
  | 12 => ("SlotTicketsModel", "outs", "[I", true)
  | 13 => ("SlotTicketsModel", "requests", "I", false)
  | 14 => ("SlotTicketsModel", "requestSlots", "[I", true)
  | 15 => ("SlotTicketsModel", "requestGuests", "[I", true)
  | 16 => ("SlotTicketsModel", "requestKinds", "[I", true)
  | 17 => ("SlotTicketsModel", "givens", "[I", true)
  | 18 => ("SlotTicketsModel", "length", "I", false)
  | 19 => ("SlotTicketsModel", "text", "[I", true)
  | 20 => ("SlotTicketsModel", "clauses", "I", false)
  | 21 => ("SlotTicketsModel", "sorts", "[I", true)
  | 22 => ("SlotTicketsModel", "ones", "[I", true)
  | 23 => ("SlotTicketsModel", "twos", "[I", true)
  | 24 => ("SlotTicketsModel", "found", "I", false)
  | 25 => ("SlotTicketsModel", "readSorts", "[I", true)
  | 26 => ("SlotTicketsModel", "readOnes", "[I", true)
  | 27 => ("SlotTicketsModel", "readTwos", "[I", true)
  | 28 => ("SlotTicketsModel", "seconds", "[I", true)
  | 29 => ("SlotTicketsModel", "firsts", "[I", true)
  | 30 => ("SlotTicketsModel", "doubles", "I", false)
  | 31 => ("SlotTicketsModel", "doubleTickets", "[I", true)
  | 32 => ("SlotTicketsModel", "doubleReaders", "[I", true)
  | 33 => ("SlotTicketsModel", "doubleSeconds", "[I", true)
  | _ => ("SlotTicketsModel", "digits", "[I", true)
def t_M : Nat → FieldType := fun k => match k with
  | 0 => .int
  | 1 => .int
  | 2 => .array .int
  | 3 => .array .int
  | 4 => .array .int
  | 5 => .array .int
  | 6 => .array .int
  | 7 => .int
  | 8 => .array .int
  | 9 => .array .int
  | 10 => .array .int
  | 11 => .array .boolean
  | 12 => .array .int
  | 13 => .int
  | 14 => .array .int
  | 15 => .array .int
  | 16 => .array .int
  | 17 => .array .int
  | 18 => .int
  | 19 => .array .int
  | 20 => .int
  | 21 => .array .int
  | 22 => .array .int
  | 23 => .array .int
  | 24 => .int
  | 25 => .array .int
  | 26 => .array .int
  | 27 => .array .int
  | 28 => .array .int
  | 29 => .array .int
  | 30 => .int
  | 31 => .array .int
  | 32 => .array .int
  | 33 => .array .int
  | _ => .array .int
theorem n_M : ∀ a, a < 35 → ∀ b, b < 35 → a ≠ b → (F_M a).2.1 ≠ (F_M b).2.1 := by decide +kernel
theorem t_M_ok : ∀ k, k < 35 → parseFieldDescriptor (F_M k).2.2.1 = some (t_M k) := by decide +kernel
def R_L : String := "SlotTicketsLaw"
def R_JA : String := "java/util/Arrays"
def R_JM : String := "java/lang/Math"
abbrev classes : List vw_C := [(R_X, F_X, 6), (R_XS, F_XS, 6), (R_XT, F_XT, 5), (R_XR, F_XR, 6), (R_XC, F_XC, 1), (R_XF, F_XF, 12), (R_XD, F_XD, 6), (R_M, F_M, 35)]
def GB : List Cond := lw_tbl.filter goodWord
theorem mt1 {w : Cond} (i : Nat) (h : tables_1_1[i]? = some w) (hg : goodWord w = true) : w ∈ GB := List.mem_filter.mpr ⟨List.mem_append_right _ (List.mem_append_left _ (List.mem_of_getElem? h)), hg⟩
theorem mt2 {w : Cond} (i : Nat) (h : tables_1_2[i]? = some w) (hg : goodWord w = true) : w ∈ GB := List.mem_filter.mpr ⟨List.mem_append_right _ (List.mem_append_right _ (List.mem_append_left _ (List.mem_of_getElem? h))), hg⟩
theorem mt3 {w : Cond} (i : Nat) (h : tables_1_3[i]? = some w) (hg : goodWord w = true) : w ∈ GB := List.mem_filter.mpr ⟨List.mem_append_right _ (List.mem_append_right _ (List.mem_append_right _ (List.mem_append_left _ (List.mem_of_getElem? h)))), hg⟩
theorem mt4 {w : Cond} (i : Nat) (h : tables_1_4[i]? = some w) (hg : goodWord w = true) : w ∈ GB := List.mem_filter.mpr ⟨List.mem_append_right _ (List.mem_append_right _ (List.mem_append_right _ (List.mem_append_right _ (List.mem_of_getElem? h)))), hg⟩
theorem mp {w : Cond} (i : Nat) (h : (k2_sels lw_privs)[i]? = some w) (hg : goodWord w = true) : w ∈ GB := List.mem_filter.mpr ⟨List.mem_append_left _ (List.mem_of_getElem? h), hg⟩
theorem i_X : ∀ w ∈ u_ws R_X F_X 6, w ∈ GB := by
  have h : ∀ k, k < 6 → u_lay R_X F_X k ∈ GB := by
    intro k hk
    rcases (show k = 0 ∨ k = 1 ∨ k = 2 ∨ k = 3 ∨ k = 4 ∨ k = 5 by omega) with rfl | rfl | rfl | rfl | rfl | rfl
    · exact mt1 209 rfl rfl
    · exact mt1 211 rfl rfl
    · exact mt1 213 rfl rfl
    · exact mt1 215 rfl rfl
    · exact mt1 217 rfl rfl
    · exact mt1 219 rfl rfl
  intro w hw
  obtain ⟨k, hk, rfl⟩ := List.mem_map.mp hw
  exact h k (List.mem_range.mp hk)
theorem i_XS : ∀ w ∈ u_ws R_XS F_XS 6, w ∈ GB := by
  have h : ∀ k, k < 6 → u_lay R_XS F_XS k ∈ GB := by
    intro k hk
    rcases (show k = 0 ∨ k = 1 ∨ k = 2 ∨ k = 3 ∨ k = 4 ∨ k = 5 by omega) with rfl | rfl | rfl | rfl | rfl | rfl
    · exact mt1 44 rfl rfl
    · exact mt1 46 rfl rfl
    · exact mt1 48 rfl rfl
    · exact mt1 50 rfl rfl
    · exact mt1 52 rfl rfl
    · exact mt1 54 rfl rfl
  intro w hw
  obtain ⟨k, hk, rfl⟩ := List.mem_map.mp hw
  exact h k (List.mem_range.mp hk)
theorem i_XT : ∀ w ∈ u_ws R_XT F_XT 5, w ∈ GB := by
  have h : ∀ k, k < 5 → u_lay R_XT F_XT k ∈ GB := by
    intro k hk
    rcases (show k = 0 ∨ k = 1 ∨ k = 2 ∨ k = 3 ∨ k = 4 by omega) with rfl | rfl | rfl | rfl | rfl
    · exact mt1 74 rfl rfl
    · exact mt1 76 rfl rfl
    · exact mt1 78 rfl rfl
    · exact mt1 80 rfl rfl
    · exact mt1 82 rfl rfl
  intro w hw
  obtain ⟨k, hk, rfl⟩ := List.mem_map.mp hw
  exact h k (List.mem_range.mp hk)
theorem i_XR : ∀ w ∈ u_ws R_XR F_XR 6, w ∈ GB := by
  have h : ∀ k, k < 6 → u_lay R_XR F_XR k ∈ GB := by
    intro k hk
    rcases (show k = 0 ∨ k = 1 ∨ k = 2 ∨ k = 3 ∨ k = 4 ∨ k = 5 by omega) with rfl | rfl | rfl | rfl | rfl | rfl
    · exact mt1 103 rfl rfl
    · exact mt1 105 rfl rfl
    · exact mt1 107 rfl rfl
    · exact mt1 109 rfl rfl
    · exact mt1 111 rfl rfl
    · exact mt1 113 rfl rfl
  intro w hw
  obtain ⟨k, hk, rfl⟩ := List.mem_map.mp hw
  exact h k (List.mem_range.mp hk)
theorem i_XC : ∀ w ∈ u_ws R_XC F_XC 1, w ∈ GB := by
  have h : ∀ k, k < 1 → u_lay R_XC F_XC k ∈ GB := by
    intro k hk
    rcases (show k = 0 by omega) with rfl
    · exact mt1 123 rfl rfl
  intro w hw
  obtain ⟨k, hk, rfl⟩ := List.mem_map.mp hw
  exact h k (List.mem_range.mp hk)
theorem i_XF : ∀ w ∈ u_ws R_XF F_XF 12, w ∈ GB := by
  have h : ∀ k, k < 12 → u_lay R_XF F_XF k ∈ GB := by
    intro k hk
    rcases (show k = 0 ∨ k = 1 ∨ k = 2 ∨ k = 3 ∨ k = 4 ∨ k = 5 ∨ k = 6 ∨ k = 7 ∨ k = 8 ∨ k = 9 ∨ k = 10 ∨ k = 11 by omega) with rfl | rfl | rfl | rfl | rfl | rfl | rfl | rfl | rfl | rfl | rfl | rfl
    · exact mt1 147 rfl rfl
    · exact mt1 149 rfl rfl
    · exact mt1 151 rfl rfl
    · exact mt1 153 rfl rfl
    · exact mt1 155 rfl rfl
    · exact mt1 157 rfl rfl
    · exact mt1 159 rfl rfl
    · exact mt1 161 rfl rfl
    · exact mt1 163 rfl rfl
    · exact mt1 165 rfl rfl
    · exact mt1 167 rfl rfl
    · exact mt1 169 rfl rfl
  intro w hw
  obtain ⟨k, hk, rfl⟩ := List.mem_map.mp hw
  exact h k (List.mem_range.mp hk)
theorem i_XD : ∀ w ∈ u_ws R_XD F_XD 6, w ∈ GB := by
  have h : ∀ k, k < 6 → u_lay R_XD F_XD k ∈ GB := by
    intro k hk
    rcases (show k = 0 ∨ k = 1 ∨ k = 2 ∨ k = 3 ∨ k = 4 ∨ k = 5 by omega) with rfl | rfl | rfl | rfl | rfl | rfl
    · exact mt1 190 rfl rfl
    · exact mt1 192 rfl rfl
    · exact mt1 194 rfl rfl
    · exact mt1 196 rfl rfl
    · exact mt1 198 rfl rfl
    · exact mt1 200 rfl rfl
  intro w hw
  obtain ⟨k, hk, rfl⟩ := List.mem_map.mp hw
  exact h k (List.mem_range.mp hk)
theorem i_M : ∀ w ∈ u_ws R_M F_M 35, w ∈ GB := by
  have h : ∀ k, k < 35 → u_lay R_M F_M k ∈ GB := by
    intro k hk
    rcases (show k = 0 ∨ k = 1 ∨ k = 2 ∨ k = 3 ∨ k = 4 ∨ k = 5 ∨ k = 6 ∨ k = 7 ∨ k = 8 ∨ k = 9 ∨ k = 10 ∨ k = 11 ∨ k = 12 ∨ k = 13 ∨ k = 14 ∨ k = 15 ∨ k = 16 ∨ k = 17 ∨ k = 18 ∨ k = 19 ∨ k = 20 ∨ k = 21 ∨ k = 22 ∨ k = 23 ∨ k = 24 ∨ k = 25 ∨ k = 26 ∨ k = 27 ∨ k = 28 ∨ k = 29 ∨ k = 30 ∨ k = 31 ∨ k = 32 ∨ k = 33 ∨ k = 34 by omega) with rfl | rfl | rfl | rfl | rfl | rfl | rfl | rfl | rfl | rfl | rfl | rfl | rfl | rfl | rfl | rfl | rfl | rfl | rfl | rfl | rfl | rfl | rfl | rfl | rfl | rfl | rfl | rfl | rfl | rfl | rfl | rfl | rfl | rfl | rfl
    · exact mt4 2 rfl rfl
    · exact mt4 4 rfl rfl
    · exact mt4 6 rfl rfl
    · exact mt4 8 rfl rfl
    · exact mt4 10 rfl rfl
    · exact mt4 12 rfl rfl
    · exact mt4 14 rfl rfl
    · exact mt4 16 rfl rfl
    · exact mt4 18 rfl rfl
    · exact mt4 20 rfl rfl
    · exact mt4 22 rfl rfl
    · exact mt4 24 rfl rfl
    · exact mt4 26 rfl rfl
    · exact mt4 28 rfl rfl
    · exact mt4 30 rfl rfl
    · exact mt4 32 rfl rfl
    · exact mt4 34 rfl rfl
    · exact mt4 36 rfl rfl
    · exact mt4 38 rfl rfl
    · exact mt4 40 rfl rfl
    · exact mt4 42 rfl rfl
    · exact mt4 44 rfl rfl
    · exact mt4 46 rfl rfl
    · exact mt4 48 rfl rfl
    · exact mt4 50 rfl rfl
    · exact mt4 52 rfl rfl
    · exact mt4 54 rfl rfl
    · exact mt4 56 rfl rfl
    · exact mt4 58 rfl rfl
    · exact mt4 60 rfl rfl
    · exact mt4 62 rfl rfl
    · exact mt4 64 rfl rfl
    · exact mt4 66 rfl rfl
    · exact mt4 68 rfl rfl
    · exact mt4 70 rfl rfl
  intro w hw
  obtain ⟨k, hk, rfl⟩ := List.mem_map.mp hw
  exact h k (List.mem_range.mp hk)
