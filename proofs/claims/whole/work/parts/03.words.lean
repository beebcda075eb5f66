abbrev b_XS_init : ByteArray := prog_5_method_1_code
def y_XS_init : MethodName := ⟨R_XS, "<init>", "()V"⟩
abbrev b_XT_init : ByteArray := prog_7_method_1_code
def y_XT_init : MethodName := ⟨R_XT, "<init>", "()V"⟩
abbrev b_XR_init : ByteArray := prog_4_method_1_code
def y_XR_init : MethodName := ⟨R_XR, "<init>", "()V"⟩
abbrev b_XC_init : ByteArray := prog_2_method_1_code
def y_XC_init : MethodName := ⟨R_XC, "<init>", "()V"⟩
abbrev b_XF_init : ByteArray := prog_6_method_1_code
def y_XF_init : MethodName := ⟨R_XF, "<init>", "()V"⟩
abbrev b_JA_fill_aIIV : ByteArray := prog_19_method_103_code
def y_JA_fill_aIIV : MethodName := ⟨R_JA, "fill", "([II)V"⟩
abbrev b_XD_init : ByteArray := prog_3_method_1_code
def y_XD_init : MethodName := ⟨R_XD, "<init>", "()V"⟩
abbrev b_X_init : ByteArray := prog_1_method_1_code
def y_X_init : MethodName := ⟨R_X, "<init>", "()V"⟩
abbrev b_XS_open : ByteArray := prog_5_method_2_code
def y_XS_open : MethodName := ⟨R_XS, "open", "(I)I"⟩
abbrev b_X_slot : ByteArray := prog_1_method_2_code
def y_X_slot : MethodName := ⟨R_X, "slot", "(I)I"⟩
abbrev b_X_needSlot : ByteArray := prog_1_method_24_code
def y_X_needSlot : MethodName := ⟨R_X, "needSlot", "(I)V"⟩
abbrev b_X_needShare : ByteArray := prog_1_method_29_code
def y_X_needShare : MethodName := ⟨R_X, "needShare", "(III)V"⟩
abbrev b_JA_fill_aJJV : ByteArray := prog_19_method_101_code
def y_JA_fill_aJJV : MethodName := ⟨R_JA, "fill", "([JJ)V"⟩
abbrev b_XC_mix : ByteArray := prog_2_method_6_code
def y_XC_mix : MethodName := ⟨R_XC, "mix", "(IIII)V"⟩
abbrev b_XC_inviteOne : ByteArray := prog_2_method_5_code
def y_XC_inviteOne : MethodName := ⟨R_XC, "inviteOne", "(III)V"⟩
abbrev b_XC_invite : ByteArray := prog_2_method_3_code
def y_XC_invite : MethodName := ⟨R_XC, "invite", "(IIII)V"⟩
abbrev b_JM_floorDiv : ByteArray := prog_14_method_49_code
def y_JM_floorDiv : MethodName := ⟨R_JM, "floorDiv", "(JJ)J"⟩
abbrev b_JM_floorMod : ByteArray := prog_14_method_52_code
def y_JM_floorMod : MethodName := ⟨R_JM, "floorMod", "(JJ)J"⟩
abbrev b_XC_isAbove : ByteArray := prog_2_method_7_code
def y_XC_isAbove : MethodName := ⟨R_XC, "isAbove", "(II)Z"⟩
abbrev b_XC_greatestSafe : ByteArray := prog_2_method_2_code
def y_XC_greatestSafe : MethodName := ⟨R_XC, "greatestSafe", "(IIIII)I"⟩
abbrev b_X_over : ByteArray := prog_1_method_3_code
def y_X_over : MethodName := ⟨R_X, "over", "(IIIII)V"⟩
abbrev b_X_most : ByteArray := prog_1_method_4_code
def y_X_most : MethodName := ⟨R_X, "most", "(I)I"⟩
abbrev b_X_digitOf : ByteArray := prog_1_method_31_code
def y_X_digitOf : MethodName := ⟨R_X, "digitOf", "(JI)I"⟩
abbrev b_XC_digitOfTooMany : ByteArray := prog_2_method_4_code
def y_XC_digitOfTooMany : MethodName := ⟨R_XC, "digitOfTooMany", "(I)I"⟩
abbrev b_X_odds : ByteArray := prog_1_method_5_code
def y_X_odds : MethodName := ⟨R_X, "odds", "(III)I"⟩
abbrev b_X_needKind : ByteArray := prog_1_method_26_code
def y_X_needKind : MethodName := ⟨R_X, "needKind", "(I)V"⟩
abbrev b_X_needGroup : ByteArray := prog_1_method_27_code
def y_X_needGroup : MethodName := ⟨R_X, "needGroup", "(I)V"⟩
abbrev b_XS_hasRoom : ByteArray := prog_5_method_3_code
def y_XS_hasRoom : MethodName := ⟨R_XS, "hasRoom", "(II)Z"⟩
abbrev b_XT_add : ByteArray := prog_7_method_2_code
def y_XT_add : MethodName := ⟨R_XT, "add", "(III)I"⟩
abbrev b_X_issue : ByteArray := prog_1_method_22_code
def y_X_issue : MethodName := ⟨R_X, "issue", "(III)I"⟩
abbrev b_X_sell : ByteArray := prog_1_method_6_code
def y_X_sell : MethodName := ⟨R_X, "sell", "(III)I"⟩
abbrev b_X_needTicket : ByteArray := prog_1_method_25_code
def y_X_needTicket : MethodName := ⟨R_X, "needTicket", "(I)V"⟩
abbrev b_XD_hasLetIn : ByteArray := prog_3_method_4_code
def y_XD_hasLetIn : MethodName := ⟨R_XD, "hasLetIn", "(II)Z"⟩
abbrev b_XD_anyLetIn : ByteArray := prog_3_method_5_code
def y_XD_anyLetIn : MethodName := ⟨R_XD, "anyLetIn", "(I)Z"⟩
abbrev b_XR_waitsFor : ByteArray := prog_4_method_3_code
def y_XR_waitsFor : MethodName := ⟨R_XR, "waitsFor", "(II)Z"⟩
abbrev b_XR_settle : ByteArray := prog_4_method_4_code
def y_XR_settle : MethodName := ⟨R_XR, "settle", "(II)V"⟩
abbrev b_X_serveWaiting : ByteArray := prog_1_method_23_code
def y_X_serveWaiting : MethodName := ⟨R_X, "serveWaiting", "(I)I"⟩
abbrev b_X_back : ByteArray := prog_1_method_7_code
def y_X_back : MethodName := ⟨R_X, "back", "(I)I"⟩
abbrev b_XR_add : ByteArray := prog_4_method_2_code
def y_XR_add : MethodName := ⟨R_XR, "add", "(III)I"⟩
abbrev b_X_waits : ByteArray := prog_1_method_8_code
def y_X_waits : MethodName := ⟨R_X, "waits", "(III)I"⟩
abbrev b_X_given : ByteArray := prog_1_method_9_code
def y_X_given : MethodName := ⟨R_X, "given", "(I)I"⟩
abbrev b_XF_collect : ByteArray := prog_6_method_2_code
def y_XF_collect : MethodName := ⟨R_XF, "collect", "(I)I"⟩
abbrev b_X_unit : ByteArray := prog_1_method_10_code
def y_X_unit : MethodName := ⟨R_X, "unit", "(I)I"⟩
abbrev b_XF_endsClause : ByteArray := prog_6_method_13_code
def y_XF_endsClause : MethodName := ⟨R_XF, "endsClause", "()Z"⟩
abbrev b_XF_takesDigit : ByteArray := prog_6_method_9_code
def y_XF_takesDigit : MethodName := ⟨R_XF, "takesDigit", "(II)Z"⟩
abbrev b_XF_beginsNext : ByteArray := prog_6_method_12_code
def y_XF_beginsNext : MethodName := ⟨R_XF, "beginsNext", "()Z"⟩
abbrev b_XF_beginsNumber : ByteArray := prog_6_method_8_code
def y_XF_beginsNumber : MethodName := ⟨R_XF, "beginsNumber", "(I)Z"⟩
abbrev b_XF_beginsClause : ByteArray := prog_6_method_7_code
def y_XF_beginsClause : MethodName := ⟨R_XF, "beginsClause", "(I)Z"⟩
abbrev b_XF_takesGroupDigit : ByteArray := prog_6_method_10_code
def y_XF_takesGroupDigit : MethodName := ⟨R_XF, "takesGroupDigit", "(I)Z"⟩
abbrev b_XF_endsGroup : ByteArray := prog_6_method_11_code
def y_XF_endsGroup : MethodName := ⟨R_XF, "endsGroup", "()Z"⟩
abbrev b_XF_takes : ByteArray := prog_6_method_6_code
def y_XF_takes : MethodName := ⟨R_XF, "takes", "(I)Z"⟩
abbrev b_XF_firstWrong : ByteArray := prog_6_method_5_code
def y_XF_firstWrong : MethodName := ⟨R_XF, "firstWrong", "(I)I"⟩
abbrev b_XF_adopt : ByteArray := prog_6_method_4_code
def y_XF_adopt : MethodName := ⟨R_XF, "adopt", "()I"⟩
abbrev b_X_rules : ByteArray := prog_1_method_11_code
def y_X_rules : MethodName := ⟨R_X, "rules", "()I"⟩
abbrev b_XF_cost : ByteArray := prog_6_method_3_code
def y_XF_cost : MethodName := ⟨R_XF, "cost", "(II)I"⟩
abbrev b_X_price : ByteArray := prog_1_method_12_code
def y_X_price : MethodName := ⟨R_X, "price", "(I)I"⟩
abbrev b_X_about : ByteArray := prog_1_method_13_code
def y_X_about : MethodName := ⟨R_X, "about", "(II)I"⟩
abbrev b_X_checkOf : ByteArray := prog_1_method_30_code
def y_X_checkOf : MethodName := ⟨R_X, "checkOf", "(I)I"⟩
abbrev b_XT_codeOf : ByteArray := prog_7_method_3_code
def y_XT_codeOf : MethodName := ⟨R_XT, "codeOf", "(I)I"⟩
abbrev b_X_code : ByteArray := prog_1_method_14_code
def y_X_code : MethodName := ⟨R_X, "code", "(II)I"⟩
abbrev b_XT_find : ByteArray := prog_7_method_4_code
def y_XT_find : MethodName := ⟨R_XT, "find", "(I)I"⟩
abbrev b_X_whose : ByteArray := prog_1_method_15_code
def y_X_whose : MethodName := ⟨R_X, "whose", "(I)I"⟩
abbrev b_X_needSecond : ByteArray := prog_1_method_28_code
def y_X_needSecond : MethodName := ⟨R_X, "needSecond", "(I)V"⟩
abbrev b_XD_letIn : ByteArray := prog_3_method_6_code
def y_XD_letIn : MethodName := ⟨R_XD, "letIn", "(III)V"⟩
abbrev b_X_read : ByteArray := prog_1_method_16_code
def y_X_read : MethodName := ⟨R_X, "read", "(III)I"⟩
abbrev b_XD_insertEntry : ByteArray := prog_3_method_9_code
def y_XD_insertEntry : MethodName := ⟨R_XD, "insertEntry", "(II)V"⟩
abbrev b_XD_sortEntries : ByteArray := prog_3_method_8_code
def y_XD_sortEntries : MethodName := ⟨R_XD, "sortEntries", "(I)I"⟩
abbrev b_XD_joinAll : ByteArray := prog_3_method_7_code
def y_XD_joinAll : MethodName := ⟨R_XD, "joinAll", "()I"⟩
abbrev b_X_join : ByteArray := prog_1_method_17_code
def y_X_join : MethodName := ⟨R_X, "join", "()I"⟩
abbrev b_XD_ticketOf : ByteArray := prog_3_method_2_code
def y_XD_ticketOf : MethodName := ⟨R_XD, "ticketOf", "(I)I"⟩
abbrev b_XD_readerOf : ByteArray := prog_3_method_3_code
def y_XD_readerOf : MethodName := ⟨R_XD, "readerOf", "(I)I"⟩
abbrev b_X_twice : ByteArray := prog_1_method_18_code
def y_X_twice : MethodName := ⟨R_X, "twice", "(II)I"⟩
abbrev b_XD_isIn : ByteArray := prog_3_method_12_code
def y_XD_isIn : MethodName := ⟨R_XD, "isIn", "(II)Z"⟩
abbrev b_XD_letOut : ByteArray := prog_3_method_10_code
def y_XD_letOut : MethodName := ⟨R_XD, "letOut", "(II)Z"⟩
abbrev b_X_leaves : ByteArray := prog_1_method_19_code
def y_X_leaves : MethodName := ⟨R_X, "leaves", "(II)Z"⟩
abbrev b_XD_holds : ByteArray := prog_3_method_11_code
def y_XD_holds : MethodName := ⟨R_XD, "holds", "(II)Z"⟩
abbrev b_X_inside : ByteArray := prog_1_method_20_code
def y_X_inside : MethodName := ⟨R_X, "inside", "(I)I"⟩
abbrev b_X_count : ByteArray := prog_1_method_21_code
def y_X_count : MethodName := ⟨R_X, "count", "(I)I"⟩
abbrev b_M_init : ByteArray := prog_9_method_1_code
def y_M_init : MethodName := ⟨R_M, "<init>", "()V"⟩
abbrev b_M_thrown : ByteArray := prog_9_method_2_code
def y_M_thrown : MethodName := ⟨R_M, "thrown", "()I"⟩
abbrev b_M_goes : ByteArray := prog_9_method_3_code
def y_M_goes : MethodName := ⟨R_M, "goes", "(ZZZ)Z"⟩
abbrev b_M_within : ByteArray := prog_9_method_4_code
def y_M_within : MethodName := ⟨R_M, "within", "(III)Z"⟩
abbrev b_M_isSlot : ByteArray := prog_9_method_5_code
def y_M_isSlot : MethodName := ⟨R_M, "isSlot", "(I)Z"⟩
abbrev b_M_isTicket : ByteArray := prog_9_method_6_code
def y_M_isTicket : MethodName := ⟨R_M, "isTicket", "(I)Z"⟩
abbrev b_M_slot : ByteArray := prog_9_method_7_code
def y_M_slot : MethodName := ⟨R_M, "slot", "(I)I"⟩
abbrev b_M_over : ByteArray := prog_9_method_8_code
def y_M_over : MethodName := ⟨R_M, "over", "(IIIII)V"⟩
abbrev b_M_guest : ByteArray := prog_9_method_9_code
def y_M_guest : MethodName := ⟨R_M, "guest", "(I)V"⟩
abbrev b_M_blank : ByteArray := prog_9_method_10_code
def y_M_blank : MethodName := ⟨R_M, "blank", "()V"⟩
abbrev b_M_sum : ByteArray := prog_9_method_11_code
def y_M_sum : MethodName := ⟨R_M, "sum", "(I)V"⟩
abbrev b_M_isTooMuch : ByteArray := prog_9_method_12_code
def y_M_isTooMuch : MethodName := ⟨R_M, "isTooMuch", "(I)Z"⟩
abbrev b_M_mostOf : ByteArray := prog_9_method_13_code
def y_M_mostOf : MethodName := ⟨R_M, "mostOf", "(I)I"⟩
abbrev b_M_most : ByteArray := prog_9_method_14_code
def y_M_most : MethodName := ⟨R_M, "most", "(I)I"⟩
abbrev b_M_odds : ByteArray := prog_9_method_15_code
def y_M_odds : MethodName := ⟨R_M, "odds", "(III)I"⟩
abbrev b_M_sold : ByteArray := prog_9_method_16_code
def y_M_sold : MethodName := ⟨R_M, "sold", "(I)I"⟩
abbrev b_M_give : ByteArray := prog_9_method_17_code
def y_M_give : MethodName := ⟨R_M, "give", "(III)I"⟩
abbrev b_M_sell : ByteArray := prog_9_method_18_code
def y_M_sell : MethodName := ⟨R_M, "sell", "(III)I"⟩
abbrev b_M_isIn : ByteArray := prog_9_method_19_code
def y_M_isIn : MethodName := ⟨R_M, "isIn", "(I)Z"⟩
abbrev b_M_back : ByteArray := prog_9_method_20_code
def y_M_back : MethodName := ⟨R_M, "back", "(I)I"⟩
abbrev b_M_waits : ByteArray := prog_9_method_21_code
def y_M_waits : MethodName := ⟨R_M, "waits", "(III)I"⟩
abbrev b_M_given : ByteArray := prog_9_method_22_code
def y_M_given : MethodName := ⟨R_M, "given", "(I)I"⟩
abbrev b_M_unit : ByteArray := prog_9_method_23_code
def y_M_unit : MethodName := ⟨R_M, "unit", "(I)I"⟩
abbrev b_M_fault : ByteArray := prog_9_method_24_code
def y_M_fault : MethodName := ⟨R_M, "fault", "()I"⟩
abbrev b_M_rules : ByteArray := prog_9_method_25_code
def y_M_rules : MethodName := ⟨R_M, "rules", "()I"⟩
abbrev b_M_price : ByteArray := prog_9_method_26_code
def y_M_price : MethodName := ⟨R_M, "price", "(I)I"⟩
abbrev b_M_about : ByteArray := prog_9_method_27_code
def y_M_about : MethodName := ⟨R_M, "about", "(II)I"⟩
abbrev b_M_codeOf : ByteArray := prog_9_method_28_code
def y_M_codeOf : MethodName := ⟨R_M, "codeOf", "(I)I"⟩
abbrev b_M_code : ByteArray := prog_9_method_29_code
def y_M_code : MethodName := ⟨R_M, "code", "(II)I"⟩
abbrev b_M_whose : ByteArray := prog_9_method_30_code
def y_M_whose : MethodName := ⟨R_M, "whose", "(I)I"⟩
abbrev b_M_isSecond : ByteArray := prog_9_method_31_code
def y_M_isSecond : MethodName := ⟨R_M, "isSecond", "(I)Z"⟩
abbrev b_M_read : ByteArray := prog_9_method_32_code
def y_M_read : MethodName := ⟨R_M, "read", "(III)I"⟩
abbrev b_M_next : ByteArray := prog_9_method_33_code
def y_M_next : MethodName := ⟨R_M, "next", "(II)I"⟩
abbrev b_M_join : ByteArray := prog_9_method_34_code
def y_M_join : MethodName := ⟨R_M, "join", "()I"⟩
abbrev b_M_twice : ByteArray := prog_9_method_35_code
def y_M_twice : MethodName := ⟨R_M, "twice", "(II)I"⟩
abbrev b_M_leaves : ByteArray := prog_9_method_36_code
def y_M_leaves : MethodName := ⟨R_M, "leaves", "(II)Z"⟩
abbrev b_M_inside : ByteArray := prog_9_method_37_code
def y_M_inside : MethodName := ⟨R_M, "inside", "(I)I"⟩
abbrev b_M_count : ByteArray := prog_9_method_38_code
def y_M_count : MethodName := ⟨R_M, "count", "(I)I"⟩
def NB : List Cond := [.methodLinkNest R_X 9 y_XS_init "SlotTickets",
  .methodLinkNest R_X 18 y_XT_init "SlotTickets",
  .methodLinkNest R_X 25 y_XR_init "SlotTickets",
  .methodLinkNest R_X 32 y_XC_init "SlotTickets",
  .methodLinkNest R_X 39 y_XF_init "SlotTickets",
  .fieldLinkNest R_X 51 "SlotTickets$Slots" "made" "I" "SlotTickets",
  .fieldLinkNest R_X 79 "SlotTickets$Slots" "above" "[I" "SlotTickets",
  .fieldLinkNest R_X 83 "SlotTickets$Slots" "below" "[I" "SlotTickets",
  .fieldLinkNest R_X 86 "SlotTickets$Slots" "most" "[I" "SlotTickets",
  .fieldLinkNest R_X 89 "SlotTickets$Slots" "places" "[I" "SlotTickets",
  .methodLinkNest R_XC 33 y_X_digitOf "SlotTickets",
  .fieldLinkNest R_X 113 "SlotTickets$Tickets" "made" "I" "SlotTickets",
  .fieldLinkNest R_X 141 "SlotTickets$Slots" "sold" "[I" "SlotTickets",
  .fieldLinkNest R_X 130 "SlotTickets$Tickets" "returned" "[Z" "SlotTickets",
  .fieldLinkNest R_X 138 "SlotTickets$Tickets" "slot" "[I" "SlotTickets",
  .fieldLinkNest R_X 144 "SlotTickets$Tickets" "guests" "[I" "SlotTickets",
  .fieldLinkNest R_X 150 "SlotTickets$Requests" "made" "I" "SlotTickets",
  .fieldLinkNest R_X 251 "SlotTickets$Requests" "guests" "[I" "SlotTickets",
  .fieldLinkNest R_X 252 "SlotTickets$Requests" "kind" "[I" "SlotTickets",
  .fieldLinkNest R_X 158 "SlotTickets$Requests" "ticket" "[I" "SlotTickets",
  .fieldLinkNest R_X 161 "SlotTickets$Tariff" "length" "I" "SlotTickets",
  .fieldLinkNest R_X 175 "SlotTickets$Tickets" "kind" "[I" "SlotTickets",
  .methodLinkNest R_XT 30 y_X_checkOf "SlotTickets",
  .fieldLinkNest R_X 214 "SlotTickets$Doors" "found" "I" "SlotTickets",
  .fieldLinkNest R_X 219 "SlotTickets$Doors" "doubles" "[I" "SlotTickets",
  .fieldLinkNest R_X 228 "SlotTickets$Doors" "seconds" "[I" "SlotTickets",
  .fieldLinkNest R_X 239 "SlotTickets$Requests" "served" "I" "SlotTickets",
  .fieldLinkNest R_X 242 "SlotTickets$Tariff" "clauses" "I" "SlotTickets",
  .castable "java/lang/IllegalStateException" "java/lang/IllegalStateException",
  .declares ⟨"java/lang/RuntimeException", "<init>", "()V"⟩,
  .declares ⟨"java/lang/RuntimeException", "<init>", "(Ljava/lang/String;)V"⟩,
  .declares ⟨"java/lang/Exception", "<init>", "()V"⟩,
  .declares ⟨"java/lang/Exception", "<init>", "(Ljava/lang/String;)V"⟩,
  .declares ⟨"java/lang/Throwable", "<init>", "()V"⟩,
  .declares ⟨"java/lang/Throwable", "<init>", "(Ljava/lang/String;)V"⟩,
  .castable "java/lang/IllegalArgumentException" "java/lang/IllegalArgumentException",
  .castable "java/lang/IndexOutOfBoundsException" "java/lang/IndexOutOfBoundsException"]
theorem z_0 : (.methodLinkNest R_X 9 y_XS_init "SlotTickets" : Cond) ∈ NB := List.mem_of_getElem? (i := 0) rfl
theorem z_1 : (.methodLinkNest R_X 18 y_XT_init "SlotTickets" : Cond) ∈ NB := List.mem_of_getElem? (i := 1) rfl
theorem z_2 : (.methodLinkNest R_X 25 y_XR_init "SlotTickets" : Cond) ∈ NB := List.mem_of_getElem? (i := 2) rfl
theorem z_3 : (.methodLinkNest R_X 32 y_XC_init "SlotTickets" : Cond) ∈ NB := List.mem_of_getElem? (i := 3) rfl
theorem z_4 : (.methodLinkNest R_X 39 y_XF_init "SlotTickets" : Cond) ∈ NB := List.mem_of_getElem? (i := 4) rfl
theorem z_5 : (.fieldLinkNest R_X 51 "SlotTickets$Slots" "made" "I" "SlotTickets" : Cond) ∈ NB := List.mem_of_getElem? (i := 5) rfl
theorem z_6 : (.fieldLinkNest R_X 79 "SlotTickets$Slots" "above" "[I" "SlotTickets" : Cond) ∈ NB := List.mem_of_getElem? (i := 6) rfl
theorem z_7 : (.fieldLinkNest R_X 83 "SlotTickets$Slots" "below" "[I" "SlotTickets" : Cond) ∈ NB := List.mem_of_getElem? (i := 7) rfl
theorem z_8 : (.fieldLinkNest R_X 86 "SlotTickets$Slots" "most" "[I" "SlotTickets" : Cond) ∈ NB := List.mem_of_getElem? (i := 8) rfl
theorem z_9 : (.fieldLinkNest R_X 89 "SlotTickets$Slots" "places" "[I" "SlotTickets" : Cond) ∈ NB := List.mem_of_getElem? (i := 9) rfl
theorem z_10 : (.methodLinkNest R_XC 33 y_X_digitOf "SlotTickets" : Cond) ∈ NB := List.mem_of_getElem? (i := 10) rfl
theorem z_11 : (.fieldLinkNest R_X 113 "SlotTickets$Tickets" "made" "I" "SlotTickets" : Cond) ∈ NB := List.mem_of_getElem? (i := 11) rfl
theorem z_12 : (.fieldLinkNest R_X 141 "SlotTickets$Slots" "sold" "[I" "SlotTickets" : Cond) ∈ NB := List.mem_of_getElem? (i := 12) rfl
theorem z_13 : (.fieldLinkNest R_X 130 "SlotTickets$Tickets" "returned" "[Z" "SlotTickets" : Cond) ∈ NB := List.mem_of_getElem? (i := 13) rfl
theorem z_14 : (.fieldLinkNest R_X 138 "SlotTickets$Tickets" "slot" "[I" "SlotTickets" : Cond) ∈ NB := List.mem_of_getElem? (i := 14) rfl
theorem z_15 : (.fieldLinkNest R_X 144 "SlotTickets$Tickets" "guests" "[I" "SlotTickets" : Cond) ∈ NB := List.mem_of_getElem? (i := 15) rfl
theorem z_16 : (.fieldLinkNest R_X 150 "SlotTickets$Requests" "made" "I" "SlotTickets" : Cond) ∈ NB := List.mem_of_getElem? (i := 16) rfl
theorem z_17 : (.fieldLinkNest R_X 251 "SlotTickets$Requests" "guests" "[I" "SlotTickets" : Cond) ∈ NB := List.mem_of_getElem? (i := 17) rfl
theorem z_18 : (.fieldLinkNest R_X 252 "SlotTickets$Requests" "kind" "[I" "SlotTickets" : Cond) ∈ NB := List.mem_of_getElem? (i := 18) rfl
theorem z_19 : (.fieldLinkNest R_X 158 "SlotTickets$Requests" "ticket" "[I" "SlotTickets" : Cond) ∈ NB := List.mem_of_getElem? (i := 19) rfl
theorem z_20 : (.fieldLinkNest R_X 161 "SlotTickets$Tariff" "length" "I" "SlotTickets" : Cond) ∈ NB := List.mem_of_getElem? (i := 20) rfl
theorem z_21 : (.fieldLinkNest R_X 175 "SlotTickets$Tickets" "kind" "[I" "SlotTickets" : Cond) ∈ NB := List.mem_of_getElem? (i := 21) rfl
theorem z_22 : (.methodLinkNest R_XT 30 y_X_checkOf "SlotTickets" : Cond) ∈ NB := List.mem_of_getElem? (i := 22) rfl
theorem z_23 : (.fieldLinkNest R_X 214 "SlotTickets$Doors" "found" "I" "SlotTickets" : Cond) ∈ NB := List.mem_of_getElem? (i := 23) rfl
theorem z_24 : (.fieldLinkNest R_X 219 "SlotTickets$Doors" "doubles" "[I" "SlotTickets" : Cond) ∈ NB := List.mem_of_getElem? (i := 24) rfl
theorem z_25 : (.fieldLinkNest R_X 228 "SlotTickets$Doors" "seconds" "[I" "SlotTickets" : Cond) ∈ NB := List.mem_of_getElem? (i := 25) rfl
theorem z_26 : (.fieldLinkNest R_X 239 "SlotTickets$Requests" "served" "I" "SlotTickets" : Cond) ∈ NB := List.mem_of_getElem? (i := 26) rfl
theorem z_27 : (.fieldLinkNest R_X 242 "SlotTickets$Tariff" "clauses" "I" "SlotTickets" : Cond) ∈ NB := List.mem_of_getElem? (i := 27) rfl
def SB : List (String × Nat × String) := [(R_X, 64, "places are 1 to 20"), (R_X, 57, "there are eight slots"), (R_X, 257, "no such slot"), (R_X, 268, "no such share"), (R_X, 98, "digits are 0 to 39"), (R_X, 101, "guests are 0 to 28"), (R_X, 261, "kinds are 0 to 4"), (R_X, 263, "a group has 1 to 9 guests"), (R_X, 114, "there are 60 tickets"), (R_X, 259, "no such ticket"), (R_X, 151, "there were 30 requests"), (R_X, 156, "no such request"), (R_X, 166, "signs are 33 to 126"), (R_X, 164, "there are 60 signs"), (R_X, 182, "what is 0 to 3"), (R_X, 184, "a code has digits 0 to 5"), (R_X, 200, "readers are 0 to 5"), (R_X, 266, "seconds are 0 to 100000"), (R_X, 217, "no such double"), (R_X, 231, "what is 0 to 2"), (R_X, 245, "what is 0 to 4")]
theorem sb_0 : (R_X, 64, "places are 1 to 20") ∈ SB := List.mem_of_getElem? (i := 0) rfl
theorem sb_1 : (R_X, 57, "there are eight slots") ∈ SB := List.mem_of_getElem? (i := 1) rfl
theorem sb_2 : (R_X, 257, "no such slot") ∈ SB := List.mem_of_getElem? (i := 2) rfl
theorem sb_3 : (R_X, 268, "no such share") ∈ SB := List.mem_of_getElem? (i := 3) rfl
theorem sb_4 : (R_X, 98, "digits are 0 to 39") ∈ SB := List.mem_of_getElem? (i := 4) rfl
theorem sb_5 : (R_X, 101, "guests are 0 to 28") ∈ SB := List.mem_of_getElem? (i := 5) rfl
theorem sb_6 : (R_X, 261, "kinds are 0 to 4") ∈ SB := List.mem_of_getElem? (i := 6) rfl
theorem sb_7 : (R_X, 263, "a group has 1 to 9 guests") ∈ SB := List.mem_of_getElem? (i := 7) rfl
theorem sb_8 : (R_X, 114, "there are 60 tickets") ∈ SB := List.mem_of_getElem? (i := 8) rfl
theorem sb_9 : (R_X, 259, "no such ticket") ∈ SB := List.mem_of_getElem? (i := 9) rfl
theorem sb_10 : (R_X, 151, "there were 30 requests") ∈ SB := List.mem_of_getElem? (i := 10) rfl
theorem sb_11 : (R_X, 156, "no such request") ∈ SB := List.mem_of_getElem? (i := 11) rfl
theorem sb_12 : (R_X, 166, "signs are 33 to 126") ∈ SB := List.mem_of_getElem? (i := 12) rfl
theorem sb_13 : (R_X, 164, "there are 60 signs") ∈ SB := List.mem_of_getElem? (i := 13) rfl
theorem sb_14 : (R_X, 182, "what is 0 to 3") ∈ SB := List.mem_of_getElem? (i := 14) rfl
theorem sb_15 : (R_X, 184, "a code has digits 0 to 5") ∈ SB := List.mem_of_getElem? (i := 15) rfl
theorem sb_16 : (R_X, 200, "readers are 0 to 5") ∈ SB := List.mem_of_getElem? (i := 16) rfl
theorem sb_17 : (R_X, 266, "seconds are 0 to 100000") ∈ SB := List.mem_of_getElem? (i := 17) rfl
theorem sb_18 : (R_X, 217, "no such double") ∈ SB := List.mem_of_getElem? (i := 18) rfl
theorem sb_19 : (R_X, 231, "what is 0 to 2") ∈ SB := List.mem_of_getElem? (i := 19) rfl
theorem sb_20 : (R_X, 245, "what is 0 to 4") ∈ SB := List.mem_of_getElem? (i := 20) rfl
theorem k_0 : (.methodLink R_X 1 objectInit : Cond) ∈ GB := mt1 23 rfl rfl
theorem k_1 : (.instanceMethod objectInit : Cond) ∈ GB := mt1 24 rfl rfl
theorem k_2 : (.code objectInit ⟨#[0xb1]⟩ 1 none : Cond) ∈ GB := mt1 25 rfl rfl
theorem k_3 : (.classLink R_X 7 R_XS : Cond) ∈ GB := mt1 26 rfl rfl
theorem k_4 : (.instantiable R_XS 6 : Cond) ∈ GB := mt1 27 rfl rfl
theorem k_5 : (.initialized R_XS : Cond) ∈ GB := mt1 2 rfl rfl
theorem k_6 : (.methodLink R_XS 3 objectInit : Cond) ∈ GB := mt1 31 rfl rfl
theorem k_7 : (.arrayClass .int : Cond) ∈ GB := mt1 57 rfl rfl
theorem k_8 : (.fieldLink R_XS 9 "SlotTickets$Slots" "places" "[I" : Cond) ∈ GB := mt1 32 rfl rfl
theorem k_9 : (.fieldLink R_XS 15 "SlotTickets$Slots" "above" "[I" : Cond) ∈ GB := mt1 34 rfl rfl
theorem k_10 : (.fieldLink R_XS 18 "SlotTickets$Slots" "below" "[I" : Cond) ∈ GB := mt1 36 rfl rfl
theorem k_11 : (.fieldLink R_XS 21 "SlotTickets$Slots" "most" "[I" : Cond) ∈ GB := mt1 38 rfl rfl
theorem k_12 : (.fieldLink R_XS 24 "SlotTickets$Slots" "sold" "[I" : Cond) ∈ GB := mt1 40 rfl rfl
theorem k_13 : (.code y_XS_init b_XS_init 1 none : Cond) ∈ GB := mt1 30 rfl rfl
theorem k_14 : (.instanceMethod y_XS_init : Cond) ∈ GB := mt1 29 rfl rfl
theorem k_15 : (.fieldLink R_X 10 "SlotTickets" "slots" "LSlotTickets$Slots;" : Cond) ∈ GB := mt1 203 rfl rfl
theorem k_16 : (.classLink R_X 16 R_XT : Cond) ∈ GB := mt1 58 rfl rfl
theorem k_17 : (.instantiable R_XT 5 : Cond) ∈ GB := mt1 59 rfl rfl
theorem k_18 : (.initialized R_XT : Cond) ∈ GB := mt1 3 rfl rfl
theorem k_19 : (.methodLink R_XT 3 objectInit : Cond) ∈ GB := mt1 63 rfl rfl
theorem k_20 : (.fieldLink R_XT 9 "SlotTickets$Tickets" "slot" "[I" : Cond) ∈ GB := mt1 64 rfl rfl
theorem k_21 : (.fieldLink R_XT 15 "SlotTickets$Tickets" "guests" "[I" : Cond) ∈ GB := mt1 66 rfl rfl
theorem k_22 : (.fieldLink R_XT 18 "SlotTickets$Tickets" "kind" "[I" : Cond) ∈ GB := mt1 68 rfl rfl
theorem k_23 : (.arrayClass .boolean : Cond) ∈ GB := mt1 85 rfl rfl
theorem k_24 : (.fieldLink R_XT 21 "SlotTickets$Tickets" "returned" "[Z" : Cond) ∈ GB := mt1 70 rfl rfl
theorem k_25 : (.code y_XT_init b_XT_init 1 none : Cond) ∈ GB := mt1 62 rfl rfl
theorem k_26 : (.instanceMethod y_XT_init : Cond) ∈ GB := mt1 61 rfl rfl
theorem k_27 : (.fieldLink R_X 19 "SlotTickets" "tickets" "LSlotTickets$Tickets;" : Cond) ∈ GB := mt1 204 rfl rfl
theorem k_28 : (.classLink R_X 23 R_XR : Cond) ∈ GB := mt1 86 rfl rfl
theorem k_29 : (.instantiable R_XR 6 : Cond) ∈ GB := mt1 87 rfl rfl
theorem k_30 : (.initialized R_XR : Cond) ∈ GB := mt1 4 rfl rfl
theorem k_31 : (.methodLink R_XR 3 objectInit : Cond) ∈ GB := mt1 91 rfl rfl
theorem k_32 : (.fieldLink R_XR 9 "SlotTickets$Requests" "slot" "[I" : Cond) ∈ GB := mt1 92 rfl rfl
theorem k_33 : (.fieldLink R_XR 15 "SlotTickets$Requests" "guests" "[I" : Cond) ∈ GB := mt1 93 rfl rfl
theorem k_34 : (.fieldLink R_XR 18 "SlotTickets$Requests" "kind" "[I" : Cond) ∈ GB := mt1 95 rfl rfl
theorem k_35 : (.fieldLink R_XR 21 "SlotTickets$Requests" "ticket" "[I" : Cond) ∈ GB := mt1 97 rfl rfl
theorem k_36 : (.code y_XR_init b_XR_init 1 none : Cond) ∈ GB := mt1 90 rfl rfl
theorem k_37 : (.instanceMethod y_XR_init : Cond) ∈ GB := mt1 89 rfl rfl
theorem k_38 : (.fieldLink R_X 26 "SlotTickets" "requests" "LSlotTickets$Requests;" : Cond) ∈ GB := mt1 205 rfl rfl
theorem k_39 : (.classLink R_X 30 R_XC : Cond) ∈ GB := mt1 116 rfl rfl
theorem k_40 : (.instantiable R_XC 1 : Cond) ∈ GB := mt1 117 rfl rfl
theorem k_41 : (.initialized R_XC : Cond) ∈ GB := mt1 5 rfl rfl
theorem k_42 : (.methodLink R_XC 3 objectInit : Cond) ∈ GB := mt1 121 rfl rfl
theorem k_43 : (.arrayClass .long : Cond) ∈ GB := mt1 126 rfl rfl
theorem k_44 : (.fieldLink R_XC 11 "SlotTickets$Chances" "ways" "[J" : Cond) ∈ GB := mt1 122 rfl rfl
theorem k_45 : (.code y_XC_init b_XC_init 1 none : Cond) ∈ GB := mt1 120 rfl rfl
theorem k_46 : (.instanceMethod y_XC_init : Cond) ∈ GB := mt1 119 rfl rfl
theorem k_47 : (.fieldLink R_X 33 "SlotTickets" "chances" "LSlotTickets$Chances;" : Cond) ∈ GB := mt1 206 rfl rfl
theorem k_48 : (.classLink R_X 37 R_XF : Cond) ∈ GB := mt1 127 rfl rfl
theorem k_49 : (.instantiable R_XF 12 : Cond) ∈ GB := mt1 128 rfl rfl
theorem k_50 : (.initialized R_XF : Cond) ∈ GB := mt1 6 rfl rfl
theorem k_51 : (.methodLink R_XF 3 objectInit : Cond) ∈ GB := mt1 132 rfl rfl
theorem k_52 : (.fieldLink R_XF 9 "SlotTickets$Tariff" "text" "[I" : Cond) ∈ GB := mt1 133 rfl rfl
theorem k_53 : (.fieldLink R_XF 15 "SlotTickets$Tariff" "prices" "[I" : Cond) ∈ GB := mt1 136 rfl rfl
theorem k_54 : (.fieldLink R_XF 18 "SlotTickets$Tariff" "percents" "[I" : Cond) ∈ GB := mt1 137 rfl rfl
theorem k_55 : (.fieldLink R_XF 21 "SlotTickets$Tariff" "newPrices" "[I" : Cond) ∈ GB := mt1 140 rfl rfl
theorem k_56 : (.fieldLink R_XF 24 "SlotTickets$Tariff" "newPercents" "[I" : Cond) ∈ GB := mt1 141 rfl rfl
theorem k_57 : (.code y_XF_init b_XF_init 1 none : Cond) ∈ GB := mt1 131 rfl rfl
theorem k_58 : (.instanceMethod y_XF_init : Cond) ∈ GB := mt1 130 rfl rfl
theorem k_59 : (.fieldLink R_X 40 "SlotTickets" "tariff" "LSlotTickets$Tariff;" : Cond) ∈ GB := mt1 207 rfl rfl
theorem k_60 : (.classLink R_X 44 R_XD : Cond) ∈ GB := mt1 172 rfl rfl
theorem k_61 : (.instantiable R_XD 6 : Cond) ∈ GB := mt1 173 rfl rfl
theorem k_62 : (.initialized R_XD : Cond) ∈ GB := mt1 7 rfl rfl
theorem k_63 : (.methodLink R_XD 3 objectInit : Cond) ∈ GB := mt1 177 rfl rfl
theorem k_64 : (.fieldLink R_XD 9 "SlotTickets$Doors" "seconds" "[I" : Cond) ∈ GB := mt1 181 rfl rfl
theorem k_65 : (.fieldLink R_XD 15 "SlotTickets$Doors" "order" "[I" : Cond) ∈ GB := mt1 183 rfl rfl
theorem k_66 : (.fieldLink R_XD 18 "SlotTickets$Doors" "firstIn" "[I" : Cond) ∈ GB := mt1 184 rfl rfl
theorem k_67 : (.fieldLink R_XD 21 "SlotTickets$Doors" "doubles" "[I" : Cond) ∈ GB := mt1 185 rfl rfl
theorem k_68 : (.fieldLink R_XD 24 "SlotTickets$Doors" "goneOut" "[I" : Cond) ∈ GB := mt1 189 rfl rfl
theorem k_69 : (.code y_JA_fill_aIIV b_JA_fill_aIIV 4 none : Cond) ∈ GB := mt1 180 rfl rfl
theorem k_70 : (.methodLink R_XD 27 y_JA_fill_aIIV : Cond) ∈ GB := mt1 178 rfl rfl
theorem k_71 : (.static y_JA_fill_aIIV : Cond) ∈ GB := mt1 179 rfl rfl
theorem k_72 : (.initialized R_JA : Cond) ∈ GB := mt1 8 rfl rfl
theorem k_73 : (.code y_XD_init b_XD_init 1 none : Cond) ∈ GB := mt1 176 rfl rfl
theorem k_74 : (.methodLink R_X 46 y_XD_init : Cond) ∈ GB := mt1 174 rfl rfl
theorem k_75 : (.instanceMethod y_XD_init : Cond) ∈ GB := mt1 175 rfl rfl
theorem k_76 : (.fieldLink R_X 47 "SlotTickets" "doors" "LSlotTickets$Doors;" : Cond) ∈ GB := mt1 208 rfl rfl
theorem k_77 : (.fieldLink R_XS 27 "SlotTickets$Slots" "made" "I" : Cond) ∈ GB := mt1 42 rfl rfl
theorem k_78 : (.code y_XS_open b_XS_open 3 (some .int) : Cond) ∈ GB := mt2 172 rfl rfl
theorem k_79 : (.methodLink R_X 67 y_XS_open : Cond) ∈ GB := mt2 169 rfl rfl
theorem k_80 : (.instanceMethod y_XS_open : Cond) ∈ GB := mt2 170 rfl rfl
theorem k_81 : (.selects R_XS y_XS_open y_XS_open : Cond) ∈ GB := mt2 171 rfl rfl
theorem k_82 : (.code y_X_needSlot b_X_needSlot 2 none : Cond) ∈ GB := mt2 184 rfl rfl
theorem k_83 : (.methodLink R_X 71 y_X_needSlot : Cond) ∈ GB := mt2 181 rfl rfl
theorem k_84 : (.instanceMethod y_X_needSlot : Cond) ∈ GB := mt2 183 rfl rfl
theorem k_85 : (.selects R_X y_X_needSlot y_X_needSlot : Cond) ∈ GB := mp 12 rfl rfl
theorem k_86 : (.initialized R_X : Cond) ∈ GB := mt1 1 rfl rfl
theorem k_87 : (.code y_X_needShare b_X_needShare 3 none : Cond) ∈ GB := mt2 203 rfl rfl
theorem k_88 : (.methodLink R_X 75 y_X_needShare : Cond) ∈ GB := mt2 201 rfl rfl
theorem k_89 : (.static y_X_needShare : Cond) ∈ GB := mt2 202 rfl rfl
theorem k_90 : (.code y_JA_fill_aJJV b_JA_fill_aJJV 5 none : Cond) ∈ GB := mt2 215 rfl rfl
theorem k_91 : (.methodLink R_XC 27 y_JA_fill_aJJV : Cond) ∈ GB := mt2 213 rfl rfl
theorem k_92 : (.static y_JA_fill_aJJV : Cond) ∈ GB := mt2 214 rfl rfl
theorem k_93 : (.constantLong R_XC 40 (1000000000 : Int64) : Cond) ∈ GB := mt2 224 rfl rfl
theorem k_94 : (.code y_XC_mix b_XC_mix 10 none : Cond) ∈ GB := mt2 223 rfl rfl
theorem k_95 : (.methodLink R_XC 37 y_XC_mix : Cond) ∈ GB := mt2 220 rfl rfl
theorem k_96 : (.instanceMethod y_XC_mix : Cond) ∈ GB := mt2 222 rfl rfl
theorem k_97 : (.selects R_XC y_XC_mix y_XC_mix : Cond) ∈ GB := mp 14 rfl rfl
theorem k_98 : (.code y_XC_inviteOne b_XC_inviteOne 5 none : Cond) ∈ GB := mt2 219 rfl rfl
theorem k_99 : (.methodLink R_XC 19 y_XC_inviteOne : Cond) ∈ GB := mt2 216 rfl rfl
theorem k_100 : (.instanceMethod y_XC_inviteOne : Cond) ∈ GB := mt2 218 rfl rfl
theorem k_101 : (.selects R_XC y_XC_inviteOne y_XC_inviteOne : Cond) ∈ GB := mp 13 rfl rfl
theorem k_102 : (.code y_XC_invite b_XC_invite 6 none : Cond) ∈ GB := mt2 212 rfl rfl
theorem k_103 : (.methodLink R_XC 15 y_XC_invite : Cond) ∈ GB := mt2 209 rfl rfl
theorem k_104 : (.instanceMethod y_XC_invite : Cond) ∈ GB := mt2 210 rfl rfl
theorem k_105 : (.selects R_XC y_XC_invite y_XC_invite : Cond) ∈ GB := mt2 211 rfl rfl
theorem k_106 : (.code y_JM_floorDiv b_JM_floorDiv 6 (some .long) : Cond) ∈ GB := mt2 231 rfl rfl
theorem k_107 : (.methodLink R_XC 42 y_JM_floorDiv : Cond) ∈ GB := mt2 229 rfl rfl
theorem k_108 : (.static y_JM_floorDiv : Cond) ∈ GB := mt2 230 rfl rfl
theorem k_109 : (.initialized R_JM : Cond) ∈ GB := mt1 16 rfl rfl
theorem k_110 : (.code y_JM_floorMod b_JM_floorMod 6 (some .long) : Cond) ∈ GB := mt2 234 rfl rfl
theorem k_111 : (.methodLink R_XC 48 y_JM_floorMod : Cond) ∈ GB := mt2 232 rfl rfl
theorem k_112 : (.static y_JM_floorMod : Cond) ∈ GB := mt2 233 rfl rfl
theorem k_113 : (.code y_XC_isAbove b_XC_isAbove 9 (some .boolean) : Cond) ∈ GB := mt2 228 rfl rfl
theorem k_114 : (.methodLink R_XC 23 y_XC_isAbove : Cond) ∈ GB := mt2 225 rfl rfl
theorem k_115 : (.instanceMethod y_XC_isAbove : Cond) ∈ GB := mt2 227 rfl rfl
theorem k_116 : (.selects R_XC y_XC_isAbove y_XC_isAbove : Cond) ∈ GB := mp 15 rfl rfl
theorem k_117 : (.code y_XC_greatestSafe b_XC_greatestSafe 8 (some .int) : Cond) ∈ GB := mt2 208 rfl rfl
theorem k_118 : (.methodLink R_X 92 y_XC_greatestSafe : Cond) ∈ GB := mt2 205 rfl rfl
theorem k_119 : (.instanceMethod y_XC_greatestSafe : Cond) ∈ GB := mt2 206 rfl rfl
theorem k_120 : (.selects R_XC y_XC_greatestSafe y_XC_greatestSafe : Cond) ∈ GB := mt2 207 rfl rfl
theorem k_121 : (.methodLink R_X 103 y_XC_invite : Cond) ∈ GB := mt3 11 rfl rfl
theorem k_122 : (.constantLong R_X 270 (10 : Int64) : Cond) ∈ GB := mt2 45 rfl rfl
theorem k_123 : (.code y_X_digitOf b_X_digitOf 6 (some .int) : Cond) ∈ GB := mt2 44 rfl rfl
theorem k_124 : (.static y_X_digitOf : Cond) ∈ GB := mt2 43 rfl rfl
theorem k_125 : (.code y_XC_digitOfTooMany b_XC_digitOfTooMany 2 (some .int) : Cond) ∈ GB := mt3 15 rfl rfl
theorem k_126 : (.methodLink R_X 107 y_XC_digitOfTooMany : Cond) ∈ GB := mt3 12 rfl rfl
theorem k_127 : (.instanceMethod y_XC_digitOfTooMany : Cond) ∈ GB := mt3 13 rfl rfl
theorem k_128 : (.selects R_XC y_XC_digitOfTooMany y_XC_digitOfTooMany : Cond) ∈ GB := mt3 14 rfl rfl
theorem k_129 : (.code y_X_needKind b_X_needKind 1 none : Cond) ∈ GB := mt3 26 rfl rfl
theorem k_130 : (.methodLink R_X 110 y_X_needKind : Cond) ∈ GB := mt3 24 rfl rfl
theorem k_131 : (.static y_X_needKind : Cond) ∈ GB := mt3 25 rfl rfl
theorem k_132 : (.code y_X_needGroup b_X_needGroup 1 none : Cond) ∈ GB := mt3 31 rfl rfl
theorem k_133 : (.methodLink R_X 116 y_X_needGroup : Cond) ∈ GB := mt3 29 rfl rfl
theorem k_134 : (.static y_X_needGroup : Cond) ∈ GB := mt3 30 rfl rfl
theorem k_135 : (.code y_XS_hasRoom b_XS_hasRoom 3 (some .boolean) : Cond) ∈ GB := mt3 36 rfl rfl
theorem k_136 : (.methodLink R_X 119 y_XS_hasRoom : Cond) ∈ GB := mt3 33 rfl rfl
theorem k_137 : (.instanceMethod y_XS_hasRoom : Cond) ∈ GB := mt3 34 rfl rfl
theorem k_138 : (.selects R_XS y_XS_hasRoom y_XS_hasRoom : Cond) ∈ GB := mt3 35 rfl rfl
theorem k_139 : (.fieldLink R_XT 25 "SlotTickets$Tickets" "made" "I" : Cond) ∈ GB := mt1 72 rfl rfl
theorem k_140 : (.code y_XT_add b_XT_add 5 (some .int) : Cond) ∈ GB := mt3 44 rfl rfl
theorem k_141 : (.methodLink R_X 247 y_XT_add : Cond) ∈ GB := mt3 41 rfl rfl
theorem k_142 : (.instanceMethod y_XT_add : Cond) ∈ GB := mt3 42 rfl rfl
theorem k_143 : (.selects R_XT y_XT_add y_XT_add : Cond) ∈ GB := mt3 43 rfl rfl
theorem k_144 : (.code y_X_issue b_X_issue 4 (some .int) : Cond) ∈ GB := mt3 40 rfl rfl
theorem k_145 : (.methodLink R_X 123 y_X_issue : Cond) ∈ GB := mt3 37 rfl rfl
theorem k_146 : (.instanceMethod y_X_issue : Cond) ∈ GB := mt3 39 rfl rfl
theorem k_147 : (.selects R_X y_X_issue y_X_issue : Cond) ∈ GB := mp 16 rfl rfl
theorem k_148 : (.code y_X_needTicket b_X_needTicket 2 none : Cond) ∈ GB := mt3 55 rfl rfl
theorem k_149 : (.methodLink R_X 127 y_X_needTicket : Cond) ∈ GB := mt3 52 rfl rfl
theorem k_150 : (.instanceMethod y_X_needTicket : Cond) ∈ GB := mt3 54 rfl rfl
theorem k_151 : (.selects R_X y_X_needTicket y_X_needTicket : Cond) ∈ GB := mp 17 rfl rfl
theorem k_152 : (.code y_XD_hasLetIn b_XD_hasLetIn 3 (some .boolean) : Cond) ∈ GB := mt2 71 rfl rfl
theorem k_153 : (.methodLink R_XD 33 y_XD_hasLetIn : Cond) ∈ GB := mt2 68 rfl rfl
theorem k_154 : (.instanceMethod y_XD_hasLetIn : Cond) ∈ GB := mt2 69 rfl rfl
theorem k_155 : (.selects R_XD y_XD_hasLetIn y_XD_hasLetIn : Cond) ∈ GB := mt2 70 rfl rfl
theorem k_156 : (.code y_XD_anyLetIn b_XD_anyLetIn 3 (some .boolean) : Cond) ∈ GB := mt3 60 rfl rfl
theorem k_157 : (.methodLink R_X 134 y_XD_anyLetIn : Cond) ∈ GB := mt3 57 rfl rfl
theorem k_158 : (.instanceMethod y_XD_anyLetIn : Cond) ∈ GB := mt3 58 rfl rfl
theorem k_159 : (.selects R_XD y_XD_anyLetIn y_XD_anyLetIn : Cond) ∈ GB := mt3 59 rfl rfl
theorem k_160 : (.code y_XR_waitsFor b_XR_waitsFor 3 (some .boolean) : Cond) ∈ GB := mt3 68 rfl rfl
theorem k_161 : (.methodLink R_X 248 y_XR_waitsFor : Cond) ∈ GB := mt3 65 rfl rfl
theorem k_162 : (.instanceMethod y_XR_waitsFor : Cond) ∈ GB := mt3 66 rfl rfl
theorem k_163 : (.selects R_XR y_XR_waitsFor y_XR_waitsFor : Cond) ∈ GB := mt3 67 rfl rfl
theorem k_164 : (.fieldLink R_XR 28 "SlotTickets$Requests" "served" "I" : Cond) ∈ GB := mt1 101 rfl rfl
theorem k_165 : (.code y_XR_settle b_XR_settle 3 none : Cond) ∈ GB := mt3 72 rfl rfl
theorem k_166 : (.methodLink R_X 253 y_XR_settle : Cond) ∈ GB := mt3 69 rfl rfl
theorem k_167 : (.instanceMethod y_XR_settle : Cond) ∈ GB := mt3 70 rfl rfl
theorem k_168 : (.selects R_XR y_XR_settle y_XR_settle : Cond) ∈ GB := mt3 71 rfl rfl
theorem k_169 : (.code y_X_serveWaiting b_X_serveWaiting 4 (some .int) : Cond) ∈ GB := mt3 64 rfl rfl
theorem k_170 : (.methodLink R_X 147 y_X_serveWaiting : Cond) ∈ GB := mt3 61 rfl rfl
theorem k_171 : (.instanceMethod y_X_serveWaiting : Cond) ∈ GB := mt3 63 rfl rfl
theorem k_172 : (.selects R_X y_X_serveWaiting y_X_serveWaiting : Cond) ∈ GB := mp 18 rfl rfl
theorem k_173 : (.fieldLink R_XR 24 "SlotTickets$Requests" "made" "I" : Cond) ∈ GB := mt1 99 rfl rfl
theorem k_174 : (.code y_XR_add b_XR_add 5 (some .int) : Cond) ∈ GB := mt3 84 rfl rfl
theorem k_175 : (.methodLink R_X 153 y_XR_add : Cond) ∈ GB := mt3 81 rfl rfl
theorem k_176 : (.instanceMethod y_XR_add : Cond) ∈ GB := mt3 82 rfl rfl
theorem k_177 : (.selects R_XR y_XR_add y_XR_add : Cond) ∈ GB := mt3 83 rfl rfl
theorem k_178 : (.fieldLink R_XF 27 "SlotTickets$Tariff" "length" "I" : Cond) ∈ GB := mt1 134 rfl rfl
theorem k_179 : (.code y_XF_collect b_XF_collect 2 (some .int) : Cond) ∈ GB := mt3 105 rfl rfl
theorem k_180 : (.methodLink R_X 168 y_XF_collect : Cond) ∈ GB := mt3 102 rfl rfl
theorem k_181 : (.instanceMethod y_XF_collect : Cond) ∈ GB := mt3 103 rfl rfl
theorem k_182 : (.selects R_XF y_XF_collect y_XF_collect : Cond) ∈ GB := mt3 104 rfl rfl
theorem k_183 : (.methodLink R_XF 47 y_JA_fill_aIIV : Cond) ∈ GB := mt1 234 rfl rfl
theorem k_184 : (.fieldLink R_XF 41 "SlotTickets$Tariff" "newClauses" "I" : Cond) ∈ GB := mt1 142 rfl rfl
theorem k_185 : (.fieldLink R_XF 53 "SlotTickets$Tariff" "state" "I" : Cond) ∈ GB := mt1 143 rfl rfl
theorem k_186 : (.fieldLink R_XF 90 "SlotTickets$Tariff" "digits" "I" : Cond) ∈ GB := mt1 146 rfl rfl
theorem k_187 : (.fieldLink R_XF 84 "SlotTickets$Tariff" "subject" "I" : Cond) ∈ GB := mt1 144 rfl rfl
theorem k_188 : (.fieldLink R_XF 87 "SlotTickets$Tariff" "number" "I" : Cond) ∈ GB := mt1 145 rfl rfl
theorem k_189 : (.methodLink R_XF 93 Lib.Math.max.name : Cond) ∈ GB := mt2 15 rfl rfl
theorem k_190 : (.static Lib.Math.max.name : Cond) ∈ GB := mt2 16 rfl rfl
theorem k_191 : (.initialized "java/lang/Math" : Cond) ∈ GB := mt1 16 rfl rfl
theorem k_192 : (.code Lib.Math.max.name Lib.Math.max.code 2 (some .int) : Cond) ∈ GB := mt2 17 rfl rfl
theorem k_193 : (.code y_XF_endsClause b_XF_endsClause 2 (some .boolean) : Cond) ∈ GB := mt2 14 rfl rfl
theorem k_194 : (.methodLink R_XF 60 y_XF_endsClause : Cond) ∈ GB := mt2 11 rfl rfl
theorem k_195 : (.instanceMethod y_XF_endsClause : Cond) ∈ GB := mt2 13 rfl rfl
theorem k_196 : (.selects R_XF y_XF_endsClause y_XF_endsClause : Cond) ∈ GB := mp 5 rfl rfl
theorem k_197 : (.code y_XF_takesDigit b_XF_takesDigit 3 (some .boolean) : Cond) ∈ GB := mt2 22 rfl rfl
theorem k_198 : (.methodLink R_XF 74 y_XF_takesDigit : Cond) ∈ GB := mt2 19 rfl rfl
theorem k_199 : (.instanceMethod y_XF_takesDigit : Cond) ∈ GB := mt2 21 rfl rfl
theorem k_200 : (.selects R_XF y_XF_takesDigit y_XF_takesDigit : Cond) ∈ GB := mp 6 rfl rfl
theorem k_201 : (.code y_XF_beginsNext b_XF_beginsNext 1 (some .boolean) : Cond) ∈ GB := mt2 10 rfl rfl
theorem k_202 : (.methodLink R_XF 70 y_XF_beginsNext : Cond) ∈ GB := mt2 7 rfl rfl
theorem k_203 : (.instanceMethod y_XF_beginsNext : Cond) ∈ GB := mt2 9 rfl rfl
theorem k_204 : (.selects R_XF y_XF_beginsNext y_XF_beginsNext : Cond) ∈ GB := mp 4 rfl rfl
theorem k_205 : (.code y_XF_beginsNumber b_XF_beginsNumber 2 (some .boolean) : Cond) ∈ GB := mt2 6 rfl rfl
theorem k_206 : (.methodLink R_XF 67 y_XF_beginsNumber : Cond) ∈ GB := mt2 3 rfl rfl
theorem k_207 : (.instanceMethod y_XF_beginsNumber : Cond) ∈ GB := mt2 5 rfl rfl
theorem k_208 : (.selects R_XF y_XF_beginsNumber y_XF_beginsNumber : Cond) ∈ GB := mp 3 rfl rfl
theorem k_209 : (.code y_XF_beginsClause b_XF_beginsClause 2 (some .boolean) : Cond) ∈ GB := mt2 2 rfl rfl
theorem k_210 : (.methodLink R_XF 64 y_XF_beginsClause : Cond) ∈ GB := mt1 239 rfl rfl
theorem k_211 : (.instanceMethod y_XF_beginsClause : Cond) ∈ GB := mt2 1 rfl rfl
theorem k_212 : (.selects R_XF y_XF_beginsClause y_XF_beginsClause : Cond) ∈ GB := mp 2 rfl rfl
theorem k_213 : (.constant R_XF 73 (99999 : Int32) : Cond) ∈ GB := mt2 18 rfl rfl
theorem k_214 : (.code y_XF_takesGroupDigit b_XF_takesGroupDigit 2 (some .boolean) : Cond) ∈ GB := mt2 30 rfl rfl
theorem k_215 : (.methodLink R_XF 81 y_XF_takesGroupDigit : Cond) ∈ GB := mt2 27 rfl rfl
theorem k_216 : (.instanceMethod y_XF_takesGroupDigit : Cond) ∈ GB := mt2 29 rfl rfl
theorem k_217 : (.selects R_XF y_XF_takesGroupDigit y_XF_takesGroupDigit : Cond) ∈ GB := mp 8 rfl rfl
theorem k_218 : (.code y_XF_endsGroup b_XF_endsGroup 1 (some .boolean) : Cond) ∈ GB := mt2 26 rfl rfl
theorem k_219 : (.methodLink R_XF 78 y_XF_endsGroup : Cond) ∈ GB := mt2 23 rfl rfl
theorem k_220 : (.instanceMethod y_XF_endsGroup : Cond) ∈ GB := mt2 25 rfl rfl
theorem k_221 : (.selects R_XF y_XF_endsGroup y_XF_endsGroup : Cond) ∈ GB := mp 7 rfl rfl
theorem k_222 : (.code y_XF_takes b_XF_takes 2 (some .boolean) : Cond) ∈ GB := mt1 238 rfl rfl
theorem k_223 : (.methodLink R_XF 56 y_XF_takes : Cond) ∈ GB := mt1 235 rfl rfl
theorem k_224 : (.instanceMethod y_XF_takes : Cond) ∈ GB := mt1 237 rfl rfl
theorem k_225 : (.selects R_XF y_XF_takes y_XF_takes : Cond) ∈ GB := mp 1 rfl rfl
theorem k_226 : (.code y_XF_firstWrong b_XF_firstWrong 3 (some .int) : Cond) ∈ GB := mt1 233 rfl rfl
theorem k_227 : (.methodLink R_XF 31 y_XF_firstWrong : Cond) ∈ GB := mt1 230 rfl rfl
theorem k_228 : (.instanceMethod y_XF_firstWrong : Cond) ∈ GB := mt1 232 rfl rfl
theorem k_229 : (.selects R_XF y_XF_firstWrong y_XF_firstWrong : Cond) ∈ GB := mp 0 rfl rfl
theorem k_230 : (.methodLink R_XF 35 arraycopyName : Cond) ∈ GB := mt2 31 rfl rfl
theorem k_231 : (.native arraycopyName : Cond) ∈ GB := mt2 33 rfl rfl
theorem k_232 : (.static arraycopyName : Cond) ∈ GB := mt2 32 rfl rfl
theorem k_233 : (.initialized "java/lang/System" : Cond) ∈ GB := mt1 17 rfl rfl
theorem k_234 : (.fieldLink R_XF 44 "SlotTickets$Tariff" "clauses" "I" : Cond) ∈ GB := mt1 138 rfl rfl
theorem k_235 : (.code y_XF_adopt b_XF_adopt 3 (some .int) : Cond) ∈ GB := mt1 229 rfl rfl
theorem k_236 : (.methodLink R_X 171 y_XF_adopt : Cond) ∈ GB := mt1 226 rfl rfl
theorem k_237 : (.instanceMethod y_XF_adopt : Cond) ∈ GB := mt1 227 rfl rfl
theorem k_238 : (.selects R_XF y_XF_adopt y_XF_adopt : Cond) ∈ GB := mt1 228 rfl rfl
theorem k_239 : (.code y_XF_cost b_XF_cost 4 (some .int) : Cond) ∈ GB := mt3 116 rfl rfl
theorem k_240 : (.methodLink R_X 178 y_XF_cost : Cond) ∈ GB := mt3 113 rfl rfl
theorem k_241 : (.instanceMethod y_XF_cost : Cond) ∈ GB := mt3 114 rfl rfl
theorem k_242 : (.selects R_XF y_XF_cost y_XF_cost : Cond) ∈ GB := mt3 115 rfl rfl
theorem k_243 : (.constant R_XT 29 (100000 : Int32) : Cond) ∈ GB := mt2 54 rfl rfl
theorem k_244 : (.methodLink R_X 189 y_X_digitOf : Cond) ∈ GB := mt2 42 rfl rfl
theorem k_245 : (.code y_X_checkOf b_X_checkOf 2 (some .int) : Cond) ∈ GB := mt2 41 rfl rfl
theorem k_246 : (.static y_X_checkOf : Cond) ∈ GB := mt2 40 rfl rfl
theorem k_247 : (.code y_XT_codeOf b_XT_codeOf 3 (some .int) : Cond) ∈ GB := mt2 53 rfl rfl
theorem k_248 : (.methodLink R_X 186 y_XT_codeOf : Cond) ∈ GB := mt3 133 rfl rfl
theorem k_249 : (.instanceMethod y_XT_codeOf : Cond) ∈ GB := mt2 51 rfl rfl
theorem k_250 : (.selects R_XT y_XT_codeOf y_XT_codeOf : Cond) ∈ GB := mt2 52 rfl rfl
theorem k_251 : (.constant R_X 193 (999999 : Int32) : Cond) ∈ GB := mt2 38 rfl rfl
theorem k_252 : (.methodLink R_X 194 y_X_checkOf : Cond) ∈ GB := mt2 39 rfl rfl
theorem k_253 : (.methodLink R_XT 34 y_XT_codeOf : Cond) ∈ GB := mt2 50 rfl rfl
theorem k_254 : (.code y_XT_find b_XT_find 3 (some .int) : Cond) ∈ GB := mt2 49 rfl rfl
theorem k_255 : (.methodLink R_X 197 y_XT_find : Cond) ∈ GB := mt2 46 rfl rfl
theorem k_256 : (.instanceMethod y_XT_find : Cond) ∈ GB := mt2 47 rfl rfl
theorem k_257 : (.selects R_XT y_XT_find y_XT_find : Cond) ∈ GB := mt2 48 rfl rfl
theorem k_258 : (.constant R_X 265 (100000 : Int32) : Cond) ∈ GB := mt3 145 rfl rfl
theorem k_259 : (.code y_X_needSecond b_X_needSecond 1 none : Cond) ∈ GB := mt3 144 rfl rfl
theorem k_260 : (.methodLink R_X 202 y_X_needSecond : Cond) ∈ GB := mt3 142 rfl rfl
theorem k_261 : (.static y_X_needSecond : Cond) ∈ GB := mt3 143 rfl rfl
theorem k_262 : (.methodLink R_X 205 y_XD_hasLetIn : Cond) ∈ GB := mt3 147 rfl rfl
theorem k_263 : (.code y_XD_letIn b_XD_letIn 4 none : Cond) ∈ GB := mt3 151 rfl rfl
theorem k_264 : (.methodLink R_X 208 y_XD_letIn : Cond) ∈ GB := mt3 148 rfl rfl
theorem k_265 : (.instanceMethod y_XD_letIn : Cond) ∈ GB := mt3 149 rfl rfl
theorem k_266 : (.selects R_XD y_XD_letIn y_XD_letIn : Cond) ∈ GB := mt3 150 rfl rfl
theorem k_267 : (.fieldLink R_XD 37 "SlotTickets$Doors" "found" "I" : Cond) ∈ GB := mt1 187 rfl rfl
theorem k_268 : (.code y_XD_insertEntry b_XD_insertEntry 4 none : Cond) ∈ GB := mt2 75 rfl rfl
theorem k_269 : (.methodLink R_XD 45 y_XD_insertEntry : Cond) ∈ GB := mt2 72 rfl rfl
theorem k_270 : (.instanceMethod y_XD_insertEntry : Cond) ∈ GB := mt2 74 rfl rfl
theorem k_271 : (.selects R_XD y_XD_insertEntry y_XD_insertEntry : Cond) ∈ GB := mp 10 rfl rfl
theorem k_272 : (.code y_XD_sortEntries b_XD_sortEntries 4 (some .int) : Cond) ∈ GB := mt2 67 rfl rfl
theorem k_273 : (.methodLink R_XD 41 y_XD_sortEntries : Cond) ∈ GB := mt2 64 rfl rfl
theorem k_274 : (.instanceMethod y_XD_sortEntries : Cond) ∈ GB := mt2 66 rfl rfl
theorem k_275 : (.selects R_XD y_XD_sortEntries y_XD_sortEntries : Cond) ∈ GB := mp 9 rfl rfl
theorem k_276 : (.code y_XD_joinAll b_XD_joinAll 4 (some .int) : Cond) ∈ GB := mt2 63 rfl rfl
theorem k_277 : (.methodLink R_X 211 y_XD_joinAll : Cond) ∈ GB := mt2 60 rfl rfl
theorem k_278 : (.instanceMethod y_XD_joinAll : Cond) ∈ GB := mt2 61 rfl rfl
theorem k_279 : (.selects R_XD y_XD_joinAll y_XD_joinAll : Cond) ∈ GB := mt2 62 rfl rfl
theorem k_280 : (.code y_XD_ticketOf b_XD_ticketOf 1 (some .int) : Cond) ∈ GB := mt3 162 rfl rfl
theorem k_281 : (.methodLink R_X 222 y_XD_ticketOf : Cond) ∈ GB := mt3 160 rfl rfl
theorem k_282 : (.static y_XD_ticketOf : Cond) ∈ GB := mt3 161 rfl rfl
theorem k_283 : (.code y_XD_readerOf b_XD_readerOf 1 (some .int) : Cond) ∈ GB := mt3 165 rfl rfl
theorem k_284 : (.methodLink R_X 225 y_XD_readerOf : Cond) ∈ GB := mt3 163 rfl rfl
theorem k_285 : (.static y_XD_readerOf : Cond) ∈ GB := mt3 164 rfl rfl
theorem k_286 : (.code y_XD_isIn b_XD_isIn 3 (some .boolean) : Cond) ∈ GB := mt3 181 rfl rfl
theorem k_287 : (.methodLink R_XD 49 y_XD_isIn : Cond) ∈ GB := mt3 178 rfl rfl
theorem k_288 : (.instanceMethod y_XD_isIn : Cond) ∈ GB := mt3 180 rfl rfl
theorem k_289 : (.selects R_XD y_XD_isIn y_XD_isIn : Cond) ∈ GB := mp 19 rfl rfl
theorem k_290 : (.code y_XD_letOut b_XD_letOut 3 (some .boolean) : Cond) ∈ GB := mt3 177 rfl rfl
theorem k_291 : (.methodLink R_X 233 y_XD_letOut : Cond) ∈ GB := mt3 174 rfl rfl
theorem k_292 : (.instanceMethod y_XD_letOut : Cond) ∈ GB := mt3 175 rfl rfl
theorem k_293 : (.selects R_XD y_XD_letOut y_XD_letOut : Cond) ∈ GB := mt3 176 rfl rfl
theorem k_294 : (.code y_XD_holds b_XD_holds 3 (some .boolean) : Cond) ∈ GB := mt3 192 rfl rfl
theorem k_295 : (.methodLink R_X 236 y_XD_holds : Cond) ∈ GB := mt3 189 rfl rfl
theorem k_296 : (.instanceMethod y_XD_holds : Cond) ∈ GB := mt3 190 rfl rfl
theorem k_297 : (.selects R_XD y_XD_holds y_XD_holds : Cond) ∈ GB := mt3 191 rfl rfl
theorem k_298 : (.methodLink R_M 1 objectInit : Cond) ∈ GB := mt3 206 rfl rfl
theorem k_299 : (.fieldLink R_M 7 "SlotTicketsModel" "places" "[I" : Cond) ∈ GB := mt3 209 rfl rfl
theorem k_300 : (.fieldLink R_M 13 "SlotTicketsModel" "aboves" "[I" : Cond) ∈ GB := mt3 210 rfl rfl
theorem k_301 : (.fieldLink R_M 16 "SlotTicketsModel" "belows" "[I" : Cond) ∈ GB := mt3 211 rfl rfl
theorem k_302 : (.fieldLink R_M 19 "SlotTicketsModel" "riskAboves" "[I" : Cond) ∈ GB := mt3 212 rfl rfl
theorem k_303 : (.fieldLink R_M 22 "SlotTicketsModel" "riskBelows" "[I" : Cond) ∈ GB := mt3 213 rfl rfl
theorem k_304 : (.fieldLink R_M 25 "SlotTicketsModel" "slotOf" "[I" : Cond) ∈ GB := mt3 215 rfl rfl
theorem k_305 : (.fieldLink R_M 28 "SlotTicketsModel" "guests" "[I" : Cond) ∈ GB := mt3 216 rfl rfl
theorem k_306 : (.fieldLink R_M 31 "SlotTicketsModel" "kinds" "[I" : Cond) ∈ GB := mt3 217 rfl rfl
theorem k_307 : (.fieldLink R_M 34 "SlotTicketsModel" "returned" "[Z" : Cond) ∈ GB := mt3 218 rfl rfl
theorem k_308 : (.fieldLink R_M 38 "SlotTicketsModel" "outs" "[I" : Cond) ∈ GB := mt3 219 rfl rfl
theorem k_309 : (.fieldLink R_M 41 "SlotTicketsModel" "requestSlots" "[I" : Cond) ∈ GB := mt3 221 rfl rfl
theorem k_310 : (.fieldLink R_M 44 "SlotTicketsModel" "requestGuests" "[I" : Cond) ∈ GB := mt3 222 rfl rfl
theorem k_311 : (.fieldLink R_M 47 "SlotTicketsModel" "requestKinds" "[I" : Cond) ∈ GB := mt3 223 rfl rfl
theorem k_312 : (.fieldLink R_M 50 "SlotTicketsModel" "givens" "[I" : Cond) ∈ GB := mt3 224 rfl rfl
theorem k_313 : (.fieldLink R_M 53 "SlotTicketsModel" "text" "[I" : Cond) ∈ GB := mt3 226 rfl rfl
theorem k_314 : (.fieldLink R_M 56 "SlotTicketsModel" "sorts" "[I" : Cond) ∈ GB := mt3 228 rfl rfl
theorem k_315 : (.fieldLink R_M 59 "SlotTicketsModel" "ones" "[I" : Cond) ∈ GB := mt3 229 rfl rfl
theorem k_316 : (.fieldLink R_M 62 "SlotTicketsModel" "twos" "[I" : Cond) ∈ GB := mt3 230 rfl rfl
theorem k_317 : (.fieldLink R_M 65 "SlotTicketsModel" "readSorts" "[I" : Cond) ∈ GB := mt3 232 rfl rfl
theorem k_318 : (.fieldLink R_M 68 "SlotTicketsModel" "readOnes" "[I" : Cond) ∈ GB := mt3 233 rfl rfl
theorem k_319 : (.fieldLink R_M 71 "SlotTicketsModel" "readTwos" "[I" : Cond) ∈ GB := mt3 234 rfl rfl
theorem k_320 : (.fieldLink R_M 74 "SlotTicketsModel" "seconds" "[I" : Cond) ∈ GB := mt3 235 rfl rfl
theorem k_321 : (.fieldLink R_M 77 "SlotTicketsModel" "firsts" "[I" : Cond) ∈ GB := mt3 236 rfl rfl
theorem k_322 : (.fieldLink R_M 80 "SlotTicketsModel" "doubleTickets" "[I" : Cond) ∈ GB := mt3 238 rfl rfl
theorem k_323 : (.fieldLink R_M 83 "SlotTicketsModel" "doubleReaders" "[I" : Cond) ∈ GB := mt3 239 rfl rfl
theorem k_324 : (.fieldLink R_M 86 "SlotTicketsModel" "doubleSeconds" "[I" : Cond) ∈ GB := mt4 0 rfl rfl
theorem k_325 : (.fieldLink R_M 89 "SlotTicketsModel" "digits" "[I" : Cond) ∈ GB := mt4 1 rfl rfl
theorem k_326 : (.fieldLink R_M 92 "SlotTicketsModel" "thrown" "I" : Cond) ∈ GB := mt3 207 rfl rfl
theorem k_327 : (.fieldLink R_M 96 "SlotTicketsModel" "slots" "I" : Cond) ∈ GB := mt3 208 rfl rfl
theorem k_328 : (.code y_M_within b_M_within 3 (some .boolean) : Cond) ∈ GB := mt4 83 rfl rfl
theorem k_329 : (.methodLink R_M 99 y_M_within : Cond) ∈ GB := mt4 81 rfl rfl
theorem k_330 : (.static y_M_within : Cond) ∈ GB := mt4 82 rfl rfl
theorem k_331 : (.initialized R_M : Cond) ∈ GB := mt1 9 rfl rfl
theorem k_332 : (.fieldLink R_M 103 "SlotTicketsModel" "tickets" "I" : Cond) ∈ GB := mt3 214 rfl rfl
theorem k_333 : (.code y_M_goes b_M_goes 4 (some .boolean) : Cond) ∈ GB := mt4 87 rfl rfl
theorem k_334 : (.methodLink R_M 106 y_M_goes : Cond) ∈ GB := mt4 84 rfl rfl
theorem k_335 : (.instanceMethod y_M_goes : Cond) ∈ GB := mt4 86 rfl rfl
theorem k_336 : (.selects R_M y_M_goes y_M_goes : Cond) ∈ GB := mp 20 rfl rfl
theorem k_337 : (.code y_M_isSlot b_M_isSlot 2 (some .boolean) : Cond) ∈ GB := mt4 95 rfl rfl
theorem k_338 : (.methodLink R_M 110 y_M_isSlot : Cond) ∈ GB := mt4 92 rfl rfl
theorem k_339 : (.instanceMethod y_M_isSlot : Cond) ∈ GB := mt4 94 rfl rfl
theorem k_340 : (.selects R_M y_M_isSlot y_M_isSlot : Cond) ∈ GB := mp 21 rfl rfl
theorem k_341 : (.code y_M_blank b_M_blank 2 none : Cond) ∈ GB := mt4 107 rfl rfl
theorem k_342 : (.methodLink R_M 114 y_M_blank : Cond) ∈ GB := mt4 104 rfl rfl
theorem k_343 : (.instanceMethod y_M_blank : Cond) ∈ GB := mt4 106 rfl rfl
theorem k_344 : (.selects R_M y_M_blank y_M_blank : Cond) ∈ GB := mp 23 rfl rfl
theorem k_345 : (.code y_M_guest b_M_guest 8 none : Cond) ∈ GB := mt4 111 rfl rfl
theorem k_346 : (.methodLink R_M 117 y_M_guest : Cond) ∈ GB := mt4 108 rfl rfl
theorem k_347 : (.instanceMethod y_M_guest : Cond) ∈ GB := mt4 110 rfl rfl
theorem k_348 : (.selects R_M y_M_guest y_M_guest : Cond) ∈ GB := mp 24 rfl rfl
theorem k_349 : (.code y_M_isTooMuch b_M_isTooMuch 8 (some .boolean) : Cond) ∈ GB := mt4 115 rfl rfl
theorem k_350 : (.methodLink R_M 121 y_M_isTooMuch : Cond) ∈ GB := mt4 112 rfl rfl
theorem k_351 : (.instanceMethod y_M_isTooMuch : Cond) ∈ GB := mt4 114 rfl rfl
theorem k_352 : (.selects R_M y_M_isTooMuch y_M_isTooMuch : Cond) ∈ GB := mp 25 rfl rfl
theorem k_353 : (.code y_M_mostOf b_M_mostOf 5 (some .int) : Cond) ∈ GB := mt4 103 rfl rfl
theorem k_354 : (.methodLink R_M 124 y_M_mostOf : Cond) ∈ GB := mt4 100 rfl rfl
theorem k_355 : (.instanceMethod y_M_mostOf : Cond) ∈ GB := mt4 102 rfl rfl
theorem k_356 : (.selects R_M y_M_mostOf y_M_mostOf : Cond) ∈ GB := mp 22 rfl rfl
theorem k_357 : (.code y_M_sum b_M_sum 6 none : Cond) ∈ GB := mt4 123 rfl rfl
theorem k_358 : (.methodLink R_M 128 y_M_sum : Cond) ∈ GB := mt4 120 rfl rfl
theorem k_359 : (.instanceMethod y_M_sum : Cond) ∈ GB := mt4 122 rfl rfl
theorem k_360 : (.selects R_M y_M_sum y_M_sum : Cond) ∈ GB := mp 26 rfl rfl
theorem k_361 : (.code y_M_sold b_M_sold 4 (some .int) : Cond) ∈ GB := mt4 131 rfl rfl
theorem k_362 : (.methodLink R_M 131 y_M_sold : Cond) ∈ GB := mt4 128 rfl rfl
theorem k_363 : (.instanceMethod y_M_sold : Cond) ∈ GB := mt4 130 rfl rfl
theorem k_364 : (.selects R_M y_M_sold y_M_sold : Cond) ∈ GB := mp 27 rfl rfl
theorem k_365 : (.code y_M_give b_M_give 4 (some .int) : Cond) ∈ GB := mt4 135 rfl rfl
theorem k_366 : (.methodLink R_M 134 y_M_give : Cond) ∈ GB := mt4 132 rfl rfl
theorem k_367 : (.instanceMethod y_M_give : Cond) ∈ GB := mt4 134 rfl rfl
theorem k_368 : (.selects R_M y_M_give y_M_give : Cond) ∈ GB := mp 28 rfl rfl
theorem k_369 : (.code y_M_isTicket b_M_isTicket 2 (some .boolean) : Cond) ∈ GB := mt4 143 rfl rfl
theorem k_370 : (.methodLink R_M 138 y_M_isTicket : Cond) ∈ GB := mt4 140 rfl rfl
theorem k_371 : (.instanceMethod y_M_isTicket : Cond) ∈ GB := mt4 142 rfl rfl
theorem k_372 : (.selects R_M y_M_isTicket y_M_isTicket : Cond) ∈ GB := mp 29 rfl rfl
theorem k_373 : (.code y_M_isIn b_M_isIn 4 (some .boolean) : Cond) ∈ GB := mt4 147 rfl rfl
theorem k_374 : (.methodLink R_M 141 y_M_isIn : Cond) ∈ GB := mt4 144 rfl rfl
theorem k_375 : (.instanceMethod y_M_isIn : Cond) ∈ GB := mt4 146 rfl rfl
theorem k_376 : (.selects R_M y_M_isIn y_M_isIn : Cond) ∈ GB := mp 30 rfl rfl
theorem k_377 : (.fieldLink R_M 144 "SlotTicketsModel" "requests" "I" : Cond) ∈ GB := mt3 220 rfl rfl
theorem k_378 : (.fieldLink R_M 147 "SlotTicketsModel" "length" "I" : Cond) ∈ GB := mt3 225 rfl rfl
theorem k_379 : (.fieldLink R_M 150 "SlotTicketsModel" "found" "I" : Cond) ∈ GB := mt3 231 rfl rfl
theorem k_380 : (.code y_M_fault b_M_fault 8 (some .int) : Cond) ∈ GB := mt4 167 rfl rfl
theorem k_381 : (.methodLink R_M 153 y_M_fault : Cond) ∈ GB := mt4 164 rfl rfl
theorem k_382 : (.instanceMethod y_M_fault : Cond) ∈ GB := mt4 166 rfl rfl
theorem k_383 : (.selects R_M y_M_fault y_M_fault : Cond) ∈ GB := mp 31 rfl rfl
theorem k_384 : (.fieldLink R_M 157 "SlotTicketsModel" "clauses" "I" : Cond) ∈ GB := mt3 227 rfl rfl
theorem k_385 : (.constant R_M 160 (100000 : Int32) : Cond) ∈ GB := mt4 184 rfl rfl
theorem k_386 : (.code y_M_codeOf b_M_codeOf 4 (some .int) : Cond) ∈ GB := mt4 183 rfl rfl
theorem k_387 : (.methodLink R_M 161 y_M_codeOf : Cond) ∈ GB := mt4 180 rfl rfl
theorem k_388 : (.instanceMethod y_M_codeOf : Cond) ∈ GB := mt4 182 rfl rfl
theorem k_389 : (.selects R_M y_M_codeOf y_M_codeOf : Cond) ∈ GB := mp 32 rfl rfl
theorem k_390 : (.code y_M_isSecond b_M_isSecond 1 (some .boolean) : Cond) ∈ GB := mt4 195 rfl rfl
theorem k_391 : (.methodLink R_M 164 y_M_isSecond : Cond) ∈ GB := mt4 193 rfl rfl
theorem k_392 : (.static y_M_isSecond : Cond) ∈ GB := mt4 194 rfl rfl
theorem k_393 : (.fieldLink R_M 167 "SlotTicketsModel" "doubles" "I" : Cond) ∈ GB := mt3 237 rfl rfl
theorem k_394 : (.code y_M_next b_M_next 8 (some .int) : Cond) ∈ GB := mt4 203 rfl rfl
theorem k_395 : (.methodLink R_M 170 y_M_next : Cond) ∈ GB := mt4 200 rfl rfl
theorem k_396 : (.instanceMethod y_M_next : Cond) ∈ GB := mt4 202 rfl rfl
theorem k_397 : (.selects R_M y_M_next y_M_next : Cond) ∈ GB := mp 33 rfl rfl
