abbrev b_L_law : ByteArray := code
theorem k_478 : (.classLink R_L 8 R_X : Cond) ∈ GB := mt1 18 rfl rfl
theorem k_479 : (.instantiable R_X 6 : Cond) ∈ GB := mt1 19 rfl rfl
theorem k_480 : (.code y_X_init b_X_init 1 none : Cond) ∈ GB := mt1 22 rfl rfl
theorem k_481 : (.methodLink R_L 71 y_X_init : Cond) ∈ GB := mt1 20 rfl rfl
theorem k_482 : (.instanceMethod y_X_init : Cond) ∈ GB := mt1 21 rfl rfl
theorem k_483 : (.classLink R_L 72 R_M : Cond) ∈ GB := mt3 201 rfl rfl
theorem k_484 : (.instantiable R_M 35 : Cond) ∈ GB := mt3 202 rfl rfl
theorem k_485 : (.code y_M_init b_M_init 2 none : Cond) ∈ GB := mt3 205 rfl rfl
theorem k_486 : (.methodLink R_L 74 y_M_init : Cond) ∈ GB := mt3 203 rfl rfl
theorem k_487 : (.instanceMethod y_M_init : Cond) ∈ GB := mt3 204 rfl rfl
theorem k_488 : (.codeWith y_L_slot b_L_slot 4 (some .int) [(0, 9, 12, 13), (0, 9, 15, 15)] : Cond) ∈ GB := mt2 78 rfl rfl
theorem k_489 : (.methodLink R_L 75 y_L_slot : Cond) ∈ GB := mt2 76 rfl rfl
theorem k_490 : (.static y_L_slot : Cond) ∈ GB := mt2 77 rfl rfl
theorem k_491 : (.initialized R_L : Cond) ∈ GB := mt1 0 rfl rfl
theorem k_492 : (.code y_M_slot b_M_slot 2 (some .int) : Cond) ∈ GB := mt4 80 rfl rfl
theorem k_493 : (.methodLink R_L 80 y_M_slot : Cond) ∈ GB := mt4 77 rfl rfl
theorem k_494 : (.instanceMethod y_M_slot : Cond) ∈ GB := mt4 78 rfl rfl
theorem k_495 : (.selects R_M y_M_slot y_M_slot : Cond) ∈ GB := mt4 79 rfl rfl
theorem k_496 : (.code y_M_thrown b_M_thrown 1 (some .int) : Cond) ∈ GB := mt4 76 rfl rfl
theorem k_497 : (.methodLink R_L 81 y_M_thrown : Cond) ∈ GB := mt4 73 rfl rfl
theorem k_498 : (.instanceMethod y_M_thrown : Cond) ∈ GB := mt4 74 rfl rfl
theorem k_499 : (.selects R_M y_M_thrown y_M_thrown : Cond) ∈ GB := mt4 75 rfl rfl
theorem k_500 : (.codeWith y_L_over b_L_over 7 (some .int) [(0, 11, 14, 21), (0, 11, 18, 15)] : Cond) ∈ GB := mt2 175 rfl rfl
theorem k_501 : (.methodLink R_L 85 y_L_over : Cond) ∈ GB := mt2 173 rfl rfl
theorem k_502 : (.static y_L_over : Cond) ∈ GB := mt2 174 rfl rfl
theorem k_503 : (.code y_M_over b_M_over 7 none : Cond) ∈ GB := mt4 91 rfl rfl
theorem k_504 : (.methodLink R_L 88 y_M_over : Cond) ∈ GB := mt4 88 rfl rfl
theorem k_505 : (.instanceMethod y_M_over : Cond) ∈ GB := mt4 89 rfl rfl
theorem k_506 : (.selects R_M y_M_over y_M_over : Cond) ∈ GB := mt4 90 rfl rfl
theorem k_507 : (.codeWith y_L_most b_L_most 4 (some .int) [(0, 9, 12, 21)] : Cond) ∈ GB := mt2 237 rfl rfl
theorem k_508 : (.methodLink R_L 89 y_L_most : Cond) ∈ GB := mt2 235 rfl rfl
theorem k_509 : (.static y_L_most : Cond) ∈ GB := mt2 236 rfl rfl
theorem k_510 : (.code y_M_most b_M_most 2 (some .int) : Cond) ∈ GB := mt4 99 rfl rfl
theorem k_511 : (.methodLink R_L 91 y_M_most : Cond) ∈ GB := mt4 96 rfl rfl
theorem k_512 : (.instanceMethod y_M_most : Cond) ∈ GB := mt4 97 rfl rfl
theorem k_513 : (.selects R_M y_M_most y_M_most : Cond) ∈ GB := mt4 98 rfl rfl
theorem k_514 : (.codeWith y_L_odds b_L_odds 6 (some .int) [(0, 12, 15, 21), (0, 12, 19, 15)] : Cond) ∈ GB := mt3 4 rfl rfl
theorem k_515 : (.methodLink R_L 92 y_L_odds : Cond) ∈ GB := mt3 2 rfl rfl
theorem k_516 : (.static y_L_odds : Cond) ∈ GB := mt3 3 rfl rfl
theorem k_517 : (.code y_M_odds b_M_odds 5 (some .int) : Cond) ∈ GB := mt4 119 rfl rfl
theorem k_518 : (.methodLink R_L 95 y_M_odds : Cond) ∈ GB := mt4 116 rfl rfl
theorem k_519 : (.instanceMethod y_M_odds : Cond) ∈ GB := mt4 117 rfl rfl
theorem k_520 : (.selects R_M y_M_odds y_M_odds : Cond) ∈ GB := mt4 118 rfl rfl
theorem k_521 : (.codeWith y_L_sell b_L_sell 6 (some .int) [(0, 12, 15, 21), (0, 12, 19, 13), (0, 12, 23, 15)] : Cond) ∈ GB := mt3 19 rfl rfl
theorem k_522 : (.methodLink R_L 96 y_L_sell : Cond) ∈ GB := mt3 17 rfl rfl
theorem k_523 : (.static y_L_sell : Cond) ∈ GB := mt3 18 rfl rfl
theorem k_524 : (.code y_M_sell b_M_sell 4 (some .int) : Cond) ∈ GB := mt4 127 rfl rfl
theorem k_525 : (.methodLink R_L 98 y_M_sell : Cond) ∈ GB := mt4 124 rfl rfl
theorem k_526 : (.instanceMethod y_M_sell : Cond) ∈ GB := mt4 125 rfl rfl
theorem k_527 : (.selects R_M y_M_sell y_M_sell : Cond) ∈ GB := mt4 126 rfl rfl
theorem k_528 : (.codeWith y_L_back b_L_back 4 (some .int) [(0, 9, 12, 21)] : Cond) ∈ GB := mt3 47 rfl rfl
theorem k_529 : (.methodLink R_L 99 y_L_back : Cond) ∈ GB := mt3 45 rfl rfl
theorem k_530 : (.static y_L_back : Cond) ∈ GB := mt3 46 rfl rfl
theorem k_531 : (.code y_M_back b_M_back 6 (some .int) : Cond) ∈ GB := mt4 139 rfl rfl
theorem k_532 : (.methodLink R_L 101 y_M_back : Cond) ∈ GB := mt4 136 rfl rfl
theorem k_533 : (.instanceMethod y_M_back : Cond) ∈ GB := mt4 137 rfl rfl
theorem k_534 : (.selects R_M y_M_back y_M_back : Cond) ∈ GB := mt4 138 rfl rfl
theorem k_535 : (.codeWith y_L_waits b_L_waits 6 (some .int) [(0, 12, 15, 21), (0, 12, 19, 13), (0, 12, 23, 15)] : Cond) ∈ GB := mt3 75 rfl rfl
theorem k_536 : (.methodLink R_L 102 y_L_waits : Cond) ∈ GB := mt3 73 rfl rfl
theorem k_537 : (.static y_L_waits : Cond) ∈ GB := mt3 74 rfl rfl
theorem k_538 : (.code y_M_waits b_M_waits 4 (some .int) : Cond) ∈ GB := mt4 151 rfl rfl
theorem k_539 : (.methodLink R_L 104 y_M_waits : Cond) ∈ GB := mt4 148 rfl rfl
theorem k_540 : (.instanceMethod y_M_waits : Cond) ∈ GB := mt4 149 rfl rfl
theorem k_541 : (.selects R_M y_M_waits y_M_waits : Cond) ∈ GB := mt4 150 rfl rfl
theorem k_542 : (.codeWith y_L_given b_L_given 4 (some .int) [(0, 9, 12, 21)] : Cond) ∈ GB := mt3 87 rfl rfl
theorem k_543 : (.methodLink R_L 105 y_L_given : Cond) ∈ GB := mt3 85 rfl rfl
theorem k_544 : (.static y_L_given : Cond) ∈ GB := mt3 86 rfl rfl
theorem k_545 : (.code y_M_given b_M_given 2 (some .int) : Cond) ∈ GB := mt4 155 rfl rfl
theorem k_546 : (.methodLink R_L 107 y_M_given : Cond) ∈ GB := mt4 152 rfl rfl
theorem k_547 : (.instanceMethod y_M_given : Cond) ∈ GB := mt4 153 rfl rfl
theorem k_548 : (.selects R_M y_M_given y_M_given : Cond) ∈ GB := mt4 154 rfl rfl
theorem k_549 : (.codeWith y_L_unit b_L_unit 4 (some .int) [(0, 9, 12, 13), (0, 9, 15, 15)] : Cond) ∈ GB := mt3 95 rfl rfl
theorem k_550 : (.methodLink R_L 108 y_L_unit : Cond) ∈ GB := mt3 93 rfl rfl
theorem k_551 : (.static y_L_unit : Cond) ∈ GB := mt3 94 rfl rfl
theorem k_552 : (.code y_M_unit b_M_unit 2 (some .int) : Cond) ∈ GB := mt4 159 rfl rfl
theorem k_553 : (.methodLink R_L 110 y_M_unit : Cond) ∈ GB := mt4 156 rfl rfl
theorem k_554 : (.instanceMethod y_M_unit : Cond) ∈ GB := mt4 157 rfl rfl
theorem k_555 : (.selects R_M y_M_unit y_M_unit : Cond) ∈ GB := mt4 158 rfl rfl
theorem k_556 : (.code y_X_rules b_X_rules 1 (some .int) : Cond) ∈ GB := mt1 225 rfl rfl
theorem k_557 : (.methodLink R_L 111 y_X_rules : Cond) ∈ GB := mt1 222 rfl rfl
theorem k_558 : (.instanceMethod y_X_rules : Cond) ∈ GB := mt1 223 rfl rfl
theorem k_559 : (.selects R_X y_X_rules y_X_rules : Cond) ∈ GB := mt1 224 rfl rfl
theorem k_560 : (.code y_M_rules b_M_rules 3 (some .int) : Cond) ∈ GB := mt4 163 rfl rfl
theorem k_561 : (.methodLink R_L 114 y_M_rules : Cond) ∈ GB := mt4 160 rfl rfl
theorem k_562 : (.instanceMethod y_M_rules : Cond) ∈ GB := mt4 161 rfl rfl
theorem k_563 : (.selects R_M y_M_rules y_M_rules : Cond) ∈ GB := mt4 162 rfl rfl
theorem k_564 : (.codeWith y_L_price b_L_price 4 (some .int) [(0, 9, 12, 21)] : Cond) ∈ GB := mt3 108 rfl rfl
theorem k_565 : (.methodLink R_L 115 y_L_price : Cond) ∈ GB := mt3 106 rfl rfl
theorem k_566 : (.static y_L_price : Cond) ∈ GB := mt3 107 rfl rfl
theorem k_567 : (.code y_M_price b_M_price 5 (some .int) : Cond) ∈ GB := mt4 171 rfl rfl
theorem k_568 : (.methodLink R_L 117 y_M_price : Cond) ∈ GB := mt4 168 rfl rfl
theorem k_569 : (.instanceMethod y_M_price : Cond) ∈ GB := mt4 169 rfl rfl
theorem k_570 : (.selects R_M y_M_price y_M_price : Cond) ∈ GB := mt4 170 rfl rfl
theorem k_571 : (.codeWith y_L_about b_L_about 5 (some .int) [(0, 10, 13, 21)] : Cond) ∈ GB := mt3 119 rfl rfl
theorem k_572 : (.methodLink R_L 118 y_L_about : Cond) ∈ GB := mt3 117 rfl rfl
theorem k_573 : (.static y_L_about : Cond) ∈ GB := mt3 118 rfl rfl
theorem k_574 : (.code y_M_about b_M_about 3 (some .int) : Cond) ∈ GB := mt4 175 rfl rfl
theorem k_575 : (.methodLink R_L 121 y_M_about : Cond) ∈ GB := mt4 172 rfl rfl
theorem k_576 : (.instanceMethod y_M_about : Cond) ∈ GB := mt4 173 rfl rfl
theorem k_577 : (.selects R_M y_M_about y_M_about : Cond) ∈ GB := mt4 174 rfl rfl
theorem k_578 : (.codeWith y_L_code b_L_code 5 (some .int) [(0, 10, 13, 21)] : Cond) ∈ GB := mt3 127 rfl rfl
theorem k_579 : (.methodLink R_L 122 y_L_code : Cond) ∈ GB := mt3 125 rfl rfl
theorem k_580 : (.static y_L_code : Cond) ∈ GB := mt3 126 rfl rfl
theorem k_581 : (.code y_M_code b_M_code 5 (some .int) : Cond) ∈ GB := mt4 179 rfl rfl
theorem k_582 : (.methodLink R_L 124 y_M_code : Cond) ∈ GB := mt4 176 rfl rfl
theorem k_583 : (.instanceMethod y_M_code : Cond) ∈ GB := mt4 177 rfl rfl
theorem k_584 : (.selects R_M y_M_code y_M_code : Cond) ∈ GB := mt4 178 rfl rfl
theorem k_585 : (.code y_X_whose b_X_whose 2 (some .int) : Cond) ∈ GB := mt2 37 rfl rfl
theorem k_586 : (.methodLink R_L 125 y_X_whose : Cond) ∈ GB := mt2 34 rfl rfl
theorem k_587 : (.instanceMethod y_X_whose : Cond) ∈ GB := mt2 35 rfl rfl
theorem k_588 : (.selects R_X y_X_whose y_X_whose : Cond) ∈ GB := mt2 36 rfl rfl
theorem k_589 : (.code y_M_whose b_M_whose 4 (some .int) : Cond) ∈ GB := mt4 188 rfl rfl
theorem k_590 : (.methodLink R_L 128 y_M_whose : Cond) ∈ GB := mt4 185 rfl rfl
theorem k_591 : (.instanceMethod y_M_whose : Cond) ∈ GB := mt4 186 rfl rfl
theorem k_592 : (.selects R_M y_M_whose y_M_whose : Cond) ∈ GB := mt4 187 rfl rfl
theorem k_593 : (.codeWith y_L_read b_L_read 6 (some .int) [(0, 12, 15, 21), (0, 12, 19, 15)] : Cond) ∈ GB := mt3 136 rfl rfl
theorem k_594 : (.methodLink R_L 129 y_L_read : Cond) ∈ GB := mt3 134 rfl rfl
theorem k_595 : (.static y_L_read : Cond) ∈ GB := mt3 135 rfl rfl
theorem k_596 : (.code y_M_read b_M_read 5 (some .int) : Cond) ∈ GB := mt4 192 rfl rfl
theorem k_597 : (.methodLink R_L 131 y_M_read : Cond) ∈ GB := mt4 189 rfl rfl
theorem k_598 : (.instanceMethod y_M_read : Cond) ∈ GB := mt4 190 rfl rfl
theorem k_599 : (.selects R_M y_M_read y_M_read : Cond) ∈ GB := mt4 191 rfl rfl
theorem k_600 : (.code y_X_join b_X_join 1 (some .int) : Cond) ∈ GB := mt2 59 rfl rfl
theorem k_601 : (.methodLink R_L 132 y_X_join : Cond) ∈ GB := mt2 56 rfl rfl
theorem k_602 : (.instanceMethod y_X_join : Cond) ∈ GB := mt2 57 rfl rfl
theorem k_603 : (.selects R_X y_X_join y_X_join : Cond) ∈ GB := mt2 58 rfl rfl
theorem k_604 : (.code y_M_join b_M_join 4 (some .int) : Cond) ∈ GB := mt4 199 rfl rfl
theorem k_605 : (.methodLink R_L 135 y_M_join : Cond) ∈ GB := mt4 196 rfl rfl
theorem k_606 : (.instanceMethod y_M_join : Cond) ∈ GB := mt4 197 rfl rfl
theorem k_607 : (.selects R_M y_M_join y_M_join : Cond) ∈ GB := mt4 198 rfl rfl
theorem k_608 : (.codeWith y_L_twice b_L_twice 5 (some .int) [(0, 10, 13, 21)] : Cond) ∈ GB := mt3 154 rfl rfl
theorem k_609 : (.methodLink R_L 136 y_L_twice : Cond) ∈ GB := mt3 152 rfl rfl
theorem k_610 : (.static y_L_twice : Cond) ∈ GB := mt3 153 rfl rfl
theorem k_611 : (.code y_M_twice b_M_twice 3 (some .int) : Cond) ∈ GB := mt4 207 rfl rfl
theorem k_612 : (.methodLink R_L 138 y_M_twice : Cond) ∈ GB := mt4 204 rfl rfl
theorem k_613 : (.instanceMethod y_M_twice : Cond) ∈ GB := mt4 205 rfl rfl
theorem k_614 : (.selects R_M y_M_twice y_M_twice : Cond) ∈ GB := mt4 206 rfl rfl
theorem k_615 : (.codeWith y_L_leaves b_L_leaves 5 (some .int) [(0, 17, 20, 21), (0, 17, 24, 15)] : Cond) ∈ GB := mt3 169 rfl rfl
theorem k_616 : (.methodLink R_L 139 y_L_leaves : Cond) ∈ GB := mt3 167 rfl rfl
theorem k_617 : (.static y_L_leaves : Cond) ∈ GB := mt3 168 rfl rfl
theorem k_618 : (.code y_M_leaves b_M_leaves 4 (some .boolean) : Cond) ∈ GB := mt4 211 rfl rfl
theorem k_619 : (.methodLink R_L 141 y_M_leaves : Cond) ∈ GB := mt4 208 rfl rfl
theorem k_620 : (.instanceMethod y_M_leaves : Cond) ∈ GB := mt4 209 rfl rfl
theorem k_621 : (.selects R_M y_M_leaves y_M_leaves : Cond) ∈ GB := mt4 210 rfl rfl
theorem k_622 : (.codeWith y_L_inside b_L_inside 4 (some .int) [(0, 9, 12, 15)] : Cond) ∈ GB := mt3 184 rfl rfl
theorem k_623 : (.methodLink R_L 142 y_L_inside : Cond) ∈ GB := mt3 182 rfl rfl
theorem k_624 : (.static y_L_inside : Cond) ∈ GB := mt3 183 rfl rfl
theorem k_625 : (.code y_M_inside b_M_inside 5 (some .int) : Cond) ∈ GB := mt4 215 rfl rfl
theorem k_626 : (.methodLink R_L 144 y_M_inside : Cond) ∈ GB := mt4 212 rfl rfl
theorem k_627 : (.instanceMethod y_M_inside : Cond) ∈ GB := mt4 213 rfl rfl
theorem k_628 : (.selects R_M y_M_inside y_M_inside : Cond) ∈ GB := mt4 214 rfl rfl
theorem k_629 : (.codeWith y_L_count b_L_count 4 (some .int) [(0, 9, 12, 21)] : Cond) ∈ GB := mt3 195 rfl rfl
theorem k_630 : (.methodLink R_L 145 y_L_count : Cond) ∈ GB := mt3 193 rfl rfl
theorem k_631 : (.static y_L_count : Cond) ∈ GB := mt3 194 rfl rfl
theorem k_632 : (.code y_M_count b_M_count 4 (some .int) : Cond) ∈ GB := mt4 219 rfl rfl
theorem k_633 : (.methodLink R_L 147 y_M_count : Cond) ∈ GB := mt4 216 rfl rfl
theorem k_634 : (.instanceMethod y_M_count : Cond) ∈ GB := mt4 217 rfl rfl
theorem k_635 : (.selects R_M y_M_count y_M_count : Cond) ∈ GB := mt4 218 rfl rfl
theorem d_L_law_0 : decode b_L_law 0 = .ok (.new 8, 3) := by decide +kernel
theorem d_L_law_3 : decode b_L_law 3 = .ok (.dup, 1) := by decide +kernel
theorem d_L_law_4 : decode b_L_law 4 = .ok (.invokespecial 71, 3) := by decide +kernel
theorem d_L_law_7 : decode b_L_law 7 = .ok (.astore_n 1, 1) := by decide +kernel
theorem d_L_law_8 : decode b_L_law 8 = .ok (.new 72, 3) := by decide +kernel
theorem d_L_law_11 : decode b_L_law 11 = .ok (.dup, 1) := by decide +kernel
theorem d_L_law_12 : decode b_L_law 12 = .ok (.invokespecial 74, 3) := by decide +kernel
theorem d_L_law_15 : decode b_L_law 15 = .ok (.astore_n 2, 1) := by decide +kernel
theorem d_L_law_16 : decode b_L_law 16 = .ok (.iconst 1, 1) := by decide +kernel
theorem d_L_law_17 : decode b_L_law 17 = .ok (.newarray .long, 2) := by decide +kernel
theorem d_L_law_19 : decode b_L_law 19 = .ok (.astore_n 3, 1) := by decide +kernel
theorem d_L_law_20 : decode b_L_law 20 = .ok (.iconst 0, 1) := by decide +kernel
theorem d_L_law_21 : decode b_L_law 21 = .ok (.istore 4, 2) := by decide +kernel
theorem d_L_law_23 : decode b_L_law 23 = .ok (.iload 4, 2) := by decide +kernel
theorem d_L_law_25 : decode b_L_law 25 = .ok (.aload_n 0, 1) := by decide +kernel
theorem d_L_law_26 : decode b_L_law 26 = .ok (.arraylength, 1) := by decide +kernel
theorem d_L_law_27 : decode b_L_law 27 = .ok (.bipush 6, 2) := by decide +kernel
theorem d_L_law_29 : decode b_L_law 29 = .ok (.isub, 1) := by decide +kernel
theorem d_L_law_30 : decode b_L_law 30 = .ok (.if_icmp .gt 1294, 3) := by decide +kernel
theorem d_L_law_33 : decode b_L_law 33 = .ok (.aload_n 0, 1) := by decide +kernel
theorem d_L_law_34 : decode b_L_law 34 = .ok (.iload 4, 2) := by decide +kernel
theorem d_L_law_36 : decode b_L_law 36 = .ok (.iaload, 1) := by decide +kernel
theorem d_L_law_37 : decode b_L_law 37 = .ok (.bipush 31, 2) := by decide +kernel
theorem d_L_law_39 : decode b_L_law 39 = .ok (.iand, 1) := by decide +kernel
theorem d_L_law_40 : decode b_L_law 40 = .ok (.tableswitch 1278 0 19 #[96, 152, 236, 292, 372, 452, 508, 588, 644, 700, 713, 769, 837, 905, 930, 1010, 1023, 1091, 1166, 1222], 96) := by decide +kernel
theorem d_L_law_136 : decode b_L_law 136 = .ok (.aload_n 1, 1) := by decide +kernel
theorem d_L_law_137 : decode b_L_law 137 = .ok (.aload_n 0, 1) := by decide +kernel
theorem d_L_law_138 : decode b_L_law 138 = .ok (.iload 4, 2) := by decide +kernel
theorem d_L_law_140 : decode b_L_law 140 = .ok (.iconst 1, 1) := by decide +kernel
theorem d_L_law_141 : decode b_L_law 141 = .ok (.iadd, 1) := by decide +kernel
theorem d_L_law_142 : decode b_L_law 142 = .ok (.iaload, 1) := by decide +kernel
theorem d_L_law_143 : decode b_L_law 143 = .ok (.aload_n 3, 1) := by decide +kernel
theorem d_L_law_144 : decode b_L_law 144 = .ok (.invokestatic 75, 3) := by decide +kernel
theorem d_L_law_147 : decode b_L_law 147 = .ok (.istore 5, 2) := by decide +kernel
theorem d_L_law_149 : decode b_L_law 149 = .ok (.aload_n 2, 1) := by decide +kernel
theorem d_L_law_150 : decode b_L_law 150 = .ok (.aload_n 0, 1) := by decide +kernel
theorem d_L_law_151 : decode b_L_law 151 = .ok (.iload 4, 2) := by decide +kernel
theorem d_L_law_153 : decode b_L_law 153 = .ok (.iconst 1, 1) := by decide +kernel
theorem d_L_law_154 : decode b_L_law 154 = .ok (.iadd, 1) := by decide +kernel
theorem d_L_law_155 : decode b_L_law 155 = .ok (.iaload, 1) := by decide +kernel
theorem d_L_law_156 : decode b_L_law 156 = .ok (.invokevirtual 80, 3) := by decide +kernel
theorem d_L_law_159 : decode b_L_law 159 = .ok (.istore 6, 2) := by decide +kernel
theorem d_L_law_161 : decode b_L_law 161 = .ok (.aload_n 2, 1) := by decide +kernel
theorem d_L_law_162 : decode b_L_law 162 = .ok (.invokevirtual 81, 3) := by decide +kernel
theorem d_L_law_165 : decode b_L_law 165 = .ok (.iload 5, 2) := by decide +kernel
theorem d_L_law_167 : decode b_L_law 167 = .ok (.if_icmp .eq 5, 3) := by decide +kernel
theorem d_L_law_170 : decode b_L_law 170 = .ok (.iconst 0, 1) := by decide +kernel
theorem d_L_law_171 : decode b_L_law 171 = .ok (.ireturn, 1) := by decide +kernel
theorem d_L_law_172 : decode b_L_law 172 = .ok (.iload 5, 2) := by decide +kernel
theorem d_L_law_174 : decode b_L_law 174 = .ok (.ifCond .ne 15, 3) := by decide +kernel
theorem d_L_law_177 : decode b_L_law 177 = .ok (.aload_n 3, 1) := by decide +kernel
theorem d_L_law_178 : decode b_L_law 178 = .ok (.iconst 0, 1) := by decide +kernel
theorem d_L_law_179 : decode b_L_law 179 = .ok (.laload, 1) := by decide +kernel
theorem d_L_law_180 : decode b_L_law 180 = .ok (.iload 6, 2) := by decide +kernel
theorem d_L_law_182 : decode b_L_law 182 = .ok (.i2l, 1) := by decide +kernel
theorem d_L_law_183 : decode b_L_law 183 = .ok (.lcmp, 1) := by decide +kernel
theorem d_L_law_184 : decode b_L_law 184 = .ok (.ifCond .eq 5, 3) := by decide +kernel
theorem d_L_law_187 : decode b_L_law 187 = .ok (.iconst 0, 1) := by decide +kernel
theorem d_L_law_188 : decode b_L_law 188 = .ok (.ireturn, 1) := by decide +kernel
theorem d_L_law_189 : decode b_L_law 189 = .ok (.goto 1129, 3) := by decide +kernel
theorem d_L_law_192 : decode b_L_law 192 = .ok (.aload_n 1, 1) := by decide +kernel
theorem d_L_law_193 : decode b_L_law 193 = .ok (.aload_n 0, 1) := by decide +kernel
theorem d_L_law_194 : decode b_L_law 194 = .ok (.iload 4, 2) := by decide +kernel
theorem d_L_law_196 : decode b_L_law 196 = .ok (.iconst 1, 1) := by decide +kernel
theorem d_L_law_197 : decode b_L_law 197 = .ok (.iadd, 1) := by decide +kernel
theorem d_L_law_198 : decode b_L_law 198 = .ok (.iaload, 1) := by decide +kernel
theorem d_L_law_199 : decode b_L_law 199 = .ok (.aload_n 0, 1) := by decide +kernel
theorem d_L_law_200 : decode b_L_law 200 = .ok (.iload 4, 2) := by decide +kernel
theorem d_L_law_202 : decode b_L_law 202 = .ok (.iconst 2, 1) := by decide +kernel
theorem d_L_law_203 : decode b_L_law 203 = .ok (.iadd, 1) := by decide +kernel
theorem d_L_law_204 : decode b_L_law 204 = .ok (.iaload, 1) := by decide +kernel
theorem d_L_law_205 : decode b_L_law 205 = .ok (.aload_n 0, 1) := by decide +kernel
theorem d_L_law_206 : decode b_L_law 206 = .ok (.iload 4, 2) := by decide +kernel
theorem d_L_law_208 : decode b_L_law 208 = .ok (.iconst 3, 1) := by decide +kernel
theorem d_L_law_209 : decode b_L_law 209 = .ok (.iadd, 1) := by decide +kernel
theorem d_L_law_210 : decode b_L_law 210 = .ok (.iaload, 1) := by decide +kernel
theorem d_L_law_211 : decode b_L_law 211 = .ok (.aload_n 0, 1) := by decide +kernel
theorem d_L_law_212 : decode b_L_law 212 = .ok (.iload 4, 2) := by decide +kernel
theorem d_L_law_214 : decode b_L_law 214 = .ok (.iconst 4, 1) := by decide +kernel
theorem d_L_law_215 : decode b_L_law 215 = .ok (.iadd, 1) := by decide +kernel
theorem d_L_law_216 : decode b_L_law 216 = .ok (.iaload, 1) := by decide +kernel
theorem d_L_law_217 : decode b_L_law 217 = .ok (.aload_n 0, 1) := by decide +kernel
theorem d_L_law_218 : decode b_L_law 218 = .ok (.iload 4, 2) := by decide +kernel
theorem d_L_law_220 : decode b_L_law 220 = .ok (.iconst 5, 1) := by decide +kernel
theorem d_L_law_221 : decode b_L_law 221 = .ok (.iadd, 1) := by decide +kernel
theorem d_L_law_222 : decode b_L_law 222 = .ok (.iaload, 1) := by decide +kernel
theorem d_L_law_223 : decode b_L_law 223 = .ok (.invokestatic 85, 3) := by decide +kernel
theorem d_L_law_226 : decode b_L_law 226 = .ok (.istore 5, 2) := by decide +kernel
theorem d_L_law_228 : decode b_L_law 228 = .ok (.aload_n 2, 1) := by decide +kernel
theorem d_L_law_229 : decode b_L_law 229 = .ok (.aload_n 0, 1) := by decide +kernel
theorem d_L_law_230 : decode b_L_law 230 = .ok (.iload 4, 2) := by decide +kernel
theorem d_L_law_232 : decode b_L_law 232 = .ok (.iconst 1, 1) := by decide +kernel
theorem d_L_law_233 : decode b_L_law 233 = .ok (.iadd, 1) := by decide +kernel
theorem d_L_law_234 : decode b_L_law 234 = .ok (.iaload, 1) := by decide +kernel
theorem d_L_law_235 : decode b_L_law 235 = .ok (.aload_n 0, 1) := by decide +kernel
theorem d_L_law_236 : decode b_L_law 236 = .ok (.iload 4, 2) := by decide +kernel
theorem d_L_law_238 : decode b_L_law 238 = .ok (.iconst 2, 1) := by decide +kernel
theorem d_L_law_239 : decode b_L_law 239 = .ok (.iadd, 1) := by decide +kernel
theorem d_L_law_240 : decode b_L_law 240 = .ok (.iaload, 1) := by decide +kernel
theorem d_L_law_241 : decode b_L_law 241 = .ok (.aload_n 0, 1) := by decide +kernel
theorem d_L_law_242 : decode b_L_law 242 = .ok (.iload 4, 2) := by decide +kernel
theorem d_L_law_244 : decode b_L_law 244 = .ok (.iconst 3, 1) := by decide +kernel
theorem d_L_law_245 : decode b_L_law 245 = .ok (.iadd, 1) := by decide +kernel
theorem d_L_law_246 : decode b_L_law 246 = .ok (.iaload, 1) := by decide +kernel
theorem d_L_law_247 : decode b_L_law 247 = .ok (.aload_n 0, 1) := by decide +kernel
theorem d_L_law_248 : decode b_L_law 248 = .ok (.iload 4, 2) := by decide +kernel
theorem d_L_law_250 : decode b_L_law 250 = .ok (.iconst 4, 1) := by decide +kernel
theorem d_L_law_251 : decode b_L_law 251 = .ok (.iadd, 1) := by decide +kernel
theorem d_L_law_252 : decode b_L_law 252 = .ok (.iaload, 1) := by decide +kernel
theorem d_L_law_253 : decode b_L_law 253 = .ok (.aload_n 0, 1) := by decide +kernel
theorem d_L_law_254 : decode b_L_law 254 = .ok (.iload 4, 2) := by decide +kernel
theorem d_L_law_256 : decode b_L_law 256 = .ok (.iconst 5, 1) := by decide +kernel
theorem d_L_law_257 : decode b_L_law 257 = .ok (.iadd, 1) := by decide +kernel
theorem d_L_law_258 : decode b_L_law 258 = .ok (.iaload, 1) := by decide +kernel
theorem d_L_law_259 : decode b_L_law 259 = .ok (.invokevirtual 88, 3) := by decide +kernel
theorem d_L_law_262 : decode b_L_law 262 = .ok (.aload_n 2, 1) := by decide +kernel
theorem d_L_law_263 : decode b_L_law 263 = .ok (.invokevirtual 81, 3) := by decide +kernel
theorem d_L_law_266 : decode b_L_law 266 = .ok (.iload 5, 2) := by decide +kernel
theorem d_L_law_268 : decode b_L_law 268 = .ok (.if_icmp .eq 5, 3) := by decide +kernel
theorem d_L_law_271 : decode b_L_law 271 = .ok (.iconst 0, 1) := by decide +kernel
theorem d_L_law_272 : decode b_L_law 272 = .ok (.ireturn, 1) := by decide +kernel
theorem d_L_law_273 : decode b_L_law 273 = .ok (.goto 1045, 3) := by decide +kernel
theorem d_L_law_276 : decode b_L_law 276 = .ok (.aload_n 1, 1) := by decide +kernel
theorem d_L_law_277 : decode b_L_law 277 = .ok (.aload_n 0, 1) := by decide +kernel
theorem d_L_law_278 : decode b_L_law 278 = .ok (.iload 4, 2) := by decide +kernel
theorem d_L_law_280 : decode b_L_law 280 = .ok (.iconst 1, 1) := by decide +kernel
theorem d_L_law_281 : decode b_L_law 281 = .ok (.iadd, 1) := by decide +kernel
theorem d_L_law_282 : decode b_L_law 282 = .ok (.iaload, 1) := by decide +kernel
theorem d_L_law_283 : decode b_L_law 283 = .ok (.aload_n 3, 1) := by decide +kernel
theorem d_L_law_284 : decode b_L_law 284 = .ok (.invokestatic 89, 3) := by decide +kernel
theorem d_L_law_287 : decode b_L_law 287 = .ok (.istore 5, 2) := by decide +kernel
theorem d_L_law_289 : decode b_L_law 289 = .ok (.aload_n 2, 1) := by decide +kernel
theorem d_L_law_290 : decode b_L_law 290 = .ok (.aload_n 0, 1) := by decide +kernel
theorem d_L_law_291 : decode b_L_law 291 = .ok (.iload 4, 2) := by decide +kernel
theorem d_L_law_293 : decode b_L_law 293 = .ok (.iconst 1, 1) := by decide +kernel
theorem d_L_law_294 : decode b_L_law 294 = .ok (.iadd, 1) := by decide +kernel
theorem d_L_law_295 : decode b_L_law 295 = .ok (.iaload, 1) := by decide +kernel
theorem d_L_law_296 : decode b_L_law 296 = .ok (.invokevirtual 91, 3) := by decide +kernel
theorem d_L_law_299 : decode b_L_law 299 = .ok (.istore 6, 2) := by decide +kernel
theorem d_L_law_301 : decode b_L_law 301 = .ok (.aload_n 2, 1) := by decide +kernel
theorem d_L_law_302 : decode b_L_law 302 = .ok (.invokevirtual 81, 3) := by decide +kernel
theorem d_L_law_305 : decode b_L_law 305 = .ok (.iload 5, 2) := by decide +kernel
theorem d_L_law_307 : decode b_L_law 307 = .ok (.if_icmp .eq 5, 3) := by decide +kernel
theorem d_L_law_310 : decode b_L_law 310 = .ok (.iconst 0, 1) := by decide +kernel
theorem d_L_law_311 : decode b_L_law 311 = .ok (.ireturn, 1) := by decide +kernel
theorem d_L_law_312 : decode b_L_law 312 = .ok (.iload 5, 2) := by decide +kernel
theorem d_L_law_314 : decode b_L_law 314 = .ok (.ifCond .ne 15, 3) := by decide +kernel
theorem d_L_law_317 : decode b_L_law 317 = .ok (.aload_n 3, 1) := by decide +kernel
theorem d_L_law_318 : decode b_L_law 318 = .ok (.iconst 0, 1) := by decide +kernel
theorem d_L_law_319 : decode b_L_law 319 = .ok (.laload, 1) := by decide +kernel
theorem d_L_law_320 : decode b_L_law 320 = .ok (.iload 6, 2) := by decide +kernel
theorem d_L_law_322 : decode b_L_law 322 = .ok (.i2l, 1) := by decide +kernel
theorem d_L_law_323 : decode b_L_law 323 = .ok (.lcmp, 1) := by decide +kernel
theorem d_L_law_324 : decode b_L_law 324 = .ok (.ifCond .eq 5, 3) := by decide +kernel
theorem d_L_law_327 : decode b_L_law 327 = .ok (.iconst 0, 1) := by decide +kernel
theorem d_L_law_328 : decode b_L_law 328 = .ok (.ireturn, 1) := by decide +kernel
theorem d_L_law_329 : decode b_L_law 329 = .ok (.goto 989, 3) := by decide +kernel
theorem d_L_law_332 : decode b_L_law 332 = .ok (.aload_n 1, 1) := by decide +kernel
theorem d_L_law_333 : decode b_L_law 333 = .ok (.aload_n 0, 1) := by decide +kernel
theorem d_L_law_334 : decode b_L_law 334 = .ok (.iload 4, 2) := by decide +kernel
theorem d_L_law_336 : decode b_L_law 336 = .ok (.iconst 1, 1) := by decide +kernel
theorem d_L_law_337 : decode b_L_law 337 = .ok (.iadd, 1) := by decide +kernel
theorem d_L_law_338 : decode b_L_law 338 = .ok (.iaload, 1) := by decide +kernel
theorem d_L_law_339 : decode b_L_law 339 = .ok (.aload_n 0, 1) := by decide +kernel
theorem d_L_law_340 : decode b_L_law 340 = .ok (.iload 4, 2) := by decide +kernel
theorem d_L_law_342 : decode b_L_law 342 = .ok (.iconst 2, 1) := by decide +kernel
theorem d_L_law_343 : decode b_L_law 343 = .ok (.iadd, 1) := by decide +kernel
theorem d_L_law_344 : decode b_L_law 344 = .ok (.iaload, 1) := by decide +kernel
theorem d_L_law_345 : decode b_L_law 345 = .ok (.aload_n 0, 1) := by decide +kernel
theorem d_L_law_346 : decode b_L_law 346 = .ok (.iload 4, 2) := by decide +kernel
theorem d_L_law_348 : decode b_L_law 348 = .ok (.iconst 3, 1) := by decide +kernel
theorem d_L_law_349 : decode b_L_law 349 = .ok (.iadd, 1) := by decide +kernel
theorem d_L_law_350 : decode b_L_law 350 = .ok (.iaload, 1) := by decide +kernel
theorem d_L_law_351 : decode b_L_law 351 = .ok (.aload_n 3, 1) := by decide +kernel
theorem d_L_law_352 : decode b_L_law 352 = .ok (.invokestatic 92, 3) := by decide +kernel
theorem d_L_law_355 : decode b_L_law 355 = .ok (.istore 5, 2) := by decide +kernel
theorem d_L_law_357 : decode b_L_law 357 = .ok (.aload_n 2, 1) := by decide +kernel
theorem d_L_law_358 : decode b_L_law 358 = .ok (.aload_n 0, 1) := by decide +kernel
theorem d_L_law_359 : decode b_L_law 359 = .ok (.iload 4, 2) := by decide +kernel
theorem d_L_law_361 : decode b_L_law 361 = .ok (.iconst 1, 1) := by decide +kernel
theorem d_L_law_362 : decode b_L_law 362 = .ok (.iadd, 1) := by decide +kernel
theorem d_L_law_363 : decode b_L_law 363 = .ok (.iaload, 1) := by decide +kernel
theorem d_L_law_364 : decode b_L_law 364 = .ok (.aload_n 0, 1) := by decide +kernel
theorem d_L_law_365 : decode b_L_law 365 = .ok (.iload 4, 2) := by decide +kernel
theorem d_L_law_367 : decode b_L_law 367 = .ok (.iconst 2, 1) := by decide +kernel
theorem d_L_law_368 : decode b_L_law 368 = .ok (.iadd, 1) := by decide +kernel
theorem d_L_law_369 : decode b_L_law 369 = .ok (.iaload, 1) := by decide +kernel
theorem d_L_law_370 : decode b_L_law 370 = .ok (.aload_n 0, 1) := by decide +kernel
theorem d_L_law_371 : decode b_L_law 371 = .ok (.iload 4, 2) := by decide +kernel
theorem d_L_law_373 : decode b_L_law 373 = .ok (.iconst 3, 1) := by decide +kernel
theorem d_L_law_374 : decode b_L_law 374 = .ok (.iadd, 1) := by decide +kernel
theorem d_L_law_375 : decode b_L_law 375 = .ok (.iaload, 1) := by decide +kernel
theorem d_L_law_376 : decode b_L_law 376 = .ok (.invokevirtual 95, 3) := by decide +kernel
theorem d_L_law_379 : decode b_L_law 379 = .ok (.istore 6, 2) := by decide +kernel
theorem d_L_law_381 : decode b_L_law 381 = .ok (.aload_n 2, 1) := by decide +kernel
theorem d_L_law_382 : decode b_L_law 382 = .ok (.invokevirtual 81, 3) := by decide +kernel
theorem d_L_law_385 : decode b_L_law 385 = .ok (.iload 5, 2) := by decide +kernel
theorem d_L_law_387 : decode b_L_law 387 = .ok (.if_icmp .eq 5, 3) := by decide +kernel
theorem d_L_law_390 : decode b_L_law 390 = .ok (.iconst 0, 1) := by decide +kernel
theorem d_L_law_391 : decode b_L_law 391 = .ok (.ireturn, 1) := by decide +kernel
theorem d_L_law_392 : decode b_L_law 392 = .ok (.iload 5, 2) := by decide +kernel
theorem d_L_law_394 : decode b_L_law 394 = .ok (.ifCond .ne 15, 3) := by decide +kernel
theorem d_L_law_397 : decode b_L_law 397 = .ok (.aload_n 3, 1) := by decide +kernel
theorem d_L_law_398 : decode b_L_law 398 = .ok (.iconst 0, 1) := by decide +kernel
theorem d_L_law_399 : decode b_L_law 399 = .ok (.laload, 1) := by decide +kernel
theorem d_L_law_400 : decode b_L_law 400 = .ok (.iload 6, 2) := by decide +kernel
theorem d_L_law_402 : decode b_L_law 402 = .ok (.i2l, 1) := by decide +kernel
theorem d_L_law_403 : decode b_L_law 403 = .ok (.lcmp, 1) := by decide +kernel
theorem d_L_law_404 : decode b_L_law 404 = .ok (.ifCond .eq 5, 3) := by decide +kernel
theorem d_L_law_407 : decode b_L_law 407 = .ok (.iconst 0, 1) := by decide +kernel
theorem d_L_law_408 : decode b_L_law 408 = .ok (.ireturn, 1) := by decide +kernel
theorem d_L_law_409 : decode b_L_law 409 = .ok (.goto 909, 3) := by decide +kernel
theorem d_L_law_412 : decode b_L_law 412 = .ok (.aload_n 1, 1) := by decide +kernel
theorem d_L_law_413 : decode b_L_law 413 = .ok (.aload_n 0, 1) := by decide +kernel
theorem d_L_law_414 : decode b_L_law 414 = .ok (.iload 4, 2) := by decide +kernel
theorem d_L_law_416 : decode b_L_law 416 = .ok (.iconst 1, 1) := by decide +kernel
theorem d_L_law_417 : decode b_L_law 417 = .ok (.iadd, 1) := by decide +kernel
theorem d_L_law_418 : decode b_L_law 418 = .ok (.iaload, 1) := by decide +kernel
theorem d_L_law_419 : decode b_L_law 419 = .ok (.aload_n 0, 1) := by decide +kernel
theorem d_L_law_420 : decode b_L_law 420 = .ok (.iload 4, 2) := by decide +kernel
theorem d_L_law_422 : decode b_L_law 422 = .ok (.iconst 2, 1) := by decide +kernel
theorem d_L_law_423 : decode b_L_law 423 = .ok (.iadd, 1) := by decide +kernel
theorem d_L_law_424 : decode b_L_law 424 = .ok (.iaload, 1) := by decide +kernel
theorem d_L_law_425 : decode b_L_law 425 = .ok (.aload_n 0, 1) := by decide +kernel
theorem d_L_law_426 : decode b_L_law 426 = .ok (.iload 4, 2) := by decide +kernel
theorem d_L_law_428 : decode b_L_law 428 = .ok (.iconst 3, 1) := by decide +kernel
theorem d_L_law_429 : decode b_L_law 429 = .ok (.iadd, 1) := by decide +kernel
theorem d_L_law_430 : decode b_L_law 430 = .ok (.iaload, 1) := by decide +kernel
theorem d_L_law_431 : decode b_L_law 431 = .ok (.aload_n 3, 1) := by decide +kernel
theorem d_L_law_432 : decode b_L_law 432 = .ok (.invokestatic 96, 3) := by decide +kernel
theorem d_L_law_435 : decode b_L_law 435 = .ok (.istore 5, 2) := by decide +kernel
theorem d_L_law_437 : decode b_L_law 437 = .ok (.aload_n 2, 1) := by decide +kernel
theorem d_L_law_438 : decode b_L_law 438 = .ok (.aload_n 0, 1) := by decide +kernel
theorem d_L_law_439 : decode b_L_law 439 = .ok (.iload 4, 2) := by decide +kernel
theorem d_L_law_441 : decode b_L_law 441 = .ok (.iconst 1, 1) := by decide +kernel
theorem d_L_law_442 : decode b_L_law 442 = .ok (.iadd, 1) := by decide +kernel
theorem d_L_law_443 : decode b_L_law 443 = .ok (.iaload, 1) := by decide +kernel
theorem d_L_law_444 : decode b_L_law 444 = .ok (.aload_n 0, 1) := by decide +kernel
theorem d_L_law_445 : decode b_L_law 445 = .ok (.iload 4, 2) := by decide +kernel
theorem d_L_law_447 : decode b_L_law 447 = .ok (.iconst 2, 1) := by decide +kernel
theorem d_L_law_448 : decode b_L_law 448 = .ok (.iadd, 1) := by decide +kernel
theorem d_L_law_449 : decode b_L_law 449 = .ok (.iaload, 1) := by decide +kernel
theorem d_L_law_450 : decode b_L_law 450 = .ok (.aload_n 0, 1) := by decide +kernel
theorem d_L_law_451 : decode b_L_law 451 = .ok (.iload 4, 2) := by decide +kernel
theorem d_L_law_453 : decode b_L_law 453 = .ok (.iconst 3, 1) := by decide +kernel
theorem d_L_law_454 : decode b_L_law 454 = .ok (.iadd, 1) := by decide +kernel
theorem d_L_law_455 : decode b_L_law 455 = .ok (.iaload, 1) := by decide +kernel
theorem d_L_law_456 : decode b_L_law 456 = .ok (.invokevirtual 98, 3) := by decide +kernel
theorem d_L_law_459 : decode b_L_law 459 = .ok (.istore 6, 2) := by decide +kernel
theorem d_L_law_461 : decode b_L_law 461 = .ok (.aload_n 2, 1) := by decide +kernel
theorem d_L_law_462 : decode b_L_law 462 = .ok (.invokevirtual 81, 3) := by decide +kernel
theorem d_L_law_465 : decode b_L_law 465 = .ok (.iload 5, 2) := by decide +kernel
theorem d_L_law_467 : decode b_L_law 467 = .ok (.if_icmp .eq 5, 3) := by decide +kernel
theorem d_L_law_470 : decode b_L_law 470 = .ok (.iconst 0, 1) := by decide +kernel
theorem d_L_law_471 : decode b_L_law 471 = .ok (.ireturn, 1) := by decide +kernel
theorem d_L_law_472 : decode b_L_law 472 = .ok (.iload 5, 2) := by decide +kernel
theorem d_L_law_474 : decode b_L_law 474 = .ok (.ifCond .ne 15, 3) := by decide +kernel
theorem d_L_law_477 : decode b_L_law 477 = .ok (.aload_n 3, 1) := by decide +kernel
theorem d_L_law_478 : decode b_L_law 478 = .ok (.iconst 0, 1) := by decide +kernel
theorem d_L_law_479 : decode b_L_law 479 = .ok (.laload, 1) := by decide +kernel
theorem d_L_law_480 : decode b_L_law 480 = .ok (.iload 6, 2) := by decide +kernel
theorem d_L_law_482 : decode b_L_law 482 = .ok (.i2l, 1) := by decide +kernel
theorem d_L_law_483 : decode b_L_law 483 = .ok (.lcmp, 1) := by decide +kernel
theorem d_L_law_484 : decode b_L_law 484 = .ok (.ifCond .eq 5, 3) := by decide +kernel
theorem d_L_law_487 : decode b_L_law 487 = .ok (.iconst 0, 1) := by decide +kernel
theorem d_L_law_488 : decode b_L_law 488 = .ok (.ireturn, 1) := by decide +kernel
theorem d_L_law_489 : decode b_L_law 489 = .ok (.goto 829, 3) := by decide +kernel
theorem d_L_law_492 : decode b_L_law 492 = .ok (.aload_n 1, 1) := by decide +kernel
theorem d_L_law_493 : decode b_L_law 493 = .ok (.aload_n 0, 1) := by decide +kernel
theorem d_L_law_494 : decode b_L_law 494 = .ok (.iload 4, 2) := by decide +kernel
theorem d_L_law_496 : decode b_L_law 496 = .ok (.iconst 1, 1) := by decide +kernel
theorem d_L_law_497 : decode b_L_law 497 = .ok (.iadd, 1) := by decide +kernel
theorem d_L_law_498 : decode b_L_law 498 = .ok (.iaload, 1) := by decide +kernel
theorem d_L_law_499 : decode b_L_law 499 = .ok (.aload_n 3, 1) := by decide +kernel
theorem d_L_law_500 : decode b_L_law 500 = .ok (.invokestatic 99, 3) := by decide +kernel
theorem d_L_law_503 : decode b_L_law 503 = .ok (.istore 5, 2) := by decide +kernel
theorem d_L_law_505 : decode b_L_law 505 = .ok (.aload_n 2, 1) := by decide +kernel
theorem d_L_law_506 : decode b_L_law 506 = .ok (.aload_n 0, 1) := by decide +kernel
theorem d_L_law_507 : decode b_L_law 507 = .ok (.iload 4, 2) := by decide +kernel
theorem d_L_law_509 : decode b_L_law 509 = .ok (.iconst 1, 1) := by decide +kernel
theorem d_L_law_510 : decode b_L_law 510 = .ok (.iadd, 1) := by decide +kernel
theorem d_L_law_511 : decode b_L_law 511 = .ok (.iaload, 1) := by decide +kernel
theorem d_L_law_512 : decode b_L_law 512 = .ok (.invokevirtual 101, 3) := by decide +kernel
theorem d_L_law_515 : decode b_L_law 515 = .ok (.istore 6, 2) := by decide +kernel
theorem d_L_law_517 : decode b_L_law 517 = .ok (.aload_n 2, 1) := by decide +kernel
theorem d_L_law_518 : decode b_L_law 518 = .ok (.invokevirtual 81, 3) := by decide +kernel
theorem d_L_law_521 : decode b_L_law 521 = .ok (.iload 5, 2) := by decide +kernel
theorem d_L_law_523 : decode b_L_law 523 = .ok (.if_icmp .eq 5, 3) := by decide +kernel
theorem d_L_law_526 : decode b_L_law 526 = .ok (.iconst 0, 1) := by decide +kernel
theorem d_L_law_527 : decode b_L_law 527 = .ok (.ireturn, 1) := by decide +kernel
theorem d_L_law_528 : decode b_L_law 528 = .ok (.iload 5, 2) := by decide +kernel
theorem d_L_law_530 : decode b_L_law 530 = .ok (.ifCond .ne 15, 3) := by decide +kernel
theorem d_L_law_533 : decode b_L_law 533 = .ok (.aload_n 3, 1) := by decide +kernel
theorem d_L_law_534 : decode b_L_law 534 = .ok (.iconst 0, 1) := by decide +kernel
theorem d_L_law_535 : decode b_L_law 535 = .ok (.laload, 1) := by decide +kernel
theorem d_L_law_536 : decode b_L_law 536 = .ok (.iload 6, 2) := by decide +kernel
theorem d_L_law_538 : decode b_L_law 538 = .ok (.i2l, 1) := by decide +kernel
theorem d_L_law_539 : decode b_L_law 539 = .ok (.lcmp, 1) := by decide +kernel
theorem d_L_law_540 : decode b_L_law 540 = .ok (.ifCond .eq 5, 3) := by decide +kernel
theorem d_L_law_543 : decode b_L_law 543 = .ok (.iconst 0, 1) := by decide +kernel
theorem d_L_law_544 : decode b_L_law 544 = .ok (.ireturn, 1) := by decide +kernel
theorem d_L_law_545 : decode b_L_law 545 = .ok (.goto 773, 3) := by decide +kernel
theorem d_L_law_548 : decode b_L_law 548 = .ok (.aload_n 1, 1) := by decide +kernel
theorem d_L_law_549 : decode b_L_law 549 = .ok (.aload_n 0, 1) := by decide +kernel
theorem d_L_law_550 : decode b_L_law 550 = .ok (.iload 4, 2) := by decide +kernel
theorem d_L_law_552 : decode b_L_law 552 = .ok (.iconst 1, 1) := by decide +kernel
theorem d_L_law_553 : decode b_L_law 553 = .ok (.iadd, 1) := by decide +kernel
theorem d_L_law_554 : decode b_L_law 554 = .ok (.iaload, 1) := by decide +kernel
theorem d_L_law_555 : decode b_L_law 555 = .ok (.aload_n 0, 1) := by decide +kernel
theorem d_L_law_556 : decode b_L_law 556 = .ok (.iload 4, 2) := by decide +kernel
theorem d_L_law_558 : decode b_L_law 558 = .ok (.iconst 2, 1) := by decide +kernel
theorem d_L_law_559 : decode b_L_law 559 = .ok (.iadd, 1) := by decide +kernel
theorem d_L_law_560 : decode b_L_law 560 = .ok (.iaload, 1) := by decide +kernel
theorem d_L_law_561 : decode b_L_law 561 = .ok (.aload_n 0, 1) := by decide +kernel
theorem d_L_law_562 : decode b_L_law 562 = .ok (.iload 4, 2) := by decide +kernel
theorem d_L_law_564 : decode b_L_law 564 = .ok (.iconst 3, 1) := by decide +kernel
theorem d_L_law_565 : decode b_L_law 565 = .ok (.iadd, 1) := by decide +kernel
theorem d_L_law_566 : decode b_L_law 566 = .ok (.iaload, 1) := by decide +kernel
theorem d_L_law_567 : decode b_L_law 567 = .ok (.aload_n 3, 1) := by decide +kernel
theorem d_L_law_568 : decode b_L_law 568 = .ok (.invokestatic 102, 3) := by decide +kernel
theorem d_L_law_571 : decode b_L_law 571 = .ok (.istore 5, 2) := by decide +kernel
theorem d_L_law_573 : decode b_L_law 573 = .ok (.aload_n 2, 1) := by decide +kernel
theorem d_L_law_574 : decode b_L_law 574 = .ok (.aload_n 0, 1) := by decide +kernel
theorem d_L_law_575 : decode b_L_law 575 = .ok (.iload 4, 2) := by decide +kernel
theorem d_L_law_577 : decode b_L_law 577 = .ok (.iconst 1, 1) := by decide +kernel
theorem d_L_law_578 : decode b_L_law 578 = .ok (.iadd, 1) := by decide +kernel
theorem d_L_law_579 : decode b_L_law 579 = .ok (.iaload, 1) := by decide +kernel
theorem d_L_law_580 : decode b_L_law 580 = .ok (.aload_n 0, 1) := by decide +kernel
theorem d_L_law_581 : decode b_L_law 581 = .ok (.iload 4, 2) := by decide +kernel
theorem d_L_law_583 : decode b_L_law 583 = .ok (.iconst 2, 1) := by decide +kernel
theorem d_L_law_584 : decode b_L_law 584 = .ok (.iadd, 1) := by decide +kernel
theorem d_L_law_585 : decode b_L_law 585 = .ok (.iaload, 1) := by decide +kernel
theorem d_L_law_586 : decode b_L_law 586 = .ok (.aload_n 0, 1) := by decide +kernel
theorem d_L_law_587 : decode b_L_law 587 = .ok (.iload 4, 2) := by decide +kernel
theorem d_L_law_589 : decode b_L_law 589 = .ok (.iconst 3, 1) := by decide +kernel
theorem d_L_law_590 : decode b_L_law 590 = .ok (.iadd, 1) := by decide +kernel
theorem d_L_law_591 : decode b_L_law 591 = .ok (.iaload, 1) := by decide +kernel
theorem d_L_law_592 : decode b_L_law 592 = .ok (.invokevirtual 104, 3) := by decide +kernel
theorem d_L_law_595 : decode b_L_law 595 = .ok (.istore 6, 2) := by decide +kernel
theorem d_L_law_597 : decode b_L_law 597 = .ok (.aload_n 2, 1) := by decide +kernel
theorem d_L_law_598 : decode b_L_law 598 = .ok (.invokevirtual 81, 3) := by decide +kernel
theorem d_L_law_601 : decode b_L_law 601 = .ok (.iload 5, 2) := by decide +kernel
theorem d_L_law_603 : decode b_L_law 603 = .ok (.if_icmp .eq 5, 3) := by decide +kernel
theorem d_L_law_606 : decode b_L_law 606 = .ok (.iconst 0, 1) := by decide +kernel
theorem d_L_law_607 : decode b_L_law 607 = .ok (.ireturn, 1) := by decide +kernel
theorem d_L_law_608 : decode b_L_law 608 = .ok (.iload 5, 2) := by decide +kernel
theorem d_L_law_610 : decode b_L_law 610 = .ok (.ifCond .ne 15, 3) := by decide +kernel
theorem d_L_law_613 : decode b_L_law 613 = .ok (.aload_n 3, 1) := by decide +kernel
theorem d_L_law_614 : decode b_L_law 614 = .ok (.iconst 0, 1) := by decide +kernel
theorem d_L_law_615 : decode b_L_law 615 = .ok (.laload, 1) := by decide +kernel
theorem d_L_law_616 : decode b_L_law 616 = .ok (.iload 6, 2) := by decide +kernel
theorem d_L_law_618 : decode b_L_law 618 = .ok (.i2l, 1) := by decide +kernel
theorem d_L_law_619 : decode b_L_law 619 = .ok (.lcmp, 1) := by decide +kernel
theorem d_L_law_620 : decode b_L_law 620 = .ok (.ifCond .eq 5, 3) := by decide +kernel
theorem d_L_law_623 : decode b_L_law 623 = .ok (.iconst 0, 1) := by decide +kernel
theorem d_L_law_624 : decode b_L_law 624 = .ok (.ireturn, 1) := by decide +kernel
theorem d_L_law_625 : decode b_L_law 625 = .ok (.goto 693, 3) := by decide +kernel
theorem d_L_law_628 : decode b_L_law 628 = .ok (.aload_n 1, 1) := by decide +kernel
theorem d_L_law_629 : decode b_L_law 629 = .ok (.aload_n 0, 1) := by decide +kernel
theorem d_L_law_630 : decode b_L_law 630 = .ok (.iload 4, 2) := by decide +kernel
theorem d_L_law_632 : decode b_L_law 632 = .ok (.iconst 1, 1) := by decide +kernel
theorem d_L_law_633 : decode b_L_law 633 = .ok (.iadd, 1) := by decide +kernel
theorem d_L_law_634 : decode b_L_law 634 = .ok (.iaload, 1) := by decide +kernel
theorem d_L_law_635 : decode b_L_law 635 = .ok (.aload_n 3, 1) := by decide +kernel
theorem d_L_law_636 : decode b_L_law 636 = .ok (.invokestatic 105, 3) := by decide +kernel
theorem d_L_law_639 : decode b_L_law 639 = .ok (.istore 5, 2) := by decide +kernel
theorem d_L_law_641 : decode b_L_law 641 = .ok (.aload_n 2, 1) := by decide +kernel
theorem d_L_law_642 : decode b_L_law 642 = .ok (.aload_n 0, 1) := by decide +kernel
theorem d_L_law_643 : decode b_L_law 643 = .ok (.iload 4, 2) := by decide +kernel
theorem d_L_law_645 : decode b_L_law 645 = .ok (.iconst 1, 1) := by decide +kernel
theorem d_L_law_646 : decode b_L_law 646 = .ok (.iadd, 1) := by decide +kernel
theorem d_L_law_647 : decode b_L_law 647 = .ok (.iaload, 1) := by decide +kernel
theorem d_L_law_648 : decode b_L_law 648 = .ok (.invokevirtual 107, 3) := by decide +kernel
theorem d_L_law_651 : decode b_L_law 651 = .ok (.istore 6, 2) := by decide +kernel
theorem d_L_law_653 : decode b_L_law 653 = .ok (.aload_n 2, 1) := by decide +kernel
theorem d_L_law_654 : decode b_L_law 654 = .ok (.invokevirtual 81, 3) := by decide +kernel
theorem d_L_law_657 : decode b_L_law 657 = .ok (.iload 5, 2) := by decide +kernel
theorem d_L_law_659 : decode b_L_law 659 = .ok (.if_icmp .eq 5, 3) := by decide +kernel
theorem d_L_law_662 : decode b_L_law 662 = .ok (.iconst 0, 1) := by decide +kernel
theorem d_L_law_663 : decode b_L_law 663 = .ok (.ireturn, 1) := by decide +kernel
theorem d_L_law_664 : decode b_L_law 664 = .ok (.iload 5, 2) := by decide +kernel
theorem d_L_law_666 : decode b_L_law 666 = .ok (.ifCond .ne 15, 3) := by decide +kernel
theorem d_L_law_669 : decode b_L_law 669 = .ok (.aload_n 3, 1) := by decide +kernel
theorem d_L_law_670 : decode b_L_law 670 = .ok (.iconst 0, 1) := by decide +kernel
theorem d_L_law_671 : decode b_L_law 671 = .ok (.laload, 1) := by decide +kernel
theorem d_L_law_672 : decode b_L_law 672 = .ok (.iload 6, 2) := by decide +kernel
theorem d_L_law_674 : decode b_L_law 674 = .ok (.i2l, 1) := by decide +kernel
theorem d_L_law_675 : decode b_L_law 675 = .ok (.lcmp, 1) := by decide +kernel
theorem d_L_law_676 : decode b_L_law 676 = .ok (.ifCond .eq 5, 3) := by decide +kernel
theorem d_L_law_679 : decode b_L_law 679 = .ok (.iconst 0, 1) := by decide +kernel
theorem d_L_law_680 : decode b_L_law 680 = .ok (.ireturn, 1) := by decide +kernel
theorem d_L_law_681 : decode b_L_law 681 = .ok (.goto 637, 3) := by decide +kernel
theorem d_L_law_684 : decode b_L_law 684 = .ok (.aload_n 1, 1) := by decide +kernel
theorem d_L_law_685 : decode b_L_law 685 = .ok (.aload_n 0, 1) := by decide +kernel
theorem d_L_law_686 : decode b_L_law 686 = .ok (.iload 4, 2) := by decide +kernel
theorem d_L_law_688 : decode b_L_law 688 = .ok (.iconst 1, 1) := by decide +kernel
theorem d_L_law_689 : decode b_L_law 689 = .ok (.iadd, 1) := by decide +kernel
theorem d_L_law_690 : decode b_L_law 690 = .ok (.iaload, 1) := by decide +kernel
theorem d_L_law_691 : decode b_L_law 691 = .ok (.aload_n 3, 1) := by decide +kernel
theorem d_L_law_692 : decode b_L_law 692 = .ok (.invokestatic 108, 3) := by decide +kernel
theorem d_L_law_695 : decode b_L_law 695 = .ok (.istore 5, 2) := by decide +kernel
theorem d_L_law_697 : decode b_L_law 697 = .ok (.aload_n 2, 1) := by decide +kernel
theorem d_L_law_698 : decode b_L_law 698 = .ok (.aload_n 0, 1) := by decide +kernel
theorem d_L_law_699 : decode b_L_law 699 = .ok (.iload 4, 2) := by decide +kernel
theorem d_L_law_701 : decode b_L_law 701 = .ok (.iconst 1, 1) := by decide +kernel
theorem d_L_law_702 : decode b_L_law 702 = .ok (.iadd, 1) := by decide +kernel
theorem d_L_law_703 : decode b_L_law 703 = .ok (.iaload, 1) := by decide +kernel
theorem d_L_law_704 : decode b_L_law 704 = .ok (.invokevirtual 110, 3) := by decide +kernel
theorem d_L_law_707 : decode b_L_law 707 = .ok (.istore 6, 2) := by decide +kernel
theorem d_L_law_709 : decode b_L_law 709 = .ok (.aload_n 2, 1) := by decide +kernel
theorem d_L_law_710 : decode b_L_law 710 = .ok (.invokevirtual 81, 3) := by decide +kernel
theorem d_L_law_713 : decode b_L_law 713 = .ok (.iload 5, 2) := by decide +kernel
theorem d_L_law_715 : decode b_L_law 715 = .ok (.if_icmp .eq 5, 3) := by decide +kernel
theorem d_L_law_718 : decode b_L_law 718 = .ok (.iconst 0, 1) := by decide +kernel
theorem d_L_law_719 : decode b_L_law 719 = .ok (.ireturn, 1) := by decide +kernel
theorem d_L_law_720 : decode b_L_law 720 = .ok (.iload 5, 2) := by decide +kernel
theorem d_L_law_722 : decode b_L_law 722 = .ok (.ifCond .ne 15, 3) := by decide +kernel
theorem d_L_law_725 : decode b_L_law 725 = .ok (.aload_n 3, 1) := by decide +kernel
theorem d_L_law_726 : decode b_L_law 726 = .ok (.iconst 0, 1) := by decide +kernel
theorem d_L_law_727 : decode b_L_law 727 = .ok (.laload, 1) := by decide +kernel
theorem d_L_law_728 : decode b_L_law 728 = .ok (.iload 6, 2) := by decide +kernel
theorem d_L_law_730 : decode b_L_law 730 = .ok (.i2l, 1) := by decide +kernel
theorem d_L_law_731 : decode b_L_law 731 = .ok (.lcmp, 1) := by decide +kernel
theorem d_L_law_732 : decode b_L_law 732 = .ok (.ifCond .eq 5, 3) := by decide +kernel
theorem d_L_law_735 : decode b_L_law 735 = .ok (.iconst 0, 1) := by decide +kernel
theorem d_L_law_736 : decode b_L_law 736 = .ok (.ireturn, 1) := by decide +kernel
theorem d_L_law_737 : decode b_L_law 737 = .ok (.goto 581, 3) := by decide +kernel
theorem d_L_law_740 : decode b_L_law 740 = .ok (.aload_n 1, 1) := by decide +kernel
theorem d_L_law_741 : decode b_L_law 741 = .ok (.invokevirtual 111, 3) := by decide +kernel
theorem d_L_law_744 : decode b_L_law 744 = .ok (.aload_n 2, 1) := by decide +kernel
theorem d_L_law_745 : decode b_L_law 745 = .ok (.invokevirtual 114, 3) := by decide +kernel
theorem d_L_law_748 : decode b_L_law 748 = .ok (.if_icmp .eq 570, 3) := by decide +kernel
theorem d_L_law_751 : decode b_L_law 751 = .ok (.iconst 0, 1) := by decide +kernel
theorem d_L_law_752 : decode b_L_law 752 = .ok (.ireturn, 1) := by decide +kernel
theorem d_L_law_753 : decode b_L_law 753 = .ok (.aload_n 1, 1) := by decide +kernel
theorem d_L_law_754 : decode b_L_law 754 = .ok (.aload_n 0, 1) := by decide +kernel
theorem d_L_law_755 : decode b_L_law 755 = .ok (.iload 4, 2) := by decide +kernel
theorem d_L_law_757 : decode b_L_law 757 = .ok (.iconst 1, 1) := by decide +kernel
theorem d_L_law_758 : decode b_L_law 758 = .ok (.iadd, 1) := by decide +kernel
theorem d_L_law_759 : decode b_L_law 759 = .ok (.iaload, 1) := by decide +kernel
theorem d_L_law_760 : decode b_L_law 760 = .ok (.aload_n 3, 1) := by decide +kernel
theorem d_L_law_761 : decode b_L_law 761 = .ok (.invokestatic 115, 3) := by decide +kernel
theorem d_L_law_764 : decode b_L_law 764 = .ok (.istore 5, 2) := by decide +kernel
theorem d_L_law_766 : decode b_L_law 766 = .ok (.aload_n 2, 1) := by decide +kernel
theorem d_L_law_767 : decode b_L_law 767 = .ok (.aload_n 0, 1) := by decide +kernel
theorem d_L_law_768 : decode b_L_law 768 = .ok (.iload 4, 2) := by decide +kernel
theorem d_L_law_770 : decode b_L_law 770 = .ok (.iconst 1, 1) := by decide +kernel
theorem d_L_law_771 : decode b_L_law 771 = .ok (.iadd, 1) := by decide +kernel
theorem d_L_law_772 : decode b_L_law 772 = .ok (.iaload, 1) := by decide +kernel
theorem d_L_law_773 : decode b_L_law 773 = .ok (.invokevirtual 117, 3) := by decide +kernel
theorem d_L_law_776 : decode b_L_law 776 = .ok (.istore 6, 2) := by decide +kernel
theorem d_L_law_778 : decode b_L_law 778 = .ok (.aload_n 2, 1) := by decide +kernel
theorem d_L_law_779 : decode b_L_law 779 = .ok (.invokevirtual 81, 3) := by decide +kernel
theorem d_L_law_782 : decode b_L_law 782 = .ok (.iload 5, 2) := by decide +kernel
theorem d_L_law_784 : decode b_L_law 784 = .ok (.if_icmp .eq 5, 3) := by decide +kernel
theorem d_L_law_787 : decode b_L_law 787 = .ok (.iconst 0, 1) := by decide +kernel
theorem d_L_law_788 : decode b_L_law 788 = .ok (.ireturn, 1) := by decide +kernel
theorem d_L_law_789 : decode b_L_law 789 = .ok (.iload 5, 2) := by decide +kernel
theorem d_L_law_791 : decode b_L_law 791 = .ok (.ifCond .ne 15, 3) := by decide +kernel
theorem d_L_law_794 : decode b_L_law 794 = .ok (.aload_n 3, 1) := by decide +kernel
theorem d_L_law_795 : decode b_L_law 795 = .ok (.iconst 0, 1) := by decide +kernel
theorem d_L_law_796 : decode b_L_law 796 = .ok (.laload, 1) := by decide +kernel
theorem d_L_law_797 : decode b_L_law 797 = .ok (.iload 6, 2) := by decide +kernel
theorem d_L_law_799 : decode b_L_law 799 = .ok (.i2l, 1) := by decide +kernel
theorem d_L_law_800 : decode b_L_law 800 = .ok (.lcmp, 1) := by decide +kernel
theorem d_L_law_801 : decode b_L_law 801 = .ok (.ifCond .eq 5, 3) := by decide +kernel
theorem d_L_law_804 : decode b_L_law 804 = .ok (.iconst 0, 1) := by decide +kernel
theorem d_L_law_805 : decode b_L_law 805 = .ok (.ireturn, 1) := by decide +kernel
theorem d_L_law_806 : decode b_L_law 806 = .ok (.goto 512, 3) := by decide +kernel
theorem d_L_law_809 : decode b_L_law 809 = .ok (.aload_n 1, 1) := by decide +kernel
theorem d_L_law_810 : decode b_L_law 810 = .ok (.aload_n 0, 1) := by decide +kernel
theorem d_L_law_811 : decode b_L_law 811 = .ok (.iload 4, 2) := by decide +kernel
theorem d_L_law_813 : decode b_L_law 813 = .ok (.iconst 1, 1) := by decide +kernel
theorem d_L_law_814 : decode b_L_law 814 = .ok (.iadd, 1) := by decide +kernel
theorem d_L_law_815 : decode b_L_law 815 = .ok (.iaload, 1) := by decide +kernel
theorem d_L_law_816 : decode b_L_law 816 = .ok (.aload_n 0, 1) := by decide +kernel
theorem d_L_law_817 : decode b_L_law 817 = .ok (.iload 4, 2) := by decide +kernel
theorem d_L_law_819 : decode b_L_law 819 = .ok (.iconst 2, 1) := by decide +kernel
theorem d_L_law_820 : decode b_L_law 820 = .ok (.iadd, 1) := by decide +kernel
theorem d_L_law_821 : decode b_L_law 821 = .ok (.iaload, 1) := by decide +kernel
theorem d_L_law_822 : decode b_L_law 822 = .ok (.aload_n 3, 1) := by decide +kernel
theorem d_L_law_823 : decode b_L_law 823 = .ok (.invokestatic 118, 3) := by decide +kernel
theorem d_L_law_826 : decode b_L_law 826 = .ok (.istore 5, 2) := by decide +kernel
theorem d_L_law_828 : decode b_L_law 828 = .ok (.aload_n 2, 1) := by decide +kernel
theorem d_L_law_829 : decode b_L_law 829 = .ok (.aload_n 0, 1) := by decide +kernel
theorem d_L_law_830 : decode b_L_law 830 = .ok (.iload 4, 2) := by decide +kernel
theorem d_L_law_832 : decode b_L_law 832 = .ok (.iconst 1, 1) := by decide +kernel
theorem d_L_law_833 : decode b_L_law 833 = .ok (.iadd, 1) := by decide +kernel
theorem d_L_law_834 : decode b_L_law 834 = .ok (.iaload, 1) := by decide +kernel
theorem d_L_law_835 : decode b_L_law 835 = .ok (.aload_n 0, 1) := by decide +kernel
theorem d_L_law_836 : decode b_L_law 836 = .ok (.iload 4, 2) := by decide +kernel
theorem d_L_law_838 : decode b_L_law 838 = .ok (.iconst 2, 1) := by decide +kernel
theorem d_L_law_839 : decode b_L_law 839 = .ok (.iadd, 1) := by decide +kernel
theorem d_L_law_840 : decode b_L_law 840 = .ok (.iaload, 1) := by decide +kernel
theorem d_L_law_841 : decode b_L_law 841 = .ok (.invokevirtual 121, 3) := by decide +kernel
theorem d_L_law_844 : decode b_L_law 844 = .ok (.istore 6, 2) := by decide +kernel
theorem d_L_law_846 : decode b_L_law 846 = .ok (.aload_n 2, 1) := by decide +kernel
theorem d_L_law_847 : decode b_L_law 847 = .ok (.invokevirtual 81, 3) := by decide +kernel
theorem d_L_law_850 : decode b_L_law 850 = .ok (.iload 5, 2) := by decide +kernel
theorem d_L_law_852 : decode b_L_law 852 = .ok (.if_icmp .eq 5, 3) := by decide +kernel
theorem d_L_law_855 : decode b_L_law 855 = .ok (.iconst 0, 1) := by decide +kernel
theorem d_L_law_856 : decode b_L_law 856 = .ok (.ireturn, 1) := by decide +kernel
theorem d_L_law_857 : decode b_L_law 857 = .ok (.iload 5, 2) := by decide +kernel
theorem d_L_law_859 : decode b_L_law 859 = .ok (.ifCond .ne 15, 3) := by decide +kernel
theorem d_L_law_862 : decode b_L_law 862 = .ok (.aload_n 3, 1) := by decide +kernel
theorem d_L_law_863 : decode b_L_law 863 = .ok (.iconst 0, 1) := by decide +kernel
theorem d_L_law_864 : decode b_L_law 864 = .ok (.laload, 1) := by decide +kernel
theorem d_L_law_865 : decode b_L_law 865 = .ok (.iload 6, 2) := by decide +kernel
theorem d_L_law_867 : decode b_L_law 867 = .ok (.i2l, 1) := by decide +kernel
theorem d_L_law_868 : decode b_L_law 868 = .ok (.lcmp, 1) := by decide +kernel
theorem d_L_law_869 : decode b_L_law 869 = .ok (.ifCond .eq 5, 3) := by decide +kernel
theorem d_L_law_872 : decode b_L_law 872 = .ok (.iconst 0, 1) := by decide +kernel
theorem d_L_law_873 : decode b_L_law 873 = .ok (.ireturn, 1) := by decide +kernel
theorem d_L_law_874 : decode b_L_law 874 = .ok (.goto 444, 3) := by decide +kernel
theorem d_L_law_877 : decode b_L_law 877 = .ok (.aload_n 1, 1) := by decide +kernel
theorem d_L_law_878 : decode b_L_law 878 = .ok (.aload_n 0, 1) := by decide +kernel
theorem d_L_law_879 : decode b_L_law 879 = .ok (.iload 4, 2) := by decide +kernel
theorem d_L_law_881 : decode b_L_law 881 = .ok (.iconst 1, 1) := by decide +kernel
theorem d_L_law_882 : decode b_L_law 882 = .ok (.iadd, 1) := by decide +kernel
theorem d_L_law_883 : decode b_L_law 883 = .ok (.iaload, 1) := by decide +kernel
theorem d_L_law_884 : decode b_L_law 884 = .ok (.aload_n 0, 1) := by decide +kernel
theorem d_L_law_885 : decode b_L_law 885 = .ok (.iload 4, 2) := by decide +kernel
theorem d_L_law_887 : decode b_L_law 887 = .ok (.iconst 2, 1) := by decide +kernel
theorem d_L_law_888 : decode b_L_law 888 = .ok (.iadd, 1) := by decide +kernel
theorem d_L_law_889 : decode b_L_law 889 = .ok (.iaload, 1) := by decide +kernel
theorem d_L_law_890 : decode b_L_law 890 = .ok (.aload_n 3, 1) := by decide +kernel
theorem d_L_law_891 : decode b_L_law 891 = .ok (.invokestatic 122, 3) := by decide +kernel
theorem d_L_law_894 : decode b_L_law 894 = .ok (.istore 5, 2) := by decide +kernel
theorem d_L_law_896 : decode b_L_law 896 = .ok (.aload_n 2, 1) := by decide +kernel
theorem d_L_law_897 : decode b_L_law 897 = .ok (.aload_n 0, 1) := by decide +kernel
theorem d_L_law_898 : decode b_L_law 898 = .ok (.iload 4, 2) := by decide +kernel
theorem d_L_law_900 : decode b_L_law 900 = .ok (.iconst 1, 1) := by decide +kernel
theorem d_L_law_901 : decode b_L_law 901 = .ok (.iadd, 1) := by decide +kernel
theorem d_L_law_902 : decode b_L_law 902 = .ok (.iaload, 1) := by decide +kernel
theorem d_L_law_903 : decode b_L_law 903 = .ok (.aload_n 0, 1) := by decide +kernel
theorem d_L_law_904 : decode b_L_law 904 = .ok (.iload 4, 2) := by decide +kernel
theorem d_L_law_906 : decode b_L_law 906 = .ok (.iconst 2, 1) := by decide +kernel
theorem d_L_law_907 : decode b_L_law 907 = .ok (.iadd, 1) := by decide +kernel
theorem d_L_law_908 : decode b_L_law 908 = .ok (.iaload, 1) := by decide +kernel
theorem d_L_law_909 : decode b_L_law 909 = .ok (.invokevirtual 124, 3) := by decide +kernel
theorem d_L_law_912 : decode b_L_law 912 = .ok (.istore 6, 2) := by decide +kernel
theorem d_L_law_914 : decode b_L_law 914 = .ok (.aload_n 2, 1) := by decide +kernel
theorem d_L_law_915 : decode b_L_law 915 = .ok (.invokevirtual 81, 3) := by decide +kernel
theorem d_L_law_918 : decode b_L_law 918 = .ok (.iload 5, 2) := by decide +kernel
theorem d_L_law_920 : decode b_L_law 920 = .ok (.if_icmp .eq 5, 3) := by decide +kernel
theorem d_L_law_923 : decode b_L_law 923 = .ok (.iconst 0, 1) := by decide +kernel
theorem d_L_law_924 : decode b_L_law 924 = .ok (.ireturn, 1) := by decide +kernel
theorem d_L_law_925 : decode b_L_law 925 = .ok (.iload 5, 2) := by decide +kernel
theorem d_L_law_927 : decode b_L_law 927 = .ok (.ifCond .ne 15, 3) := by decide +kernel
theorem d_L_law_930 : decode b_L_law 930 = .ok (.aload_n 3, 1) := by decide +kernel
theorem d_L_law_931 : decode b_L_law 931 = .ok (.iconst 0, 1) := by decide +kernel
theorem d_L_law_932 : decode b_L_law 932 = .ok (.laload, 1) := by decide +kernel
theorem d_L_law_933 : decode b_L_law 933 = .ok (.iload 6, 2) := by decide +kernel
theorem d_L_law_935 : decode b_L_law 935 = .ok (.i2l, 1) := by decide +kernel
theorem d_L_law_936 : decode b_L_law 936 = .ok (.lcmp, 1) := by decide +kernel
theorem d_L_law_937 : decode b_L_law 937 = .ok (.ifCond .eq 5, 3) := by decide +kernel
theorem d_L_law_940 : decode b_L_law 940 = .ok (.iconst 0, 1) := by decide +kernel
theorem d_L_law_941 : decode b_L_law 941 = .ok (.ireturn, 1) := by decide +kernel
theorem d_L_law_942 : decode b_L_law 942 = .ok (.goto 376, 3) := by decide +kernel
theorem d_L_law_945 : decode b_L_law 945 = .ok (.aload_n 1, 1) := by decide +kernel
theorem d_L_law_946 : decode b_L_law 946 = .ok (.aload_n 0, 1) := by decide +kernel
theorem d_L_law_947 : decode b_L_law 947 = .ok (.iload 4, 2) := by decide +kernel
theorem d_L_law_949 : decode b_L_law 949 = .ok (.iconst 1, 1) := by decide +kernel
theorem d_L_law_950 : decode b_L_law 950 = .ok (.iadd, 1) := by decide +kernel
theorem d_L_law_951 : decode b_L_law 951 = .ok (.iaload, 1) := by decide +kernel
theorem d_L_law_952 : decode b_L_law 952 = .ok (.invokevirtual 125, 3) := by decide +kernel
theorem d_L_law_955 : decode b_L_law 955 = .ok (.aload_n 2, 1) := by decide +kernel
theorem d_L_law_956 : decode b_L_law 956 = .ok (.aload_n 0, 1) := by decide +kernel
theorem d_L_law_957 : decode b_L_law 957 = .ok (.iload 4, 2) := by decide +kernel
theorem d_L_law_959 : decode b_L_law 959 = .ok (.iconst 1, 1) := by decide +kernel
theorem d_L_law_960 : decode b_L_law 960 = .ok (.iadd, 1) := by decide +kernel
theorem d_L_law_961 : decode b_L_law 961 = .ok (.iaload, 1) := by decide +kernel
theorem d_L_law_962 : decode b_L_law 962 = .ok (.invokevirtual 128, 3) := by decide +kernel
theorem d_L_law_965 : decode b_L_law 965 = .ok (.if_icmp .eq 353, 3) := by decide +kernel
theorem d_L_law_968 : decode b_L_law 968 = .ok (.iconst 0, 1) := by decide +kernel
theorem d_L_law_969 : decode b_L_law 969 = .ok (.ireturn, 1) := by decide +kernel
theorem d_L_law_970 : decode b_L_law 970 = .ok (.aload_n 1, 1) := by decide +kernel
theorem d_L_law_971 : decode b_L_law 971 = .ok (.aload_n 0, 1) := by decide +kernel
theorem d_L_law_972 : decode b_L_law 972 = .ok (.iload 4, 2) := by decide +kernel
theorem d_L_law_974 : decode b_L_law 974 = .ok (.iconst 1, 1) := by decide +kernel
theorem d_L_law_975 : decode b_L_law 975 = .ok (.iadd, 1) := by decide +kernel
theorem d_L_law_976 : decode b_L_law 976 = .ok (.iaload, 1) := by decide +kernel
theorem d_L_law_977 : decode b_L_law 977 = .ok (.aload_n 0, 1) := by decide +kernel
theorem d_L_law_978 : decode b_L_law 978 = .ok (.iload 4, 2) := by decide +kernel
theorem d_L_law_980 : decode b_L_law 980 = .ok (.iconst 2, 1) := by decide +kernel
theorem d_L_law_981 : decode b_L_law 981 = .ok (.iadd, 1) := by decide +kernel
theorem d_L_law_982 : decode b_L_law 982 = .ok (.iaload, 1) := by decide +kernel
theorem d_L_law_983 : decode b_L_law 983 = .ok (.aload_n 0, 1) := by decide +kernel
theorem d_L_law_984 : decode b_L_law 984 = .ok (.iload 4, 2) := by decide +kernel
theorem d_L_law_986 : decode b_L_law 986 = .ok (.iconst 3, 1) := by decide +kernel
theorem d_L_law_987 : decode b_L_law 987 = .ok (.iadd, 1) := by decide +kernel
theorem d_L_law_988 : decode b_L_law 988 = .ok (.iaload, 1) := by decide +kernel
theorem d_L_law_989 : decode b_L_law 989 = .ok (.aload_n 3, 1) := by decide +kernel
theorem d_L_law_990 : decode b_L_law 990 = .ok (.invokestatic 129, 3) := by decide +kernel
theorem d_L_law_993 : decode b_L_law 993 = .ok (.istore 5, 2) := by decide +kernel
theorem d_L_law_995 : decode b_L_law 995 = .ok (.aload_n 2, 1) := by decide +kernel
theorem d_L_law_996 : decode b_L_law 996 = .ok (.aload_n 0, 1) := by decide +kernel
theorem d_L_law_997 : decode b_L_law 997 = .ok (.iload 4, 2) := by decide +kernel
theorem d_L_law_999 : decode b_L_law 999 = .ok (.iconst 1, 1) := by decide +kernel
theorem d_L_law_1000 : decode b_L_law 1000 = .ok (.iadd, 1) := by decide +kernel
theorem d_L_law_1001 : decode b_L_law 1001 = .ok (.iaload, 1) := by decide +kernel
theorem d_L_law_1002 : decode b_L_law 1002 = .ok (.aload_n 0, 1) := by decide +kernel
theorem d_L_law_1003 : decode b_L_law 1003 = .ok (.iload 4, 2) := by decide +kernel
theorem d_L_law_1005 : decode b_L_law 1005 = .ok (.iconst 2, 1) := by decide +kernel
theorem d_L_law_1006 : decode b_L_law 1006 = .ok (.iadd, 1) := by decide +kernel
theorem d_L_law_1007 : decode b_L_law 1007 = .ok (.iaload, 1) := by decide +kernel
theorem d_L_law_1008 : decode b_L_law 1008 = .ok (.aload_n 0, 1) := by decide +kernel
theorem d_L_law_1009 : decode b_L_law 1009 = .ok (.iload 4, 2) := by decide +kernel
theorem d_L_law_1011 : decode b_L_law 1011 = .ok (.iconst 3, 1) := by decide +kernel
theorem d_L_law_1012 : decode b_L_law 1012 = .ok (.iadd, 1) := by decide +kernel
theorem d_L_law_1013 : decode b_L_law 1013 = .ok (.iaload, 1) := by decide +kernel
theorem d_L_law_1014 : decode b_L_law 1014 = .ok (.invokevirtual 131, 3) := by decide +kernel
theorem d_L_law_1017 : decode b_L_law 1017 = .ok (.istore 6, 2) := by decide +kernel
theorem d_L_law_1019 : decode b_L_law 1019 = .ok (.aload_n 2, 1) := by decide +kernel
theorem d_L_law_1020 : decode b_L_law 1020 = .ok (.invokevirtual 81, 3) := by decide +kernel
theorem d_L_law_1023 : decode b_L_law 1023 = .ok (.iload 5, 2) := by decide +kernel
theorem d_L_law_1025 : decode b_L_law 1025 = .ok (.if_icmp .eq 5, 3) := by decide +kernel
theorem d_L_law_1028 : decode b_L_law 1028 = .ok (.iconst 0, 1) := by decide +kernel
theorem d_L_law_1029 : decode b_L_law 1029 = .ok (.ireturn, 1) := by decide +kernel
theorem d_L_law_1030 : decode b_L_law 1030 = .ok (.iload 5, 2) := by decide +kernel
theorem d_L_law_1032 : decode b_L_law 1032 = .ok (.ifCond .ne 15, 3) := by decide +kernel
theorem d_L_law_1035 : decode b_L_law 1035 = .ok (.aload_n 3, 1) := by decide +kernel
theorem d_L_law_1036 : decode b_L_law 1036 = .ok (.iconst 0, 1) := by decide +kernel
theorem d_L_law_1037 : decode b_L_law 1037 = .ok (.laload, 1) := by decide +kernel
theorem d_L_law_1038 : decode b_L_law 1038 = .ok (.iload 6, 2) := by decide +kernel
theorem d_L_law_1040 : decode b_L_law 1040 = .ok (.i2l, 1) := by decide +kernel
theorem d_L_law_1041 : decode b_L_law 1041 = .ok (.lcmp, 1) := by decide +kernel
theorem d_L_law_1042 : decode b_L_law 1042 = .ok (.ifCond .eq 5, 3) := by decide +kernel
theorem d_L_law_1045 : decode b_L_law 1045 = .ok (.iconst 0, 1) := by decide +kernel
theorem d_L_law_1046 : decode b_L_law 1046 = .ok (.ireturn, 1) := by decide +kernel
theorem d_L_law_1047 : decode b_L_law 1047 = .ok (.goto 271, 3) := by decide +kernel
theorem d_L_law_1050 : decode b_L_law 1050 = .ok (.aload_n 1, 1) := by decide +kernel
theorem d_L_law_1051 : decode b_L_law 1051 = .ok (.invokevirtual 132, 3) := by decide +kernel
theorem d_L_law_1054 : decode b_L_law 1054 = .ok (.aload_n 2, 1) := by decide +kernel
theorem d_L_law_1055 : decode b_L_law 1055 = .ok (.invokevirtual 135, 3) := by decide +kernel
theorem d_L_law_1058 : decode b_L_law 1058 = .ok (.if_icmp .eq 260, 3) := by decide +kernel
theorem d_L_law_1061 : decode b_L_law 1061 = .ok (.iconst 0, 1) := by decide +kernel
theorem d_L_law_1062 : decode b_L_law 1062 = .ok (.ireturn, 1) := by decide +kernel
theorem d_L_law_1063 : decode b_L_law 1063 = .ok (.aload_n 1, 1) := by decide +kernel
theorem d_L_law_1064 : decode b_L_law 1064 = .ok (.aload_n 0, 1) := by decide +kernel
theorem d_L_law_1065 : decode b_L_law 1065 = .ok (.iload 4, 2) := by decide +kernel
theorem d_L_law_1067 : decode b_L_law 1067 = .ok (.iconst 1, 1) := by decide +kernel
theorem d_L_law_1068 : decode b_L_law 1068 = .ok (.iadd, 1) := by decide +kernel
theorem d_L_law_1069 : decode b_L_law 1069 = .ok (.iaload, 1) := by decide +kernel
theorem d_L_law_1070 : decode b_L_law 1070 = .ok (.aload_n 0, 1) := by decide +kernel
theorem d_L_law_1071 : decode b_L_law 1071 = .ok (.iload 4, 2) := by decide +kernel
theorem d_L_law_1073 : decode b_L_law 1073 = .ok (.iconst 2, 1) := by decide +kernel
theorem d_L_law_1074 : decode b_L_law 1074 = .ok (.iadd, 1) := by decide +kernel
theorem d_L_law_1075 : decode b_L_law 1075 = .ok (.iaload, 1) := by decide +kernel
theorem d_L_law_1076 : decode b_L_law 1076 = .ok (.aload_n 3, 1) := by decide +kernel
theorem d_L_law_1077 : decode b_L_law 1077 = .ok (.invokestatic 136, 3) := by decide +kernel
theorem d_L_law_1080 : decode b_L_law 1080 = .ok (.istore 5, 2) := by decide +kernel
theorem d_L_law_1082 : decode b_L_law 1082 = .ok (.aload_n 2, 1) := by decide +kernel
theorem d_L_law_1083 : decode b_L_law 1083 = .ok (.aload_n 0, 1) := by decide +kernel
theorem d_L_law_1084 : decode b_L_law 1084 = .ok (.iload 4, 2) := by decide +kernel
theorem d_L_law_1086 : decode b_L_law 1086 = .ok (.iconst 1, 1) := by decide +kernel
theorem d_L_law_1087 : decode b_L_law 1087 = .ok (.iadd, 1) := by decide +kernel
theorem d_L_law_1088 : decode b_L_law 1088 = .ok (.iaload, 1) := by decide +kernel
theorem d_L_law_1089 : decode b_L_law 1089 = .ok (.aload_n 0, 1) := by decide +kernel
theorem d_L_law_1090 : decode b_L_law 1090 = .ok (.iload 4, 2) := by decide +kernel
theorem d_L_law_1092 : decode b_L_law 1092 = .ok (.iconst 2, 1) := by decide +kernel
theorem d_L_law_1093 : decode b_L_law 1093 = .ok (.iadd, 1) := by decide +kernel
theorem d_L_law_1094 : decode b_L_law 1094 = .ok (.iaload, 1) := by decide +kernel
theorem d_L_law_1095 : decode b_L_law 1095 = .ok (.invokevirtual 138, 3) := by decide +kernel
theorem d_L_law_1098 : decode b_L_law 1098 = .ok (.istore 6, 2) := by decide +kernel
theorem d_L_law_1100 : decode b_L_law 1100 = .ok (.aload_n 2, 1) := by decide +kernel
theorem d_L_law_1101 : decode b_L_law 1101 = .ok (.invokevirtual 81, 3) := by decide +kernel
theorem d_L_law_1104 : decode b_L_law 1104 = .ok (.iload 5, 2) := by decide +kernel
theorem d_L_law_1106 : decode b_L_law 1106 = .ok (.if_icmp .eq 5, 3) := by decide +kernel
theorem d_L_law_1109 : decode b_L_law 1109 = .ok (.iconst 0, 1) := by decide +kernel
theorem d_L_law_1110 : decode b_L_law 1110 = .ok (.ireturn, 1) := by decide +kernel
theorem d_L_law_1111 : decode b_L_law 1111 = .ok (.iload 5, 2) := by decide +kernel
theorem d_L_law_1113 : decode b_L_law 1113 = .ok (.ifCond .ne 15, 3) := by decide +kernel
theorem d_L_law_1116 : decode b_L_law 1116 = .ok (.aload_n 3, 1) := by decide +kernel
theorem d_L_law_1117 : decode b_L_law 1117 = .ok (.iconst 0, 1) := by decide +kernel
theorem d_L_law_1118 : decode b_L_law 1118 = .ok (.laload, 1) := by decide +kernel
theorem d_L_law_1119 : decode b_L_law 1119 = .ok (.iload 6, 2) := by decide +kernel
theorem d_L_law_1121 : decode b_L_law 1121 = .ok (.i2l, 1) := by decide +kernel
theorem d_L_law_1122 : decode b_L_law 1122 = .ok (.lcmp, 1) := by decide +kernel
theorem d_L_law_1123 : decode b_L_law 1123 = .ok (.ifCond .eq 5, 3) := by decide +kernel
theorem d_L_law_1126 : decode b_L_law 1126 = .ok (.iconst 0, 1) := by decide +kernel
theorem d_L_law_1127 : decode b_L_law 1127 = .ok (.ireturn, 1) := by decide +kernel
theorem d_L_law_1128 : decode b_L_law 1128 = .ok (.goto 190, 3) := by decide +kernel
theorem d_L_law_1131 : decode b_L_law 1131 = .ok (.aload_n 1, 1) := by decide +kernel
theorem d_L_law_1132 : decode b_L_law 1132 = .ok (.aload_n 0, 1) := by decide +kernel
theorem d_L_law_1133 : decode b_L_law 1133 = .ok (.iload 4, 2) := by decide +kernel
theorem d_L_law_1135 : decode b_L_law 1135 = .ok (.iconst 1, 1) := by decide +kernel
theorem d_L_law_1136 : decode b_L_law 1136 = .ok (.iadd, 1) := by decide +kernel
theorem d_L_law_1137 : decode b_L_law 1137 = .ok (.iaload, 1) := by decide +kernel
theorem d_L_law_1138 : decode b_L_law 1138 = .ok (.aload_n 0, 1) := by decide +kernel
theorem d_L_law_1139 : decode b_L_law 1139 = .ok (.iload 4, 2) := by decide +kernel
theorem d_L_law_1141 : decode b_L_law 1141 = .ok (.iconst 2, 1) := by decide +kernel
theorem d_L_law_1142 : decode b_L_law 1142 = .ok (.iadd, 1) := by decide +kernel
theorem d_L_law_1143 : decode b_L_law 1143 = .ok (.iaload, 1) := by decide +kernel
theorem d_L_law_1144 : decode b_L_law 1144 = .ok (.aload_n 3, 1) := by decide +kernel
theorem d_L_law_1145 : decode b_L_law 1145 = .ok (.invokestatic 139, 3) := by decide +kernel
theorem d_L_law_1148 : decode b_L_law 1148 = .ok (.istore 5, 2) := by decide +kernel
theorem d_L_law_1150 : decode b_L_law 1150 = .ok (.aload_n 2, 1) := by decide +kernel
theorem d_L_law_1151 : decode b_L_law 1151 = .ok (.aload_n 0, 1) := by decide +kernel
theorem d_L_law_1152 : decode b_L_law 1152 = .ok (.iload 4, 2) := by decide +kernel
theorem d_L_law_1154 : decode b_L_law 1154 = .ok (.iconst 1, 1) := by decide +kernel
theorem d_L_law_1155 : decode b_L_law 1155 = .ok (.iadd, 1) := by decide +kernel
theorem d_L_law_1156 : decode b_L_law 1156 = .ok (.iaload, 1) := by decide +kernel
theorem d_L_law_1157 : decode b_L_law 1157 = .ok (.aload_n 0, 1) := by decide +kernel
theorem d_L_law_1158 : decode b_L_law 1158 = .ok (.iload 4, 2) := by decide +kernel
theorem d_L_law_1160 : decode b_L_law 1160 = .ok (.iconst 2, 1) := by decide +kernel
theorem d_L_law_1161 : decode b_L_law 1161 = .ok (.iadd, 1) := by decide +kernel
theorem d_L_law_1162 : decode b_L_law 1162 = .ok (.iaload, 1) := by decide +kernel
theorem d_L_law_1163 : decode b_L_law 1163 = .ok (.invokevirtual 141, 3) := by decide +kernel
theorem d_L_law_1166 : decode b_L_law 1166 = .ok (.istore 6, 2) := by decide +kernel
theorem d_L_law_1168 : decode b_L_law 1168 = .ok (.aload_n 2, 1) := by decide +kernel
theorem d_L_law_1169 : decode b_L_law 1169 = .ok (.invokevirtual 81, 3) := by decide +kernel
theorem d_L_law_1172 : decode b_L_law 1172 = .ok (.iload 5, 2) := by decide +kernel
theorem d_L_law_1174 : decode b_L_law 1174 = .ok (.if_icmp .eq 5, 3) := by decide +kernel
theorem d_L_law_1177 : decode b_L_law 1177 = .ok (.iconst 0, 1) := by decide +kernel
theorem d_L_law_1178 : decode b_L_law 1178 = .ok (.ireturn, 1) := by decide +kernel
theorem d_L_law_1179 : decode b_L_law 1179 = .ok (.iload 5, 2) := by decide +kernel
theorem d_L_law_1181 : decode b_L_law 1181 = .ok (.ifCond .ne 22, 3) := by decide +kernel
theorem d_L_law_1184 : decode b_L_law 1184 = .ok (.aload_n 3, 1) := by decide +kernel
theorem d_L_law_1185 : decode b_L_law 1185 = .ok (.iconst 0, 1) := by decide +kernel
theorem d_L_law_1186 : decode b_L_law 1186 = .ok (.laload, 1) := by decide +kernel
theorem d_L_law_1187 : decode b_L_law 1187 = .ok (.iload 6, 2) := by decide +kernel
theorem d_L_law_1189 : decode b_L_law 1189 = .ok (.ifCond .eq 7, 3) := by decide +kernel
theorem d_L_law_1192 : decode b_L_law 1192 = .ok (.lconst 1, 1) := by decide +kernel
theorem d_L_law_1193 : decode b_L_law 1193 = .ok (.goto 4, 3) := by decide +kernel
theorem d_L_law_1196 : decode b_L_law 1196 = .ok (.lconst 0, 1) := by decide +kernel
theorem d_L_law_1197 : decode b_L_law 1197 = .ok (.lcmp, 1) := by decide +kernel
theorem d_L_law_1198 : decode b_L_law 1198 = .ok (.ifCond .eq 5, 3) := by decide +kernel
theorem d_L_law_1201 : decode b_L_law 1201 = .ok (.iconst 0, 1) := by decide +kernel
theorem d_L_law_1202 : decode b_L_law 1202 = .ok (.ireturn, 1) := by decide +kernel
theorem d_L_law_1203 : decode b_L_law 1203 = .ok (.goto 115, 3) := by decide +kernel
theorem d_L_law_1206 : decode b_L_law 1206 = .ok (.aload_n 1, 1) := by decide +kernel
theorem d_L_law_1207 : decode b_L_law 1207 = .ok (.aload_n 0, 1) := by decide +kernel
theorem d_L_law_1208 : decode b_L_law 1208 = .ok (.iload 4, 2) := by decide +kernel
theorem d_L_law_1210 : decode b_L_law 1210 = .ok (.iconst 1, 1) := by decide +kernel
theorem d_L_law_1211 : decode b_L_law 1211 = .ok (.iadd, 1) := by decide +kernel
theorem d_L_law_1212 : decode b_L_law 1212 = .ok (.iaload, 1) := by decide +kernel
theorem d_L_law_1213 : decode b_L_law 1213 = .ok (.aload_n 3, 1) := by decide +kernel
theorem d_L_law_1214 : decode b_L_law 1214 = .ok (.invokestatic 142, 3) := by decide +kernel
theorem d_L_law_1217 : decode b_L_law 1217 = .ok (.istore 5, 2) := by decide +kernel
theorem d_L_law_1219 : decode b_L_law 1219 = .ok (.aload_n 2, 1) := by decide +kernel
theorem d_L_law_1220 : decode b_L_law 1220 = .ok (.aload_n 0, 1) := by decide +kernel
theorem d_L_law_1221 : decode b_L_law 1221 = .ok (.iload 4, 2) := by decide +kernel
theorem d_L_law_1223 : decode b_L_law 1223 = .ok (.iconst 1, 1) := by decide +kernel
theorem d_L_law_1224 : decode b_L_law 1224 = .ok (.iadd, 1) := by decide +kernel
theorem d_L_law_1225 : decode b_L_law 1225 = .ok (.iaload, 1) := by decide +kernel
theorem d_L_law_1226 : decode b_L_law 1226 = .ok (.invokevirtual 144, 3) := by decide +kernel
theorem d_L_law_1229 : decode b_L_law 1229 = .ok (.istore 6, 2) := by decide +kernel
theorem d_L_law_1231 : decode b_L_law 1231 = .ok (.aload_n 2, 1) := by decide +kernel
theorem d_L_law_1232 : decode b_L_law 1232 = .ok (.invokevirtual 81, 3) := by decide +kernel
theorem d_L_law_1235 : decode b_L_law 1235 = .ok (.iload 5, 2) := by decide +kernel
theorem d_L_law_1237 : decode b_L_law 1237 = .ok (.if_icmp .eq 5, 3) := by decide +kernel
theorem d_L_law_1240 : decode b_L_law 1240 = .ok (.iconst 0, 1) := by decide +kernel
theorem d_L_law_1241 : decode b_L_law 1241 = .ok (.ireturn, 1) := by decide +kernel
theorem d_L_law_1242 : decode b_L_law 1242 = .ok (.iload 5, 2) := by decide +kernel
theorem d_L_law_1244 : decode b_L_law 1244 = .ok (.ifCond .ne 15, 3) := by decide +kernel
theorem d_L_law_1247 : decode b_L_law 1247 = .ok (.aload_n 3, 1) := by decide +kernel
theorem d_L_law_1248 : decode b_L_law 1248 = .ok (.iconst 0, 1) := by decide +kernel
theorem d_L_law_1249 : decode b_L_law 1249 = .ok (.laload, 1) := by decide +kernel
theorem d_L_law_1250 : decode b_L_law 1250 = .ok (.iload 6, 2) := by decide +kernel
theorem d_L_law_1252 : decode b_L_law 1252 = .ok (.i2l, 1) := by decide +kernel
theorem d_L_law_1253 : decode b_L_law 1253 = .ok (.lcmp, 1) := by decide +kernel
theorem d_L_law_1254 : decode b_L_law 1254 = .ok (.ifCond .eq 5, 3) := by decide +kernel
theorem d_L_law_1257 : decode b_L_law 1257 = .ok (.iconst 0, 1) := by decide +kernel
theorem d_L_law_1258 : decode b_L_law 1258 = .ok (.ireturn, 1) := by decide +kernel
theorem d_L_law_1259 : decode b_L_law 1259 = .ok (.goto 59, 3) := by decide +kernel
theorem d_L_law_1262 : decode b_L_law 1262 = .ok (.aload_n 1, 1) := by decide +kernel
theorem d_L_law_1263 : decode b_L_law 1263 = .ok (.aload_n 0, 1) := by decide +kernel
theorem d_L_law_1264 : decode b_L_law 1264 = .ok (.iload 4, 2) := by decide +kernel
theorem d_L_law_1266 : decode b_L_law 1266 = .ok (.iconst 1, 1) := by decide +kernel
theorem d_L_law_1267 : decode b_L_law 1267 = .ok (.iadd, 1) := by decide +kernel
theorem d_L_law_1268 : decode b_L_law 1268 = .ok (.iaload, 1) := by decide +kernel
theorem d_L_law_1269 : decode b_L_law 1269 = .ok (.aload_n 3, 1) := by decide +kernel
theorem d_L_law_1270 : decode b_L_law 1270 = .ok (.invokestatic 145, 3) := by decide +kernel
theorem d_L_law_1273 : decode b_L_law 1273 = .ok (.istore 5, 2) := by decide +kernel
theorem d_L_law_1275 : decode b_L_law 1275 = .ok (.aload_n 2, 1) := by decide +kernel
theorem d_L_law_1276 : decode b_L_law 1276 = .ok (.aload_n 0, 1) := by decide +kernel
theorem d_L_law_1277 : decode b_L_law 1277 = .ok (.iload 4, 2) := by decide +kernel
theorem d_L_law_1279 : decode b_L_law 1279 = .ok (.iconst 1, 1) := by decide +kernel
theorem d_L_law_1280 : decode b_L_law 1280 = .ok (.iadd, 1) := by decide +kernel
theorem d_L_law_1281 : decode b_L_law 1281 = .ok (.iaload, 1) := by decide +kernel
theorem d_L_law_1282 : decode b_L_law 1282 = .ok (.invokevirtual 147, 3) := by decide +kernel
theorem d_L_law_1285 : decode b_L_law 1285 = .ok (.istore 6, 2) := by decide +kernel
theorem d_L_law_1287 : decode b_L_law 1287 = .ok (.aload_n 2, 1) := by decide +kernel
theorem d_L_law_1288 : decode b_L_law 1288 = .ok (.invokevirtual 81, 3) := by decide +kernel
theorem d_L_law_1291 : decode b_L_law 1291 = .ok (.iload 5, 2) := by decide +kernel
theorem d_L_law_1293 : decode b_L_law 1293 = .ok (.if_icmp .eq 5, 3) := by decide +kernel
theorem d_L_law_1296 : decode b_L_law 1296 = .ok (.iconst 0, 1) := by decide +kernel
theorem d_L_law_1297 : decode b_L_law 1297 = .ok (.ireturn, 1) := by decide +kernel
theorem d_L_law_1298 : decode b_L_law 1298 = .ok (.iload 5, 2) := by decide +kernel
theorem d_L_law_1300 : decode b_L_law 1300 = .ok (.ifCond .ne 15, 3) := by decide +kernel
theorem d_L_law_1303 : decode b_L_law 1303 = .ok (.aload_n 3, 1) := by decide +kernel
theorem d_L_law_1304 : decode b_L_law 1304 = .ok (.iconst 0, 1) := by decide +kernel
theorem d_L_law_1305 : decode b_L_law 1305 = .ok (.laload, 1) := by decide +kernel
theorem d_L_law_1306 : decode b_L_law 1306 = .ok (.iload 6, 2) := by decide +kernel
theorem d_L_law_1308 : decode b_L_law 1308 = .ok (.i2l, 1) := by decide +kernel
theorem d_L_law_1309 : decode b_L_law 1309 = .ok (.lcmp, 1) := by decide +kernel
theorem d_L_law_1310 : decode b_L_law 1310 = .ok (.ifCond .eq 5, 3) := by decide +kernel
theorem d_L_law_1313 : decode b_L_law 1313 = .ok (.iconst 0, 1) := by decide +kernel
theorem d_L_law_1314 : decode b_L_law 1314 = .ok (.ireturn, 1) := by decide +kernel
theorem d_L_law_1315 : decode b_L_law 1315 = .ok (.goto 3, 3) := by decide +kernel
theorem d_L_law_1318 : decode b_L_law 1318 = .ok (.iinc 4 6, 3) := by decide +kernel
theorem d_L_law_1321 : decode b_L_law 1321 = .ok (.goto (-1298), 3) := by decide +kernel
theorem d_L_law_1324 : decode b_L_law 1324 = .ok (.iconst 1, 1) := by decide +kernel
theorem d_L_law_1325 : decode b_L_law 1325 = .ok (.ireturn, 1) := by decide +kernel
