def ax_cn : List String := [RX0, RX1, RX2, RX3, RX4, RX5, RX6, RX7, RX8, RX9, RX10, RX11, "NoseCensusLaw", "java/lang/Integer", "java/lang/Math"]
abbrev cJ6_bitCount_0f7a4 : ByteArray := prog_19_method_49_code
def yJ6_bitCount_0f7a4 : MethodName := ⟨"java/lang/Integer", "bitCount", "(I)I"⟩
abbrev cJ9_abs_067f4 : ByteArray := prog_20_method_61_code
def yJ9_abs_067f4 : MethodName := ⟨"java/lang/Math", "abs", "(J)J"⟩
abbrev cJ9_max_7cf53 : ByteArray := prog_20_method_65_code
def yJ9_max_7cf53 : MethodName := ⟨"java/lang/Math", "max", "(II)I"⟩
abbrev cJ9_max_f86c9 : ByteArray := prog_20_method_66_code
def yJ9_max_f86c9 : MethodName := ⟨"java/lang/Math", "max", "(JJ)J"⟩
abbrev cJ9_min_7cf53 : ByteArray := prog_20_method_69_code
def yJ9_min_7cf53 : MethodName := ⟨"java/lang/Math", "min", "(II)I"⟩
abbrev cJ9_min_f86c9 : ByteArray := prog_20_method_70_code
def yJ9_min_f86c9 : MethodName := ⟨"java/lang/Math", "min", "(JJ)J"⟩
abbrev ax_U : Type := MethodName × ByteArray × Nat × Option FieldType × Nat × Nat × Nat
def ax_mt0 : List ax_U := [(yX0_init, cX0_init, 1, none, 0, 6, 144), (yX0_empty, cX0_empty, 2, none, 0, 0, 0), (yX0_add, cX0_add, 2, none, 0, 0, 0), (yX0_tell, cX0_tell, 8, none, 0, 0, 0), (yX0_worth, cX0_worth, 6, some .long, 0, 0, 0), (yX0_joined, cX0_joined, 5, some .long, 0, 0, 0), (yX1_init, cX1_init, 1, none, 1, 1, 9), (yX1_find, cX1_find, 3, some .int, 1, 0, 0), (yX1_add, cX1_add, 2, none, 1, 0, 0), (yX2_init, cX2_init, 3, none, 2, 2, 65), (yX2_sniff, cX2_sniff, 4, none, 2, 0, 0), (yX2_brought, cX2_brought, 3, some .int, 2, 0, 0), (yX2_smellLaw, cX2_smellLaw, 3, some .long, 2, 0, 0), (yX2_smellOf, cX2_smellOf, 5, some .int, 2, 0, 0), (yX2_within, cX2_within, 3, some .int, 2, 0, 0), (yX2_noseLaw, cX2_noseLaw, 5, some .long, 2, 0, 0), (yX2_noseLawWhereItIs, cX2_noseLawWhereItIs, 4, some .long, 2, 0, 0), (yX2_smelledOf, cX2_smelledOf, 10, some .int, 2, 0, 0), (yX2_smelledIn, cX2_smelledIn, 3, some .int, 2, 0, 0), (yX2_countIn, cX2_countIn, 5, some .int, 2, 0, 0), (yX2_allCounts, cX2_allCounts, 3, some .int, 2, 0, 0), (yX2_dueLaw, cX2_dueLaw, 3, some .long, 2, 0, 0), (yX2_dueOf, cX2_dueOf, 5, some .int, 2, 0, 0), (yX2_evening, cX2_evening, 5, some .int, 2, 0, 0), (yX3_init, cX3_init, 1, none, 3, 6, 144), (yX3_forget, cX3_forget, 1, none, 3, 0, 0), (yX3_write, cX3_write, 5, some .int, 3, 0, 0), (yX3_strike, cX3_strike, 2, some .int, 3, 0, 0), (yX3_knownBy, cX3_knownBy, 1, some .int, 3, 0, 0), (yX3_settle, cX3_settle, 3, none, 3, 0, 0), (yX3_tellsOf, cX3_tellsOf, 3, some .boolean, 3, 0, 0), (yX3_isSo, cX3_isSo, 3, some .boolean, 3, 0, 0), (yX3_houseOf, cX3_houseOf, 2, some .int, 3, 0, 0), (yX4_init, cX4_init, 1, none, 4, 3, 60), (yX4_push, cX4_push, 4, none, 4, 0, 0), (yX4_dropFirst, cX4_dropFirst, 1, none, 4, 0, 0), (yX4_popInto, cX4_popInto, 4, none, 4, 0, 0), (yX5_init, cX5_init, 1, none, 5, 26, 295), (yX5_empty, cX5_empty, 2, none, 5, 0, 0), (yX6_init, cX6_init, 2, none, 6, 17, 332), (yX6_bestWalk, cX6_bestWalk, 13, some .int, 6, 0, 0), (yX6_rightHouses, cX6_rightHouses, 4, some .int, 6, 0, 0), (yX6_stepsOf, cX6_stepsOf, 2, some .int, 6, 0, 0), (yX6_fewestToWash, cX6_fewestToWash, 9, some .int, 6, 0, 0), (yX6_airWithout, cX6_airWithout, 5, none, 6, 0, 0), (yX6_fittingSet, cX6_fittingSet, 7, some .int, 6, 0, 0), (yX6_airOf, cX6_airOf, 4, none, 6, 0, 0), (yX6_leastDish, cX6_leastDish, 5, some .int, 6, 0, 0), (yX6_yearsSmelled, cX6_yearsSmelled, 4, some .int, 6, 0, 0), (yX6_isSmelled, cX6_isSmelled, 4, some .boolean, 6, 0, 0), (yX6_restingDishes, cX6_restingDishes, 6, some .int, 6, 0, 0), (yX6_priceDishes, cX6_priceDishes, 5, none, 6, 0, 0), (yX6_isRest, cX6_isRest, 5, some .boolean, 6, 0, 0), (yX6_seatsOf, cX6_seatsOf, 7, some .int, 6, 0, 0), (yX6_kindsThatFit, cX6_kindsThatFit, 6, some .int, 6, 0, 0), (yX6_isAllSo, cX6_isAllSo, 4, some .boolean, 6, 0, 0), (yX6_timesPaid, cX6_timesPaid, 11, some .int, 6, 0, 0), (yX6_countsOtherwise, cX6_countsOtherwise, 5, some .int, 6, 0, 0), (yX7_init, cX7_init, 3, none, 7, 2, 29), (yX7_reads, cX7_reads, 4, some .boolean, 7, 0, 0), (yX7_fail, cX7_fail, 2, some .boolean, 7, 0, 0), (yX7_take, cX7_take, 2, some .boolean, 7, 0, 0), (yX7_line, cX7_line, 1, some .boolean, 7, 0, 0), (yX7_houseLine, cX7_houseLine, 1, some .boolean, 7, 0, 0), (yX7_personLine, cX7_personLine, 1, some .boolean, 7, 0, 0), (yX7_coatLine, cX7_coatLine, 1, some .boolean, 7, 0, 0), (yX7_dishLine, cX7_dishLine, 1, some .boolean, 7, 0, 0), (yX7_dogLine, cX7_dogLine, 1, some .boolean, 7, 0, 0), (yX7_numberLine, cX7_numberLine, 2, some .boolean, 7, 0, 0), (yX7_begin, cX7_begin, 3, some .boolean, 7, 0, 0)]
def ax_mt1 : List ax_U := [(yX7_takeNewName, cX7_takeNewName, 2, some .boolean, 7, 0, 0), (yX7_takeSmell, cX7_takeSmell, 1, some .boolean, 7, 0, 0), (yX7_isHouseTold, cX7_isHouseTold, 2, some .boolean, 7, 0, 0), (yX7_takeNumber, cX7_takeNumber, 3, some .boolean, 7, 0, 0), (yX7_isNumber, cX7_isNumber, 3, some .boolean, 7, 0, 0), (yX7_lawLine, cX7_lawLine, 3, some .boolean, 7, 0, 0), (yX7_takeKnot, cX7_takeKnot, 1, some .boolean, 7, 0, 0), (yX7_alternatives, cX7_alternatives, 3, some .boolean, 7, 0, 0), (yX7_conditions, cX7_conditions, 3, some .boolean, 7, 0, 0), (yX7_condition, cX7_condition, 4, some .boolean, 7, 0, 0), (yX7_comparison, cX7_comparison, 3, some .boolean, 7, 0, 0), (yX7_sum, cX7_sum, 4, some .boolean, 7, 0, 0), (yX7_product, cX7_product, 4, some .boolean, 7, 0, 0), (yX7_part, cX7_part, 3, some .boolean, 7, 0, 0), (yX7_enclosed, cX7_enclosed, 2, some .boolean, 7, 0, 0), (yX8_init, cX8_init, 6, none, 8, 1, 21), (yX8_start, cX8_start, 2, none, 8, 0, 0), (yX8_next, cX8_next, 1, none, 8, 0, 0), (yX8_nextWord, cX8_nextWord, 4, none, 8, 0, 0), (yX8_nextNumber, cX8_nextNumber, 1, none, 8, 0, 0), (yX8_signOf, cX8_signOf, 1, some .int, 8, 0, 0), (yX8_joinSign, cX8_joinSign, 1, none, 8, 0, 0), (yX9_init, cX9_init, 1, none, 9, 10, 83), (yX9_become, cX9_become, 2, none, 9, 0, 0), (yX9_empty, cX9_empty, 2, none, 9, 0, 0), (yX9_addPerson, cX9_addPerson, 4, none, 9, 0, 0), (yX9_addCoat, cX9_addCoat, 4, none, 9, 0, 0), (yX9_addDog, cX9_addDog, 3, none, 9, 0, 0), (yX9_peopleIn, cX9_peopleIn, 4, some .int, 9, 0, 0), (yX9_coatsLeft, cX9_coatsLeft, 3, some .int, 9, 0, 0), (yX9_isClean, cX9_isClean, 2, some .boolean, 9, 0, 0), (yX9_setClean, cX9_setClean, 3, none, 9, 0, 0), (yX9_paidInAll, cX9_paidInAll, 3, some .int, 9, 0, 0), (yX9_passYear, cX9_passYear, 2, none, 9, 0, 0), (yX10_init, cX10_init, 6, none, 10, 112, 2171), (yX10_feed, cX10_feed, 6, some .int, 10, 0, 0), (yX10_putFour, cX10_putFour, 3, none, 10, 0, 0), (yX10_text, cX10_text, 3, some .int, 10, 0, 0), (yX10_fault, cX10_fault, 2, some .int, 10, 0, 0), (yX10_named, cX10_named, 3, some .int, 10, 0, 0), (yX10_person, cX10_person, 3, some .int, 10, 0, 0), (yX10_house, cX10_house, 4, some .int, 10, 0, 0), (yX10_coat, cX10_coat, 3, some .int, 10, 0, 0), (yX10_dog, cX10_dog, 3, some .int, 10, 0, 0), (yX10_air, cX10_air, 3, some .int, 10, 0, 0), (yX10_smells, cX10_smells, 3, some .int, 10, 0, 0), (yX10_law, cX10_law, 4, some .long, 10, 0, 0), (yX10_move, cX10_move, 3, some .boolean, 10, 0, 0), (yX10_wash, cX10_wash, 3, some .boolean, 10, 0, 0), (yX10_hang, cX10_hang, 4, some .int, 10, 0, 0), (yX10_cook, cX10_cook, 3, some .boolean, 10, 0, 0), (yX10_send, cX10_send, 3, some .boolean, 10, 0, 0), (yX10_blow, cX10_blow, 2, some .boolean, 10, 0, 0), (yX10_years, cX10_years, 3, some .int, 10, 0, 0), (yX10_walk, cX10_walk, 4, some .int, 10, 0, 0), (yX10_washed, cX10_washed, 4, some .int, 10, 0, 0), (yX10_who, cX10_who, 3, some .int, 10, 0, 0), (yX10_set, cX10_set, 4, some .int, 10, 0, 0), (yX10_share, cX10_share, 7, some .int, 10, 0, 0), (yX10_greatestDivisor, cX10_greatestDivisor, 6, some .int, 10, 0, 0), (yX10_ghosts, cX10_ghosts, 3, some .int, 10, 0, 0), (yX10_wrong, cX10_wrong, 4, some .int, 10, 0, 0), (yX10_hide, cX10_hide, 3, some .int, 10, 0, 0), (yX10_keeps, cX10_keeps, 2, some .int, 10, 0, 0), (yX10_rests, cX10_rests, 3, some .int, 10, 0, 0), (yX10_rest, cX10_rest, 4, some .int, 10, 0, 0), (yX10_canCook, cX10_canCook, 3, some .boolean, 10, 0, 0), (yX10_seats, cX10_seats, 3, some .int, 10, 0, 0), (yX10_note, cX10_note, 5, some .int, 10, 0, 0), (yX10_out, cX10_out, 2, some .int, 10, 0, 0)]
def ax_mt2 : List ax_U := [(yX10_known, cX10_known, 2, some .boolean, 10, 0, 0), (yX10_sort, cX10_sort, 2, some .int, 10, 0, 0), (yX10_chance, cX10_chance, 4, some .int, 10, 0, 0), (yX10_tried, cX10_tried, 3, some .int, 10, 0, 0), (yX10_undo, cX10_undo, 1, some .int, 10, 0, 0), (yX10_keep, cX10_keep, 1, some .int, 10, 0, 0), (yX10_back, cX10_back, 1, some .int, 10, 0, 0), (yX10_count, cX10_count, 2, some .int, 10, 0, 0), (yX10_isHouse, cX10_isHouse, 2, some .boolean, 10, 0, 0), (yX10_isPerson, cX10_isPerson, 2, some .boolean, 10, 0, 0), (yX10_isCoat, cX10_isCoat, 2, some .boolean, 10, 0, 0), (yX10_isDog, cX10_isDog, 2, some .boolean, 10, 0, 0), (yX10_isKind, cX10_isKind, 1, some .boolean, 10, 0, 0), (yX10_hasCount, cX10_hasCount, 2, some .boolean, 10, 0, 0), (yX11_init, cX11_init, 1, none, 11, 43, 3209), (yX11_thrown, cX11_thrown, 1, some .int, 11, 0, 0), (yX11_feed, cX11_feed, 8, some .int, 11, 0, 0), (yX11_here, cX11_here, 1, some .int, 11, 0, 0), (yX11_isSmall, cX11_isSmall, 1, some .boolean, 11, 0, 0), (yX11_isDigit, cX11_isDigit, 1, some .boolean, 11, 0, 0), (yX11_token, cX11_token, 2, none, 11, 0, 0), (yX11_sign, cX11_sign, 2, none, 11, 0, 0), (yX11_word, cX11_word, 4, some .int, 11, 0, 0), (yX11_name, cX11_name, 2, none, 11, 0, 0), (yX11_faults, cX11_faults, 2, none, 11, 0, 0), (yX11_isWord, cX11_isWord, 2, some .boolean, 11, 0, 0), (yX11_isSign, cX11_isSign, 2, some .boolean, 11, 0, 0), (yX11_goOn, cX11_goOn, 1, none, 11, 0, 0), (yX11_numeral, cX11_numeral, 4, some .int, 11, 0, 0), (yX11_found, cX11_found, 5, some .int, 11, 0, 0), (yX11_fresh, cX11_fresh, 5, some .int, 11, 0, 0), (yX11_fresher, cX11_fresher, 2, some .int, 11, 0, 0), (yX11_reads, cX11_reads, 3, none, 11, 0, 0), (yX11_houseAtHand, cX11_houseAtHand, 1, some .int, 11, 0, 0), (yX11_houseAhead, cX11_houseAhead, 2, some .int, 11, 0, 0), (yX11_isFull, cX11_isFull, 2, some .boolean, 11, 0, 0), (yX11_line, cX11_line, 6, none, 11, 0, 0), (yX11_dishLine, cX11_dishLine, 3, none, 11, 0, 0), (yX11_lawLine, cX11_lawLine, 2, none, 11, 0, 0), (yX11_puts, cX11_puts, 3, none, 11, 0, 0), (yX11_knot, cX11_knot, 1, none, 11, 0, 0), (yX11_expression, cX11_expression, 1, none, 11, 0, 0), (yX11_conjunction, cX11_conjunction, 1, none, 11, 0, 0), (yX11_negation, cX11_negation, 2, none, 11, 0, 0), (yX11_sum, cX11_sum, 2, none, 11, 0, 0), (yX11_product, cX11_product, 2, none, 11, 0, 0), (yX11_primary, cX11_primary, 2, none, 11, 0, 0), (yX11_half, cX11_half, 3, none, 11, 0, 0), (yX11_text, cX11_text, 3, some .int, 11, 0, 0), (yX11_fault, cX11_fault, 2, some .int, 11, 0, 0), (yX11_named, cX11_named, 3, some .int, 11, 0, 0), (yX11_is, cX11_is, 1, some .long, 11, 0, 0), (yX11_works, cX11_works, 8, some .boolean, 11, 0, 0), (yX11_goes, cX11_goes, 3, some .boolean, 11, 0, 0), (yX11_hasLaw, cX11_hasLaw, 2, some .boolean, 11, 0, 0), (yX11_starts, cX11_starts, 3, none, 11, 0, 0), (yX11_begins, cX11_begins, 1, none, 11, 0, 0), (yX11_copies, cX11_copies, 4, none, 11, 0, 0), (yX11_isHouse, cX11_isHouse, 2, some .boolean, 11, 0, 0), (yX11_isPerson, cX11_isPerson, 2, some .boolean, 11, 0, 0), (yX11_isDog, cX11_isDog, 2, some .boolean, 11, 0, 0), (yX11_isSort, cX11_isSort, 1, some .boolean, 11, 0, 0), (yX11_kindIn, cX11_kindIn, 2, some .int, 11, 0, 0), (yX11_dishIn, cX11_dishIn, 3, some .int, 11, 0, 0), (yX11_calls, cX11_calls, 7, none, 11, 0, 0), (yX11_smellOf, cX11_smellOf, 4, some .int, 11, 0, 0), (yX11_isSmelled, cX11_isSmelled, 6, some .boolean, 11, 0, 0), (yX11_dueOf, cX11_dueOf, 4, some .int, 11, 0, 0), (yX11_isAbout, cX11_isAbout, 3, some .boolean, 11, 0, 0), (yX11_layAir, cX11_layAir, 4, none, 11, 0, 0)]
def ax_mt3 : List ax_U := [(yX11_smelledBy, cX11_smelledBy, 6, some .int, 11, 0, 0), (yX11_bitsOf, cX11_bitsOf, 3, some .int, 11, 0, 0), (yX11_countOf, cX11_countOf, 5, some .int, 11, 0, 0), (yX11_trueOf, cX11_trueOf, 5, some .int, 11, 0, 0), (yX11_countsAll, cX11_countsAll, 4, some .int, 11, 0, 0), (yX11_passes, cX11_passes, 4, none, 11, 0, 0), (yX11_paidAll, cX11_paidAll, 4, some .int, 11, 0, 0), (yX11_person, cX11_person, 3, some .int, 11, 0, 0), (yX11_house, cX11_house, 4, some .int, 11, 0, 0), (yX11_coat, cX11_coat, 3, some .int, 11, 0, 0), (yX11_dog, cX11_dog, 3, some .int, 11, 0, 0), (yX11_air, cX11_air, 3, some .int, 11, 0, 0), (yX11_smells, cX11_smells, 3, some .int, 11, 0, 0), (yX11_law, cX11_law, 5, some .long, 11, 0, 0), (yX11_keepNow, cX11_keepNow, 2, none, 11, 0, 0), (yX11_move, cX11_move, 3, some .boolean, 11, 0, 0), (yX11_wash, cX11_wash, 3, some .boolean, 11, 0, 0), (yX11_hang, cX11_hang, 4, some .int, 11, 0, 0), (yX11_cook, cX11_cook, 3, some .boolean, 11, 0, 0), (yX11_send, cX11_send, 3, some .boolean, 11, 0, 0), (yX11_blow, cX11_blow, 2, some .boolean, 11, 0, 0), (yX11_years, cX11_years, 3, some .int, 11, 0, 0), (yX11_layWalk, cX11_layWalk, 8, none, 11, 0, 0), (yX11_walk, cX11_walk, 4, some .int, 11, 0, 0), (yX11_washed, cX11_washed, 7, some .int, 11, 0, 0), (yX11_smelledOf, cX11_smelledOf, 8, some .int, 11, 0, 0), (yX11_setOf, cX11_setOf, 7, some .int, 11, 0, 0), (yX11_who, cX11_who, 3, some .int, 11, 0, 0), (yX11_set, cX11_set, 4, some .int, 11, 0, 0), (yX11_common, cX11_common, 5, some .int, 11, 0, 0), (yX11_share, cX11_share, 7, some .int, 11, 0, 0), (yX11_ghosts, cX11_ghosts, 3, some .int, 11, 0, 0), (yX11_wrong, cX11_wrong, 4, some .int, 11, 0, 0), (yX11_hide, cX11_hide, 4, some .int, 11, 0, 0), (yX11_keeps, cX11_keeps, 6, some .int, 11, 0, 0), (yX11_layCooks, cX11_layCooks, 5, none, 11, 0, 0), (yX11_isRest, cX11_isRest, 4, some .boolean, 11, 0, 0), (yX11_restOf, cX11_restOf, 4, some .int, 11, 0, 0), (yX11_areCooks, cX11_areCooks, 3, some .boolean, 11, 0, 0), (yX11_rests, cX11_rests, 3, some .int, 11, 0, 0), (yX11_rest, cX11_rest, 4, some .int, 11, 0, 0), (yX11_seats, cX11_seats, 6, some .int, 11, 0, 0), (yX11_note, cX11_note, 5, some .int, 11, 0, 0), (yX11_out, cX11_out, 2, some .int, 11, 0, 0), (yX11_known, cX11_known, 2, some .boolean, 11, 0, 0), (yX11_knownMany, cX11_knownMany, 1, some .int, 11, 0, 0), (yX11_isSo, cX11_isSo, 3, some .boolean, 11, 0, 0), (yX11_fitsSort, cX11_fitsSort, 3, some .boolean, 11, 0, 0), (yX11_sort, cX11_sort, 5, some .int, 11, 0, 0), (yX11_chance, cX11_chance, 8, some .int, 11, 0, 0), (yX11_tried, cX11_tried, 5, some .int, 11, 0, 0), (yX11_undo, cX11_undo, 1, some .int, 11, 0, 0), (yX11_keep, cX11_keep, 1, some .int, 11, 0, 0), (yX11_back, cX11_back, 1, some .int, 11, 0, 0), (yX11_count, cX11_count, 4, some .int, 11, 0, 0), (yJ6_bitCount_0f7a4, cJ6_bitCount_0f7a4, 1, some .int, 99, 0, 0), (yJ9_abs_067f4, cJ9_abs_067f4, 2, some .long, 99, 0, 0), (yJ9_max_7cf53, cJ9_max_7cf53, 2, some .int, 99, 0, 0), (yJ9_max_f86c9, cJ9_max_f86c9, 4, some .long, 99, 0, 0), (yJ9_min_7cf53, cJ9_min_7cf53, 2, some .int, 99, 0, 0), (yJ9_min_f86c9, cJ9_min_f86c9, 4, some .long, 99, 0, 0)]
def ax_mt : List ax_U := ax_mt0 ++ (ax_mt1 ++ (ax_mt2 ++ (ax_mt3)))
def ax_mu (mi : Nat) : ax_U := ax_mt.getD mi (yX0_init, cX0_init, 0, none, 0, 0, 0)
abbrev m_Laws_init : Nat := 0
abbrev m_Laws_empty : Nat := 1
abbrev m_Laws_add : Nat := 2
abbrev m_Laws_tell : Nat := 3
abbrev m_Laws_worth : Nat := 4
abbrev m_Laws_joined : Nat := 5
abbrev m_Names_init : Nat := 6
abbrev m_Names_find : Nat := 7
abbrev m_Names_add : Nat := 8
abbrev m_Nose_init : Nat := 9
abbrev m_Nose_sniff : Nat := 10
abbrev m_Nose_brought : Nat := 11
abbrev m_Nose_smellLaw : Nat := 12
abbrev m_Nose_smellOf : Nat := 13
abbrev m_Nose_within : Nat := 14
abbrev m_Nose_noseLaw : Nat := 15
abbrev m_Nose_noseLawWhereItIs : Nat := 16
abbrev m_Nose_smelledOf : Nat := 17
abbrev m_Nose_smelledIn : Nat := 18
abbrev m_Nose_countIn : Nat := 19
abbrev m_Nose_allCounts : Nat := 20
abbrev m_Nose_dueLaw : Nat := 21
abbrev m_Nose_dueOf : Nat := 22
abbrev m_Nose_evening : Nat := 23
abbrev m_Notebook_init : Nat := 24
abbrev m_Notebook_forget : Nat := 25
abbrev m_Notebook_write : Nat := 26
abbrev m_Notebook_strike : Nat := 27
abbrev m_Notebook_knownBy : Nat := 28
abbrev m_Notebook_settle : Nat := 29
abbrev m_Notebook_tellsOf : Nat := 30
abbrev m_Notebook_isSo : Nat := 31
abbrev m_Notebook_houseOf : Nat := 32
abbrev m_Past_init : Nat := 33
abbrev m_Past_push : Nat := 34
abbrev m_Past_dropFirst : Nat := 35
abbrev m_Past_popInto : Nat := 36
abbrev m_Plan_init : Nat := 37
abbrev m_Plan_empty : Nat := 38
abbrev m_Questions_init : Nat := 39
abbrev m_Questions_bestWalk : Nat := 40
abbrev m_Questions_rightHouses : Nat := 41
abbrev m_Questions_stepsOf : Nat := 42
abbrev m_Questions_fewestToWash : Nat := 43
abbrev m_Questions_airWithout : Nat := 44
abbrev m_Questions_fittingSet : Nat := 45
abbrev m_Questions_airOf : Nat := 46
abbrev m_Questions_leastDish : Nat := 47
abbrev m_Questions_yearsSmelled : Nat := 48
abbrev m_Questions_isSmelled : Nat := 49
abbrev m_Questions_restingDishes : Nat := 50
abbrev m_Questions_priceDishes : Nat := 51
abbrev m_Questions_isRest : Nat := 52
abbrev m_Questions_seatsOf : Nat := 53
abbrev m_Questions_kindsThatFit : Nat := 54
abbrev m_Questions_isAllSo : Nat := 55
abbrev m_Questions_timesPaid : Nat := 56
abbrev m_Questions_countsOtherwise : Nat := 57
abbrev m_Reader_init : Nat := 58
abbrev m_Reader_reads : Nat := 59
abbrev m_Reader_fail : Nat := 60
abbrev m_Reader_take : Nat := 61
abbrev m_Reader_line : Nat := 62
abbrev m_Reader_houseLine : Nat := 63
abbrev m_Reader_personLine : Nat := 64
abbrev m_Reader_coatLine : Nat := 65
abbrev m_Reader_dishLine : Nat := 66
abbrev m_Reader_dogLine : Nat := 67
abbrev m_Reader_numberLine : Nat := 68
abbrev m_Reader_begin : Nat := 69
abbrev m_Reader_takeNewName : Nat := 70
abbrev m_Reader_takeSmell : Nat := 71
abbrev m_Reader_isHouseTold : Nat := 72
abbrev m_Reader_takeNumber : Nat := 73
abbrev m_Reader_isNumber : Nat := 74
abbrev m_Reader_lawLine : Nat := 75
abbrev m_Reader_takeKnot : Nat := 76
abbrev m_Reader_alternatives : Nat := 77
abbrev m_Reader_conditions : Nat := 78
abbrev m_Reader_condition : Nat := 79
abbrev m_Reader_comparison : Nat := 80
abbrev m_Reader_sum : Nat := 81
abbrev m_Reader_product : Nat := 82
abbrev m_Reader_part : Nat := 83
abbrev m_Reader_enclosed : Nat := 84
abbrev m_Tokens_init : Nat := 85
abbrev m_Tokens_start : Nat := 86
abbrev m_Tokens_next : Nat := 87
abbrev m_Tokens_nextWord : Nat := 88
abbrev m_Tokens_nextNumber : Nat := 89
abbrev m_Tokens_signOf : Nat := 90
abbrev m_Tokens_joinSign : Nat := 91
abbrev m_Town_init : Nat := 92
abbrev m_Town_become : Nat := 93
abbrev m_Town_empty : Nat := 94
abbrev m_Town_addPerson : Nat := 95
abbrev m_Town_addCoat : Nat := 96
abbrev m_Town_addDog : Nat := 97
abbrev m_Town_peopleIn : Nat := 98
abbrev m_Town_coatsLeft : Nat := 99
abbrev m_Town_isClean : Nat := 100
abbrev m_Town_setClean : Nat := 101
abbrev m_Town_paidInAll : Nat := 102
abbrev m_Town_passYear : Nat := 103
abbrev m_Face_init : Nat := 104
abbrev m_Face_feed : Nat := 105
abbrev m_Face_putFour : Nat := 106
abbrev m_Face_text : Nat := 107
abbrev m_Face_fault : Nat := 108
abbrev m_Face_named : Nat := 109
abbrev m_Face_person : Nat := 110
abbrev m_Face_house : Nat := 111
abbrev m_Face_coat : Nat := 112
abbrev m_Face_dog : Nat := 113
abbrev m_Face_air : Nat := 114
abbrev m_Face_smells : Nat := 115
abbrev m_Face_law : Nat := 116
abbrev m_Face_move : Nat := 117
abbrev m_Face_wash : Nat := 118
abbrev m_Face_hang : Nat := 119
abbrev m_Face_cook : Nat := 120
abbrev m_Face_send : Nat := 121
abbrev m_Face_blow : Nat := 122
abbrev m_Face_years : Nat := 123
abbrev m_Face_walk : Nat := 124
abbrev m_Face_washed : Nat := 125
abbrev m_Face_who : Nat := 126
abbrev m_Face_set : Nat := 127
abbrev m_Face_share : Nat := 128
abbrev m_Face_greatestDivisor : Nat := 129
abbrev m_Face_ghosts : Nat := 130
abbrev m_Face_wrong : Nat := 131
abbrev m_Face_hide : Nat := 132
abbrev m_Face_keeps : Nat := 133
abbrev m_Face_rests : Nat := 134
abbrev m_Face_rest : Nat := 135
abbrev m_Face_canCook : Nat := 136
abbrev m_Face_seats : Nat := 137
abbrev m_Face_note : Nat := 138
abbrev m_Face_out : Nat := 139
abbrev m_Face_known : Nat := 140
abbrev m_Face_sort : Nat := 141
abbrev m_Face_chance : Nat := 142
abbrev m_Face_tried : Nat := 143
abbrev m_Face_undo : Nat := 144
abbrev m_Face_keep : Nat := 145
abbrev m_Face_back : Nat := 146
abbrev m_Face_count : Nat := 147
abbrev m_Face_isHouse : Nat := 148
abbrev m_Face_isPerson : Nat := 149
abbrev m_Face_isCoat : Nat := 150
abbrev m_Face_isDog : Nat := 151
abbrev m_Face_isKind : Nat := 152
abbrev m_Face_hasCount : Nat := 153
abbrev m_Model_init : Nat := 154
abbrev m_Model_thrown : Nat := 155
abbrev m_Model_feed : Nat := 156
abbrev m_Model_here : Nat := 157
abbrev m_Model_isSmall : Nat := 158
abbrev m_Model_isDigit : Nat := 159
abbrev m_Model_token : Nat := 160
abbrev m_Model_sign : Nat := 161
abbrev m_Model_word : Nat := 162
abbrev m_Model_name : Nat := 163
abbrev m_Model_faults : Nat := 164
abbrev m_Model_isWord : Nat := 165
abbrev m_Model_isSign : Nat := 166
abbrev m_Model_goOn : Nat := 167
abbrev m_Model_numeral : Nat := 168
abbrev m_Model_found : Nat := 169
abbrev m_Model_fresh : Nat := 170
abbrev m_Model_fresher : Nat := 171
abbrev m_Model_reads : Nat := 172
abbrev m_Model_houseAtHand : Nat := 173
abbrev m_Model_houseAhead : Nat := 174
abbrev m_Model_isFull : Nat := 175
abbrev m_Model_line : Nat := 176
abbrev m_Model_dishLine : Nat := 177
abbrev m_Model_lawLine : Nat := 178
abbrev m_Model_puts : Nat := 179
abbrev m_Model_knot : Nat := 180
abbrev m_Model_expression : Nat := 181
abbrev m_Model_conjunction : Nat := 182
abbrev m_Model_negation : Nat := 183
abbrev m_Model_sum : Nat := 184
abbrev m_Model_product : Nat := 185
abbrev m_Model_primary : Nat := 186
abbrev m_Model_half : Nat := 187
abbrev m_Model_text : Nat := 188
abbrev m_Model_fault : Nat := 189
abbrev m_Model_named : Nat := 190
abbrev m_Model_is : Nat := 191
abbrev m_Model_works : Nat := 192
abbrev m_Model_goes : Nat := 193
abbrev m_Model_hasLaw : Nat := 194
abbrev m_Model_starts : Nat := 195
abbrev m_Model_begins : Nat := 196
abbrev m_Model_copies : Nat := 197
abbrev m_Model_isHouse : Nat := 198
abbrev m_Model_isPerson : Nat := 199
abbrev m_Model_isDog : Nat := 200
abbrev m_Model_isSort : Nat := 201
abbrev m_Model_kindIn : Nat := 202
abbrev m_Model_dishIn : Nat := 203
abbrev m_Model_calls : Nat := 204
abbrev m_Model_smellOf : Nat := 205
abbrev m_Model_isSmelled : Nat := 206
abbrev m_Model_dueOf : Nat := 207
abbrev m_Model_isAbout : Nat := 208
abbrev m_Model_layAir : Nat := 209
abbrev m_Model_smelledBy : Nat := 210
abbrev m_Model_bitsOf : Nat := 211
abbrev m_Model_countOf : Nat := 212
abbrev m_Model_trueOf : Nat := 213
abbrev m_Model_countsAll : Nat := 214
abbrev m_Model_passes : Nat := 215
abbrev m_Model_paidAll : Nat := 216
abbrev m_Model_person : Nat := 217
abbrev m_Model_house : Nat := 218
abbrev m_Model_coat : Nat := 219
abbrev m_Model_dog : Nat := 220
abbrev m_Model_air : Nat := 221
abbrev m_Model_smells : Nat := 222
abbrev m_Model_law : Nat := 223
abbrev m_Model_keepNow : Nat := 224
abbrev m_Model_move : Nat := 225
abbrev m_Model_wash : Nat := 226
abbrev m_Model_hang : Nat := 227
abbrev m_Model_cook : Nat := 228
abbrev m_Model_send : Nat := 229
abbrev m_Model_blow : Nat := 230
abbrev m_Model_years : Nat := 231
abbrev m_Model_layWalk : Nat := 232
abbrev m_Model_walk : Nat := 233
abbrev m_Model_washed : Nat := 234
abbrev m_Model_smelledOf : Nat := 235
abbrev m_Model_setOf : Nat := 236
abbrev m_Model_who : Nat := 237
abbrev m_Model_set : Nat := 238
abbrev m_Model_common : Nat := 239
abbrev m_Model_share : Nat := 240
abbrev m_Model_ghosts : Nat := 241
abbrev m_Model_wrong : Nat := 242
abbrev m_Model_hide : Nat := 243
abbrev m_Model_keeps : Nat := 244
abbrev m_Model_layCooks : Nat := 245
abbrev m_Model_isRest : Nat := 246
abbrev m_Model_restOf : Nat := 247
abbrev m_Model_areCooks : Nat := 248
abbrev m_Model_rests : Nat := 249
abbrev m_Model_rest : Nat := 250
abbrev m_Model_seats : Nat := 251
abbrev m_Model_note : Nat := 252
abbrev m_Model_out : Nat := 253
abbrev m_Model_known : Nat := 254
abbrev m_Model_knownMany : Nat := 255
abbrev m_Model_isSo : Nat := 256
abbrev m_Model_fitsSort : Nat := 257
abbrev m_Model_sort : Nat := 258
abbrev m_Model_chance : Nat := 259
abbrev m_Model_tried : Nat := 260
abbrev m_Model_undo : Nat := 261
abbrev m_Model_keep : Nat := 262
abbrev m_Model_back : Nat := 263
abbrev m_Model_count : Nat := 264
abbrev m_Integer_bitCount : Nat := 265
abbrev m_Math_absL : Nat := 266
abbrev m_Math_max : Nat := 267
abbrev m_Math_maxL : Nat := 268
abbrev m_Math_min : Nat := 269
abbrev m_Math_minL : Nat := 270
def ax_wl : List (List Cond) := [k2_sels lw_privs, tables_1_1, tables_1_2, tables_1_3, tables_1_4, tables_1_5, tables_1_6, tables_1_7, tables_1_8, tables_1_9]
def ax_wd (q : Nat × Nat) : Option Cond := (ax_wl.getD q.1 [])[q.2]?
def ax_gw : List Cond := lw_tbl.filter goodWord
theorem ax_wd_mem {q : Nat × Nat} {w : Cond} (h : ax_wd q = some w) : w ∈ lw_tbl := by
  unfold ax_wd at h
  have hm := List.mem_of_getElem? h
  have hx : ∀ l ∈ ax_wl, ∀ x ∈ l, x ∈ lw_tbl := by
    unfold ax_wl lw_tbl tables_1
    simp only [List.mem_cons, List.mem_append, forall_eq_or_imp, List.not_mem_nil, false_or, or_false]
    refine ⟨fun x h => ?_, fun x h => ?_, fun x h => ?_, fun x h => ?_, fun x h => ?_, fun x h => ?_, fun x h => ?_, fun x h => ?_, fun x h => ?_, ?_⟩
    all_goals first | (simp only [h, true_or, or_true]; done) | (intro l hl x hx; subst hl; simp only [hx, or_true]; done) | skip
  by_cases hq : q.1 < ax_wl.length
  · exact hx _ (by rw [List.getD_eq_getElem?_getD, List.getElem?_eq_getElem hq]; exact List.getElem_mem hq) w hm
  · rw [List.getD_eq_getElem?_getD, List.getElem?_eq_none (by omega)] at hm
    simp at hm
def ax_wk (q : Nat × Nat) (w : Cond) : Bool := decide (ax_wd q = some w) && goodWord w
theorem ax_wk_mem {q : Nat × Nat} {w : Cond} (h : ax_wk q w = true) : w ∈ ax_gw := by
  unfold ax_wk at h
  simp only [Bool.and_eq_true, decide_eq_true_eq] at h
  exact List.mem_filter.mpr ⟨ax_wd_mem h.1, h.2⟩
abbrev ax_FT : Type := Nat × Nat × Nat × Nat × (Nat × Nat)
def ax_FL0 : List ax_FT := [(9, 46, 9, 0, (1, 45)), (2, 26, 9, 0, (1, 46)), (6, 53, 9, 0, (1, 47)), (7, 88, 9, 0, (1, 48)), (10, 279, 9, 0, (1, 49)), (9, 9, 9, 1, (1, 50)), (2, 70, 9, 1, (1, 51)), (4, 46, 9, 1, (1, 52)), (10, 172, 9, 1, (1, 53)), (6, 124, 9, 1, (1, 54)), (7, 141, 9, 1, (1, 55)), (9, 15, 9, 2, (1, 56)), (10, 178, 9, 2, (1, 57)), (2, 136, 9, 2, (1, 58)), (9, 49, 9, 3, (1, 59)), (2, 32, 9, 3, (1, 60)), (6, 77, 9, 3, (1, 61)), (7, 104, 9, 3, (1, 62)), (10, 324, 9, 3, (1, 63)), (9, 18, 9, 4, (1, 64)), (2, 35, 9, 4, (1, 65)), (4, 34, 9, 4, (1, 66)), (6, 80, 9, 4, (1, 67)), (10, 146, 9, 4, (1, 68)), (9, 21, 9, 5, (1, 69)), (2, 46, 9, 5, (1, 70)), (6, 104, 9, 5, (1, 71)), (10, 149, 9, 5, (1, 72)), (9, 24, 9, 6, (1, 73)), (2, 67, 9, 6, (1, 74)), (10, 152, 9, 6, (1, 75)), (9, 61, 9, 7, (1, 76)), (6, 210, 9, 7, (1, 77)), (10, 340, 9, 7, (1, 78)), (9, 52, 9, 8, (1, 79)), (2, 49, 9, 8, (1, 80)), (4, 43, 9, 8, (1, 81)), (7, 125, 9, 8, (1, 82)), (10, 241, 9, 8, (1, 83)), (6, 207, 9, 8, (1, 84)), (9, 27, 9, 9, (1, 85)), (2, 52, 9, 9, (1, 86)), (10, 191, 9, 9, (1, 87)), (6, 133, 9, 9, (1, 88)), (9, 30, 9, 10, (1, 89))]
def ax_FL1 : List ax_FT := [(2, 55, 9, 10, (1, 90)), (10, 194, 9, 10, (1, 91)), (6, 130, 9, 10, (1, 92)), (9, 33, 9, 11, (1, 93)), (2, 58, 9, 11, (1, 94)), (10, 197, 9, 11, (1, 95)), (9, 55, 9, 12, (1, 96)), (7, 145, 9, 12, (1, 97)), (2, 110, 9, 12, (1, 98)), (6, 143, 9, 12, (1, 99)), (10, 329, 9, 12, (1, 100)), (9, 36, 9, 13, (1, 101)), (6, 46, 9, 13, (1, 102)), (4, 49, 9, 13, (1, 103)), (2, 99, 9, 13, (1, 104)), (10, 203, 9, 13, (1, 105)), (9, 39, 9, 14, (1, 106)), (2, 96, 9, 14, (1, 107)), (10, 206, 9, 14, (1, 108)), (9, 58, 9, 15, (1, 109)), (2, 64, 9, 15, (1, 110)), (4, 52, 9, 15, (1, 111)), (7, 160, 9, 15, (1, 112)), (6, 197, 9, 15, (1, 113)), (10, 247, 9, 15, (1, 114)), (9, 42, 9, 16, (1, 115)), (7, 163, 9, 16, (1, 116)), (2, 130, 9, 16, (1, 117)), (9, 64, 9, 17, (1, 118)), (2, 73, 9, 17, (1, 119)), (10, 250, 9, 17, (1, 120)), (0, 9, 0, 0, (1, 165)), (0, 32, 0, 1, (1, 166)), (7, 194, 0, 1, (1, 167)), (10, 331, 0, 1, (1, 168)), (0, 15, 0, 2, (1, 169)), (7, 191, 0, 2, (1, 170)), (0, 18, 0, 3, (1, 171)), (7, 200, 0, 3, (1, 172)), (0, 21, 0, 4, (1, 173)), (7, 186, 0, 4, (1, 174)), (0, 25, 0, 5, (1, 175)), (0, 29, 0, 6, (1, 176)), (1, 9, 1, 0, (1, 200)), (1, 15, 1, 1, (1, 201))]
def ax_FL2 : List ax_FT := [(5, 49, 1, 1, (1, 202)), (5, 12, 5, 0, (1, 208)), (10, 92, 5, 0, (1, 209)), (7, 85, 5, 0, (1, 210)), (5, 21, 5, 1, (1, 211)), (10, 19, 5, 1, (1, 212)), (7, 182, 5, 1, (1, 213)), (5, 28, 5, 2, (1, 214)), (7, 97, 5, 2, (1, 215)), (10, 119, 5, 2, (1, 216)), (5, 32, 5, 3, (1, 217)), (10, 129, 5, 3, (1, 218)), (7, 107, 5, 3, (1, 219)), (5, 35, 5, 4, (1, 220)), (10, 132, 5, 4, (1, 221)), (7, 148, 5, 4, (1, 222)), (5, 38, 5, 5, (1, 223)), (7, 134, 5, 5, (1, 224)), (5, 42, 5, 6, (1, 225)), (7, 154, 5, 6, (1, 226)), (2, 18, 2, 0, (2, 10)), (10, 99, 2, 0, (2, 11)), (2, 22, 2, 1, (2, 12)), (6, 41, 2, 1, (2, 13)), (2, 9, 2, 2, (2, 14)), (6, 107, 2, 2, (2, 15)), (10, 161, 2, 2, (2, 16)), (2, 15, 2, 3, (2, 17)), (6, 95, 2, 3, (2, 18)), (10, 212, 2, 3, (2, 19)), (8, 11, 8, 0, (2, 90)), (8, 15, 8, 1, (2, 91)), (8, 30, 8, 2, (2, 92)), (8, 33, 8, 3, (2, 93)), (7, 46, 8, 4, (2, 94)), (8, 42, 8, 4, (2, 95)), (7, 57, 8, 5, (2, 96)), (8, 39, 8, 5, (2, 97)), (8, 61, 8, 6, (2, 98)), (7, 181, 8, 6, (2, 99)), (8, 58, 8, 7, (2, 100)), (7, 166, 8, 7, (2, 101)), (7, 33, 7, 0, (2, 120)), (10, 110, 7, 0, (2, 121)), (7, 36, 7, 1, (2, 122))]
def ax_FL3 : List ax_FT := [(10, 113, 7, 1, (2, 123)), (7, 9, 7, 2, (2, 124)), (10, 116, 7, 2, (2, 125)), (7, 20, 7, 3, (2, 126)), (7, 24, 7, 4, (2, 127)), (7, 39, 7, 5, (2, 128)), (7, 112, 7, 6, (2, 129)), (7, 115, 7, 7, (2, 130)), (7, 118, 7, 8, (2, 131)), (4, 21, 4, 0, (2, 157)), (10, 100, 4, 0, (2, 158)), (4, 9, 4, 1, (2, 159)), (4, 15, 4, 2, (2, 160)), (4, 18, 4, 3, (2, 161)), (3, 38, 3, 0, (2, 177)), (10, 304, 3, 0, (2, 178)), (3, 11, 3, 1, (2, 179)), (10, 308, 3, 1, (2, 180)), (3, 15, 3, 2, (2, 181)), (6, 171, 3, 2, (2, 182)), (3, 18, 3, 3, (2, 183)), (3, 22, 3, 4, (2, 184)), (3, 25, 3, 5, (2, 185)), (3, 28, 3, 6, (2, 186)), (3, 32, 3, 7, (2, 187)), (3, 35, 3, 8, (2, 188)), (6, 113, 6, 0, (2, 216)), (10, 270, 6, 0, (2, 217)), (6, 37, 6, 1, (2, 218)), (6, 12, 6, 2, (2, 219)), (6, 18, 6, 3, (2, 220)), (6, 22, 6, 4, (2, 221)), (6, 25, 6, 5, (2, 222)), (6, 28, 6, 6, (2, 223)), (6, 31, 6, 7, (2, 224)), (6, 34, 6, 8, (2, 225)), (10, 26, 10, 0, (3, 5)), (10, 80, 10, 1, (3, 6)), (10, 35, 10, 2, (3, 7)), (10, 39, 10, 3, (3, 8)), (10, 43, 10, 4, (3, 9)), (10, 46, 10, 5, (3, 10)), (10, 50, 10, 6, (3, 11)), (10, 106, 10, 7, (3, 12)), (10, 56, 10, 8, (3, 13))]
def ax_FL4 : List ax_FT := [(10, 63, 10, 9, (3, 14)), (10, 67, 10, 10, (3, 15)), (10, 76, 10, 11, (3, 16)), (11, 157, 11, 0, (6, 48)), (11, 7, 11, 1, (6, 49)), (11, 160, 11, 2, (6, 50)), (11, 13, 11, 3, (6, 51)), (11, 16, 11, 4, (6, 52)), (11, 19, 11, 5, (6, 53)), (11, 22, 11, 6, (6, 54)), (11, 25, 11, 7, (6, 55)), (11, 28, 11, 8, (6, 56)), (11, 31, 11, 9, (6, 57)), (11, 34, 11, 10, (6, 58)), (11, 37, 11, 11, (6, 59)), (11, 40, 11, 12, (6, 60)), (11, 43, 11, 13, (6, 61)), (11, 46, 11, 14, (6, 62)), (11, 49, 11, 15, (6, 63)), (11, 52, 11, 16, (6, 64)), (11, 55, 11, 17, (6, 65)), (11, 58, 11, 18, (6, 66)), (11, 61, 11, 19, (6, 67)), (11, 240, 11, 20, (6, 68)), (11, 267, 11, 21, (6, 69)), (11, 166, 11, 22, (6, 70)), (11, 163, 11, 23, (6, 71)), (11, 173, 11, 24, (6, 72)), (11, 176, 11, 25, (6, 73)), (11, 186, 11, 26, (6, 74)), (11, 211, 11, 27, (6, 75)), (11, 214, 11, 28, (6, 76)), (11, 306, 11, 29, (6, 77)), (11, 64, 11, 30, (6, 78)), (11, 300, 11, 31, (6, 79)), (11, 273, 11, 32, (6, 80)), (11, 68, 11, 33, (6, 81)), (11, 72, 11, 34, (6, 82)), (11, 323, 11, 35, (6, 83)), (11, 75, 11, 36, (6, 84)), (11, 78, 11, 37, (6, 85)), (11, 81, 11, 38, (6, 86)), (11, 84, 11, 39, (6, 87)), (11, 87, 11, 40, (6, 88)), (11, 90, 11, 41, (6, 89))]
def ax_FL5 : List ax_FT := [(11, 93, 11, 42, (6, 90)), (11, 96, 11, 43, (6, 91)), (11, 99, 11, 44, (6, 92)), (11, 102, 11, 45, (6, 93)), (11, 105, 11, 46, (6, 94)), (11, 316, 11, 47, (6, 95)), (11, 320, 11, 48, (6, 96)), (11, 349, 11, 49, (6, 97)), (11, 108, 11, 50, (6, 98)), (11, 111, 11, 51, (6, 99)), (11, 346, 11, 52, (6, 100)), (11, 114, 11, 53, (6, 101)), (11, 117, 11, 54, (6, 102)), (11, 441, 11, 55, (6, 103)), (11, 444, 11, 56, (6, 104)), (11, 436, 11, 57, (6, 105)), (11, 120, 11, 58, (6, 106)), (11, 123, 11, 59, (6, 107)), (11, 126, 11, 60, (6, 108)), (11, 129, 11, 61, (6, 109)), (11, 313, 11, 62, (6, 110)), (11, 132, 11, 63, (6, 111)), (11, 135, 11, 64, (6, 112)), (11, 138, 11, 65, (6, 113)), (11, 141, 11, 66, (6, 114)), (11, 144, 11, 67, (6, 115)), (11, 148, 11, 68, (6, 116)), (11, 151, 11, 69, (6, 117))]
def ax_FL : List ax_FT := ax_FL0 ++ (ax_FL1 ++ (ax_FL2 ++ (ax_FL3 ++ (ax_FL4 ++ (ax_FL5)))))
def ax_fc (q : ax_FT) : Bool := match ax_cl[q.2.2.1]? with
  | none => false
  | some r => ax_wk q.2.2.2.2 (.fieldLink (ax_cn.getD q.1 "") q.2.1 r.1 (r.2.1 q.2.2.2.1).2.1 (r.2.1 q.2.2.2.1).2.2.1) && decide (q.2.2.2.1 < r.2.2) && decide ((r.2.1 q.2.2.2.1).1 = r.1)
theorem ax_FL0_ok : ax_FL0.all ax_fc = true := by decide +kernel
theorem ax_FL1_ok : ax_FL1.all ax_fc = true := by decide +kernel
theorem ax_FL2_ok : ax_FL2.all ax_fc = true := by decide +kernel
theorem ax_FL3_ok : ax_FL3.all ax_fc = true := by decide +kernel
theorem ax_FL4_ok : ax_FL4.all ax_fc = true := by decide +kernel
theorem ax_FL5_ok : ax_FL5.all ax_fc = true := by decide +kernel
theorem ax_FL_ok : ∀ q ∈ ax_FL, ax_fc q = true := by
  unfold ax_FL
  simp only [List.mem_append]
  intro q hq
  rcases hq with h | h | h | h | h | h
  · exact List.all_eq_true.mp ax_FL0_ok q h
  · exact List.all_eq_true.mp ax_FL1_ok q h
  · exact List.all_eq_true.mp ax_FL2_ok q h
  · exact List.all_eq_true.mp ax_FL3_ok q h
  · exact List.all_eq_true.mp ax_FL4_ok q h
  · exact List.all_eq_true.mp ax_FL5_ok q h
abbrev ax_MT : Type := Nat × Nat × Nat × Nat × Nat × (Nat × Nat) × (Nat × Nat) × (Nat × Nat) × (Nat × Nat)
def ax_ML0 : List ax_MT := [(12, 17, 2, 104, 0, (1, 27), (1, 28), (1, 28), (1, 1)), (10, 23, 2, 9, 2, (2, 6), (2, 7), (2, 7), (1, 6)), (10, 32, 2, 58, 2, (2, 31), (2, 32), (2, 32), (1, 7)), (7, 17, 2, 85, 1, (2, 37), (2, 38), (2, 38), (1, 8)), (10, 73, 2, 39, 1, (2, 210), (2, 211), (2, 211), (1, 15)), (12, 21, 0, 105, 5, (3, 42), (3, 43), (3, 44), (1, 1)), (10, 84, 0, 106, 1, (3, 46), (3, 48), (0, 0), (1, 1)), (12, 26, 0, 107, 1, (3, 50), (3, 51), (3, 52), (1, 1)), (10, 88, 0, 59, 2, (3, 54), (3, 55), (3, 56), (1, 7)), (7, 28, 0, 38, 0, (3, 58), (3, 59), (3, 60), (1, 2)), (5, 45, 0, 94, 0, (3, 62), (3, 63), (3, 64), (1, 3)), (5, 48, 0, 1, 0, (3, 66), (3, 67), (3, 68), (1, 4)), (7, 42, 0, 86, 1, (3, 70), (3, 71), (3, 72), (1, 8)), (8, 36, 0, 87, 0, (3, 74), (3, 75), (3, 76), (1, 8)), (8, 45, 0, 88, 0, (3, 78), (3, 80), (0, 1), (1, 8)), (8, 48, 0, 89, 0, (3, 82), (3, 84), (0, 2), (1, 8)), (8, 51, 1, 90, 1, (3, 87), (3, 88), (3, 88), (1, 8)), (8, 55, 0, 91, 0, (3, 90), (3, 92), (0, 3), (1, 8)), (7, 49, 0, 62, 0, (3, 94), (3, 96), (0, 4), (1, 7)), (7, 64, 0, 63, 0, (3, 98), (3, 100), (0, 5), (1, 7)), (7, 93, 0, 69, 2, (3, 102), (3, 104), (0, 6), (1, 7)), (7, 58, 0, 60, 1, (3, 106), (3, 108), (0, 7), (1, 7)), (7, 61, 0, 87, 0, (3, 110), (3, 75), (3, 76), (1, 8)), (7, 100, 0, 70, 1, (3, 111), (3, 113), (0, 8), (1, 7)), (7, 169, 0, 7, 1, (3, 115), (3, 116), (3, 117), (1, 5)), (7, 175, 0, 8, 1, (3, 119), (3, 120), (3, 121), (1, 5)), (7, 67, 0, 64, 0, (3, 123), (3, 125), (0, 9), (1, 7)), (7, 109, 0, 71, 0, (3, 127), (3, 129), (0, 10), (1, 7)), (7, 131, 0, 72, 0, (3, 131), (3, 133), (0, 11), (1, 7)), (7, 138, 0, 73, 2, (3, 135), (3, 137), (0, 12), (1, 7)), (7, 178, 0, 74, 2, (3, 139), (3, 141), (0, 13), (1, 7)), (7, 121, 0, 95, 3, (3, 143), (3, 144), (3, 145), (1, 3)), (7, 70, 0, 65, 0, (3, 147), (3, 149), (0, 14), (1, 7)), (7, 128, 0, 96, 3, (3, 151), (3, 152), (3, 153), (1, 3)), (7, 73, 0, 66, 0, (3, 155), (3, 157), (0, 15), (1, 7)), (7, 76, 0, 67, 0, (3, 159), (3, 161), (0, 16), (1, 7)), (7, 150, 0, 97, 2, (3, 163), (3, 164), (3, 165), (1, 3)), (7, 79, 0, 68, 0, (3, 167), (3, 169), (0, 17), (1, 7)), (7, 82, 0, 75, 0, (3, 173), (3, 175), (0, 18), (1, 7)), (7, 197, 0, 77, 1, (3, 177), (3, 179), (0, 19), (1, 7))]
def ax_ML1 : List ax_MT := [(7, 203, 0, 78, 1, (3, 181), (3, 183), (0, 20), (1, 7)), (7, 210, 0, 79, 1, (3, 185), (3, 187), (0, 21), (1, 7)), (7, 206, 0, 76, 0, (3, 189), (3, 191), (0, 22), (1, 7)), (7, 213, 0, 80, 1, (3, 193), (3, 195), (0, 23), (1, 7)), (7, 216, 0, 81, 1, (3, 197), (3, 199), (0, 24), (1, 7)), (7, 219, 0, 82, 1, (3, 201), (3, 203), (0, 25), (1, 7)), (7, 222, 0, 83, 1, (3, 205), (3, 207), (0, 26), (1, 7)), (7, 225, 0, 84, 1, (3, 209), (3, 211), (0, 27), (1, 7)), (7, 53, 0, 61, 1, (3, 213), (3, 215), (0, 28), (1, 7)), (7, 209, 0, 2, 1, (3, 217), (3, 218), (3, 219), (1, 4)), (10, 95, 0, 93, 1, (3, 221), (3, 222), (3, 223), (1, 3)), (10, 103, 0, 25, 0, (3, 228), (3, 229), (3, 230), (1, 14)), (12, 31, 0, 108, 1, (3, 232), (3, 233), (3, 234), (1, 1)), (12, 35, 0, 109, 2, (3, 236), (3, 237), (3, 238), (1, 1)), (10, 123, 0, 7, 1, (4, 0), (3, 116), (3, 117), (1, 5)), (12, 49, 0, 111, 2, (4, 1), (4, 2), (4, 3), (1, 1)), (10, 169, 0, 148, 1, (4, 5), (4, 7), (0, 29), (1, 1)), (10, 175, 0, 98, 1, (4, 9), (4, 10), (4, 11), (1, 3)), (10, 158, 0, 10, 1, (4, 13), (4, 14), (4, 15), (1, 6)), (2, 38, 0, 13, 2, (4, 17), (4, 18), (4, 19), (1, 6)), (2, 86, 0, 12, 2, (4, 21), (4, 22), (4, 23), (1, 6)), (2, 76, 0, 3, 7, (4, 25), (4, 26), (4, 27), (1, 4)), (2, 82, 0, 4, 1, (4, 29), (4, 30), (4, 31), (1, 4)), (0, 38, 1, 5, 3, (4, 34), (4, 35), (4, 35), (1, 4)), (2, 92, 1, 14, 2, (4, 40), (4, 41), (4, 41), (1, 6)), (2, 42, 0, 100, 1, (4, 43), (4, 44), (4, 45), (1, 3)), (2, 61, 0, 11, 2, (4, 47), (4, 48), (4, 49), (1, 6)), (10, 181, 0, 19, 1, (4, 51), (4, 52), (4, 53), (1, 6)), (2, 106, 0, 17, 4, (4, 55), (4, 56), (4, 57), (1, 6)), (2, 102, 0, 15, 4, (4, 59), (4, 60), (4, 61), (1, 6)), (2, 113, 1, 265, 1, (4, 63), (4, 64), (4, 64), (1, 24)), (2, 119, 1, 267, 2, (4, 69), (4, 70), (4, 70), (1, 23)), (10, 184, 0, 22, 2, (4, 72), (4, 73), (4, 74), (1, 6)), (2, 127, 0, 21, 2, (4, 76), (4, 77), (4, 78), (1, 6)), (12, 53, 0, 112, 2, (4, 80), (4, 81), (4, 82), (1, 1)), (10, 188, 0, 150, 1, (4, 84), (4, 86), (0, 30), (1, 1)), (12, 57, 0, 113, 2, (4, 88), (4, 89), (4, 90), (1, 1)), (10, 200, 0, 151, 1, (4, 92), (4, 94), (0, 31), (1, 1)), (12, 61, 0, 114, 2, (4, 96), (4, 97), (4, 98), (1, 1)), (10, 209, 1, 152, 1, (4, 100), (4, 101), (4, 101), (1, 1))]
def ax_ML2 : List ax_MT := [(12, 65, 0, 115, 2, (4, 103), (4, 104), (4, 105), (1, 1)), (10, 215, 0, 18, 2, (4, 107), (4, 108), (4, 109), (1, 6)), (12, 69, 0, 116, 3, (4, 111), (4, 112), (4, 113), (1, 1)), (10, 135, 0, 149, 1, (4, 115), (4, 117), (0, 32), (1, 1)), (10, 218, 0, 12, 2, (4, 119), (4, 22), (4, 23), (1, 6)), (10, 224, 0, 16, 2, (4, 121), (4, 122), (4, 123), (1, 6)), (10, 227, 0, 153, 1, (4, 125), (4, 127), (0, 33), (1, 1)), (10, 230, 0, 21, 2, (4, 129), (4, 77), (4, 78), (1, 6)), (12, 74, 0, 117, 2, (4, 130), (4, 131), (4, 132), (1, 1)), (10, 233, 0, 34, 3, (4, 134), (4, 135), (4, 136), (1, 13)), (4, 25, 0, 35, 0, (4, 138), (4, 140), (0, 34), (1, 13)), (12, 79, 0, 118, 2, (4, 143), (4, 144), (4, 145), (1, 1)), (10, 155, 0, 100, 1, (4, 147), (4, 44), (4, 45), (1, 3)), (10, 237, 0, 101, 2, (4, 148), (4, 149), (4, 150), (1, 3)), (12, 84, 0, 119, 3, (4, 152), (4, 153), (4, 154), (1, 1)), (10, 244, 0, 96, 3, (4, 156), (3, 152), (3, 153), (1, 3)), (12, 89, 0, 120, 2, (4, 157), (4, 158), (4, 159), (1, 1)), (12, 93, 0, 121, 2, (4, 161), (4, 162), (4, 163), (1, 1)), (12, 97, 0, 122, 1, (4, 165), (4, 166), (4, 167), (1, 1)), (12, 102, 0, 123, 1, (4, 169), (4, 170), (4, 171), (1, 1)), (10, 253, 0, 23, 0, (4, 173), (4, 174), (4, 175), (1, 6)), (2, 124, 0, 19, 1, (4, 177), (4, 52), (4, 53), (1, 6)), (2, 133, 0, 22, 2, (4, 178), (4, 73), (4, 74), (1, 6)), (10, 257, 0, 103, 0, (4, 179), (4, 180), (4, 181), (1, 3)), (12, 106, 0, 124, 3, (4, 183), (4, 184), (4, 185), (1, 1)), (10, 260, 0, 40, 3, (4, 187), (4, 188), (4, 189), (1, 15)), (6, 49, 0, 41, 1, (4, 191), (4, 193), (0, 35), (1, 15)), (6, 66, 0, 18, 2, (4, 195), (4, 108), (4, 109), (1, 6)), (6, 57, 1, 265, 1, (4, 196), (4, 64), (4, 64), (1, 24)), (6, 69, 0, 98, 1, (4, 197), (4, 10), (4, 11), (1, 3)), (6, 62, 1, 42, 2, (4, 198), (4, 199), (4, 199), (1, 15)), (6, 72, 1, 269, 2, (4, 201), (4, 202), (4, 202), (1, 23)), (12, 110, 0, 125, 3, (4, 204), (4, 205), (4, 206), (1, 1)), (10, 264, 0, 43, 3, (4, 208), (4, 209), (4, 210), (1, 15)), (6, 83, 0, 100, 1, (4, 212), (4, 44), (4, 45), (1, 3)), (6, 87, 0, 44, 2, (4, 213), (4, 215), (0, 36), (1, 15)), (6, 91, 0, 17, 4, (4, 218), (4, 56), (4, 57), (1, 6)), (12, 114, 0, 126, 2, (4, 219), (4, 220), (4, 221), (1, 1)), (10, 267, 0, 45, 3, (4, 223), (4, 224), (4, 225), (1, 15)), (6, 110, 0, 13, 2, (4, 227), (4, 18), (4, 19), (1, 6))]
def ax_ML3 : List ax_MT := [(6, 116, 0, 46, 1, (4, 228), (4, 230), (0, 37), (1, 15)), (12, 118, 0, 127, 3, (4, 232), (4, 233), (4, 234), (1, 1)), (12, 122, 0, 128, 3, (4, 236), (4, 237), (4, 238), (1, 1)), (10, 273, 0, 11, 2, (5, 0), (4, 48), (4, 49), (1, 6)), (10, 276, 1, 129, 2, (5, 1), (5, 2), (5, 2), (1, 1)), (12, 126, 0, 130, 0, (5, 4), (5, 5), (5, 6), (1, 1)), (12, 130, 0, 131, 0, (5, 8), (5, 9), (5, 10), (1, 1)), (12, 134, 0, 132, 2, (5, 12), (5, 13), (5, 14), (1, 1)), (10, 281, 0, 47, 3, (5, 16), (5, 17), (5, 18), (1, 15)), (6, 120, 0, 93, 1, (5, 20), (3, 222), (3, 223), (1, 3)), (6, 127, 0, 10, 1, (5, 21), (4, 14), (4, 15), (1, 6)), (12, 138, 0, 133, 1, (5, 22), (5, 23), (5, 24), (1, 1)), (10, 285, 0, 48, 2, (5, 26), (5, 27), (5, 28), (1, 15)), (6, 136, 0, 49, 2, (5, 30), (5, 32), (0, 38), (1, 15)), (6, 140, 0, 103, 0, (5, 34), (4, 180), (4, 181), (1, 3)), (12, 142, 0, 134, 2, (5, 35), (5, 36), (5, 37), (1, 1)), (10, 289, 0, 136, 2, (5, 39), (5, 41), (0, 39), (1, 1)), (10, 293, 0, 50, 4, (5, 43), (5, 44), (5, 45), (1, 15)), (6, 146, 0, 51, 3, (5, 47), (5, 49), (0, 40), (1, 15)), (6, 153, 0, 19, 1, (5, 51), (4, 52), (4, 53), (1, 6)), (6, 156, 0, 22, 2, (5, 52), (4, 73), (4, 74), (1, 6)), (6, 150, 0, 52, 1, (5, 53), (5, 55), (0, 41), (1, 15)), (12, 146, 0, 135, 3, (5, 57), (5, 58), (5, 59), (1, 1)), (12, 150, 0, 137, 2, (5, 61), (5, 62), (5, 63), (1, 1)), (10, 297, 0, 53, 2, (5, 65), (5, 66), (5, 67), (1, 15)), (6, 159, 1, 267, 2, (5, 69), (4, 70), (4, 70), (1, 23)), (12, 154, 0, 138, 4, (5, 70), (5, 71), (5, 72), (1, 1)), (10, 300, 0, 26, 4, (5, 74), (5, 75), (5, 76), (1, 14)), (12, 159, 0, 139, 1, (5, 78), (5, 79), (5, 80), (1, 1)), (10, 305, 0, 27, 1, (5, 82), (5, 83), (5, 84), (1, 14)), (12, 163, 0, 140, 1, (5, 86), (5, 87), (5, 88), (1, 1)), (12, 167, 0, 141, 1, (5, 90), (5, 91), (5, 92), (1, 1)), (10, 311, 0, 54, 3, (5, 94), (5, 95), (5, 96), (1, 15)), (6, 162, 0, 29, 0, (5, 98), (5, 99), (5, 100), (1, 14)), (3, 41, 0, 28, 0, (5, 102), (5, 103), (5, 104), (1, 14)), (3, 45, 1, 267, 2, (5, 106), (4, 70), (4, 70), (1, 23)), (6, 167, 0, 55, 1, (5, 107), (5, 109), (0, 42), (1, 15)), (6, 174, 0, 28, 0, (5, 111), (5, 103), (5, 104), (1, 14)), (6, 178, 0, 30, 2, (5, 112), (5, 113), (5, 114), (1, 14)), (6, 181, 0, 32, 1, (5, 116), (5, 117), (5, 118), (1, 14))]
def ax_ML4 : List ax_MT := [(6, 184, 0, 31, 2, (5, 120), (5, 121), (5, 122), (1, 14)), (12, 171, 0, 142, 3, (5, 124), (5, 125), (5, 126), (1, 1)), (10, 315, 0, 56, 4, (5, 128), (5, 129), (5, 130), (1, 15)), (6, 200, 0, 23, 0, (5, 137), (4, 174), (4, 175), (1, 6)), (12, 175, 0, 143, 2, (5, 138), (5, 139), (5, 140), (1, 1)), (10, 318, 0, 57, 3, (5, 142), (5, 143), (5, 144), (1, 15)), (6, 203, 0, 101, 2, (5, 146), (4, 149), (4, 150), (1, 3)), (6, 213, 0, 20, 0, (5, 147), (5, 148), (5, 149), (1, 6)), (12, 179, 0, 144, 0, (5, 151), (5, 152), (5, 153), (1, 1)), (10, 321, 0, 36, 1, (5, 155), (5, 156), (5, 157), (1, 13)), (4, 39, 0, 101, 2, (5, 159), (4, 149), (4, 150), (1, 3)), (12, 183, 0, 145, 0, (5, 160), (5, 161), (5, 162), (1, 1)), (12, 187, 0, 146, 0, (5, 164), (5, 165), (5, 166), (1, 1)), (12, 191, 0, 147, 1, (5, 168), (5, 169), (5, 170), (1, 1)), (10, 326, 0, 99, 0, (5, 172), (5, 173), (5, 174), (1, 3)), (10, 334, 0, 20, 0, (5, 176), (5, 148), (5, 149), (1, 6)), (10, 337, 0, 102, 0, (5, 177), (5, 178), (5, 179), (1, 3)), (10, 343, 1, 265, 1, (5, 181), (4, 64), (4, 64), (1, 24)), (10, 348, 0, 28, 0, (5, 182), (5, 103), (5, 104), (1, 14)), (12, 7, 0, 110, 2, (5, 188), (5, 189), (5, 190), (1, 1)), (12, 20, 2, 154, 0, (6, 36), (6, 37), (6, 37), (1, 16)), (11, 154, 0, 196, 0, (6, 40), (6, 42), (0, 44), (1, 16)), (11, 343, 0, 195, 1, (6, 44), (6, 46), (0, 45), (1, 16)), (12, 45, 0, 155, 0, (7, 19), (7, 20), (7, 21), (1, 16)), (12, 25, 0, 156, 5, (7, 23), (7, 24), (7, 25), (1, 16)), (12, 30, 0, 188, 1, (7, 27), (7, 28), (7, 29), (1, 16)), (11, 247, 0, 172, 2, (7, 31), (7, 33), (0, 46), (1, 16)), (11, 217, 0, 160, 0, (7, 35), (7, 37), (0, 47), (1, 16)), (11, 169, 0, 157, 0, (7, 39), (7, 41), (0, 48), (1, 16)), (11, 179, 1, 158, 1, (7, 43), (7, 44), (7, 44), (1, 16)), (11, 183, 0, 162, 0, (7, 46), (7, 48), (0, 49), (1, 16)), (11, 189, 0, 163, 0, (7, 53), (7, 55), (0, 50), (1, 16)), (11, 192, 1, 159, 1, (7, 57), (7, 58), (7, 58), (1, 16)), (11, 196, 0, 161, 1, (7, 61), (7, 63), (0, 51), (1, 16)), (11, 303, 0, 176, 0, (7, 65), (7, 67), (0, 52), (1, 16)), (11, 220, 0, 164, 1, (7, 69), (7, 71), (0, 53), (1, 16)), (11, 237, 0, 175, 1, (7, 73), (7, 75), (0, 54), (1, 16)), (11, 227, 0, 171, 1, (7, 77), (7, 79), (0, 55), (1, 16)), (11, 243, 0, 170, 3, (7, 81), (7, 83), (0, 56), (1, 16)), (11, 223, 1, 169, 4, (7, 85), (7, 86), (7, 86), (1, 16))]
def ax_ML5 : List ax_MT := [(11, 251, 0, 174, 0, (7, 88), (7, 90), (0, 57), (1, 16)), (11, 231, 0, 173, 0, (7, 92), (7, 94), (0, 58), (1, 16)), (11, 234, 0, 167, 0, (7, 96), (7, 98), (0, 59), (1, 16)), (11, 254, 0, 168, 2, (7, 100), (7, 102), (0, 60), (1, 16)), (11, 258, 0, 177, 0, (7, 104), (7, 106), (0, 61), (1, 16)), (11, 261, 0, 178, 0, (7, 108), (7, 110), (0, 62), (1, 16)), (11, 270, 0, 181, 0, (7, 112), (7, 114), (0, 63), (1, 16)), (11, 276, 0, 182, 0, (7, 116), (7, 118), (0, 64), (1, 16)), (11, 288, 0, 183, 0, (7, 120), (7, 122), (0, 65), (1, 16)), (11, 279, 0, 165, 1, (7, 124), (7, 126), (0, 66), (1, 16)), (11, 282, 0, 180, 0, (7, 128), (7, 130), (0, 67), (1, 16)), (11, 285, 0, 179, 2, (7, 132), (7, 134), (0, 68), (1, 16)), (11, 291, 0, 184, 0, (7, 136), (7, 138), (0, 69), (1, 16)), (11, 294, 0, 185, 0, (7, 140), (7, 142), (0, 70), (1, 16)), (11, 297, 0, 186, 0, (7, 144), (7, 146), (0, 71), (1, 16)), (11, 264, 0, 166, 1, (7, 148), (7, 150), (0, 72), (1, 16)), (11, 309, 1, 187, 1, (7, 152), (7, 153), (7, 153), (1, 16)), (12, 34, 0, 189, 1, (7, 155), (7, 156), (7, 157), (1, 16)), (12, 38, 0, 190, 2, (7, 159), (7, 160), (7, 161), (1, 16)), (12, 44, 0, 217, 2, (7, 163), (7, 164), (7, 165), (1, 16)), (11, 408, 0, 199, 1, (7, 167), (7, 169), (0, 73), (1, 16)), (11, 383, 0, 205, 3, (7, 171), (7, 173), (0, 74), (1, 16)), (11, 355, 0, 202, 1, (7, 175), (7, 177), (0, 75), (1, 16)), (11, 358, 0, 204, 6, (7, 179), (7, 181), (0, 76), (1, 16)), (11, 352, 0, 203, 2, (7, 183), (7, 185), (0, 77), (1, 16)), (11, 362, 0, 194, 1, (7, 187), (7, 189), (0, 78), (1, 16)), (11, 365, 0, 193, 1, (7, 191), (7, 193), (0, 79), (1, 16)), (11, 340, 0, 192, 1, (7, 195), (7, 197), (0, 80), (1, 16)), (11, 326, 1, 191, 1, (7, 199), (7, 200), (7, 200), (1, 16)), (11, 330, 1, 266, 1, (7, 202), (7, 203), (7, 203), (1, 23)), (11, 370, 1, 270, 2, (7, 208), (7, 209), (7, 209), (1, 23)), (11, 374, 1, 268, 2, (7, 211), (7, 212), (7, 212), (1, 23)), (12, 52, 0, 218, 2, (7, 214), (7, 215), (7, 216), (1, 16)), (11, 411, 0, 198, 1, (7, 218), (7, 220), (0, 81), (1, 16)), (11, 399, 0, 209, 1, (7, 222), (7, 224), (0, 82), (1, 16)), (11, 379, 0, 208, 2, (7, 226), (7, 228), (0, 83), (1, 16)), (11, 402, 0, 212, 2, (7, 230), (7, 232), (0, 84), (1, 16)), (11, 391, 0, 210, 3, (7, 234), (7, 236), (0, 85), (1, 16)), (11, 387, 0, 206, 5, (7, 238), (8, 0), (0, 86), (1, 16)), (11, 394, 1, 211, 1, (8, 2), (8, 3), (8, 3), (1, 16))]
def ax_ML6 : List ax_MT := [(11, 397, 1, 267, 2, (8, 5), (4, 70), (4, 70), (1, 23)), (11, 414, 0, 213, 2, (8, 6), (8, 8), (0, 87), (1, 16)), (11, 405, 0, 207, 3, (8, 10), (8, 12), (0, 88), (1, 16)), (12, 56, 0, 219, 2, (8, 15), (8, 16), (8, 17), (1, 16)), (12, 60, 0, 220, 2, (8, 19), (8, 20), (8, 21), (1, 16)), (11, 417, 0, 200, 1, (8, 23), (8, 25), (0, 89), (1, 16)), (12, 64, 0, 221, 2, (8, 27), (8, 28), (8, 29), (1, 16)), (11, 420, 1, 201, 1, (8, 31), (8, 32), (8, 32), (1, 16)), (12, 68, 0, 222, 2, (8, 34), (8, 35), (8, 36), (1, 16)), (12, 73, 0, 223, 3, (8, 38), (8, 39), (8, 40), (1, 16)), (12, 78, 0, 225, 2, (8, 43), (8, 44), (8, 45), (1, 16)), (11, 430, 0, 224, 0, (8, 47), (8, 49), (0, 90), (1, 16)), (11, 427, 0, 197, 2, (8, 51), (8, 53), (0, 91), (1, 16)), (12, 83, 0, 226, 2, (8, 55), (8, 56), (8, 57), (1, 16)), (12, 88, 0, 227, 3, (8, 59), (8, 60), (8, 61), (1, 16)), (12, 92, 0, 228, 2, (8, 63), (8, 64), (8, 65), (1, 16)), (12, 96, 0, 229, 2, (8, 67), (8, 68), (8, 69), (1, 16)), (12, 101, 0, 230, 1, (8, 71), (8, 72), (8, 73), (1, 16)), (12, 105, 0, 231, 1, (8, 75), (8, 76), (8, 77), (1, 16)), (11, 433, 0, 215, 1, (8, 79), (8, 81), (0, 92), (1, 16)), (12, 109, 0, 233, 3, (8, 83), (8, 84), (8, 85), (1, 16)), (11, 447, 0, 232, 2, (8, 87), (8, 89), (0, 93), (1, 16)), (11, 439, 1, 269, 2, (8, 91), (4, 202), (4, 202), (1, 23)), (12, 113, 0, 234, 3, (8, 92), (8, 93), (8, 94), (1, 16)), (12, 117, 0, 237, 2, (8, 96), (8, 97), (8, 98), (1, 16)), (11, 453, 0, 236, 3, (8, 100), (8, 102), (0, 94), (1, 16)), (11, 450, 0, 235, 3, (8, 104), (8, 106), (0, 95), (1, 16)), (12, 121, 0, 238, 3, (8, 108), (8, 109), (8, 110), (1, 16)), (12, 125, 0, 240, 3, (8, 112), (8, 113), (8, 114), (1, 16)), (11, 456, 1, 239, 2, (8, 116), (8, 117), (8, 117), (1, 16)), (12, 129, 0, 241, 0, (8, 119), (8, 120), (8, 121), (1, 16)), (12, 133, 0, 242, 0, (8, 123), (8, 124), (8, 125), (1, 16)), (12, 137, 0, 243, 2, (8, 127), (8, 128), (8, 129), (1, 16)), (12, 141, 0, 244, 1, (8, 131), (8, 132), (8, 133), (1, 16)), (12, 145, 0, 249, 2, (8, 135), (8, 136), (8, 137), (1, 16)), (11, 462, 0, 248, 2, (8, 139), (8, 141), (0, 96), (1, 16)), (11, 465, 0, 245, 2, (8, 143), (8, 145), (0, 97), (1, 16)), (11, 468, 0, 247, 1, (8, 147), (8, 149), (0, 98), (1, 16)), (11, 459, 0, 246, 2, (8, 151), (8, 153), (0, 99), (1, 16)), (12, 149, 0, 250, 3, (8, 155), (8, 156), (8, 157), (1, 16))]
def ax_ML7 : List ax_MT := [(12, 153, 0, 251, 2, (8, 159), (8, 160), (8, 161), (1, 16)), (12, 158, 0, 252, 4, (8, 163), (8, 164), (8, 165), (1, 16)), (12, 162, 0, 253, 1, (8, 167), (8, 168), (8, 169), (1, 16)), (12, 166, 0, 254, 1, (8, 171), (8, 172), (8, 173), (1, 16)), (12, 170, 0, 258, 1, (8, 175), (8, 176), (8, 177), (1, 16)), (11, 471, 0, 255, 0, (8, 179), (8, 181), (0, 100), (1, 16)), (11, 477, 0, 257, 1, (8, 183), (8, 185), (0, 101), (1, 16)), (11, 474, 0, 256, 1, (8, 187), (8, 189), (0, 102), (1, 16)), (12, 174, 0, 259, 3, (8, 191), (8, 192), (8, 193), (1, 16)), (11, 484, 0, 216, 1, (8, 197), (8, 199), (0, 103), (1, 16)), (12, 178, 0, 260, 2, (8, 201), (8, 202), (8, 203), (1, 16)), (11, 487, 0, 214, 1, (8, 205), (8, 207), (0, 104), (1, 16)), (12, 182, 0, 261, 0, (8, 209), (8, 210), (8, 211), (1, 16)), (12, 186, 0, 262, 0, (8, 213), (8, 214), (8, 215), (1, 16)), (12, 190, 0, 263, 0, (8, 217), (8, 218), (8, 219), (1, 16)), (12, 194, 0, 264, 1, (8, 221), (8, 222), (8, 223), (1, 16))]
def ax_ML : List ax_MT := ax_ML0 ++ (ax_ML1 ++ (ax_ML2 ++ (ax_ML3 ++ (ax_ML4 ++ (ax_ML5 ++ (ax_ML6 ++ (ax_ML7)))))))
def ax_mc (q : ax_MT) : Bool := let y := (ax_mu q.2.2.2.1).1
  ax_wk q.2.2.2.2.2.1 (.methodLink (ax_cn.getD q.1 "") q.2.1 y) && ax_wk q.2.2.2.2.2.2.2.2 (.initialized y.cls) && decide (y.cls ≠ "java/lang/invoke/MethodHandle" ∧ y.cls ≠ "java/lang/invoke/VarHandle" ∧ (parseMethodDescriptor y.desc).map (fun d => d.parameters.length) = some q.2.2.2.2.1) && decide ((ax_mu q.2.2.2.1).2.2.1 ≤ 21) && decide (q.2.2.2.1 < ax_mt.length) &&
  (match q.2.2.1 with
   | 0 => ax_wk q.2.2.2.2.2.2.1 (.instanceMethod y) && ax_wk q.2.2.2.2.2.2.2.1 (.selects y.cls y y) && decide ((ax_cl[(ax_mu q.2.2.2.1).2.2.2.2.1]?).map (fun r => r.1) = some y.cls) && decide ((ax_mu q.2.2.2.1).2.2.2.2.2 = (0, 0))
   | 1 => ax_wk q.2.2.2.2.2.2.1 (.static y) && decide ((ax_mu q.2.2.2.1).2.2.2.2.2 = (0, 0))
   | _ => ax_wk q.2.2.2.2.2.2.1 (.instanceMethod y) && decide (y.name = "<init>") && decide ((ax_mu q.2.2.2.1).2.2.2.1 = none))
theorem ax_ML0_ok : ax_ML0.all ax_mc = true := by decide +kernel
theorem ax_ML1_ok : ax_ML1.all ax_mc = true := by decide +kernel
theorem ax_ML2_ok : ax_ML2.all ax_mc = true := by decide +kernel
theorem ax_ML3_ok : ax_ML3.all ax_mc = true := by decide +kernel
theorem ax_ML4_ok : ax_ML4.all ax_mc = true := by decide +kernel
theorem ax_ML5_ok : ax_ML5.all ax_mc = true := by decide +kernel
theorem ax_ML6_ok : ax_ML6.all ax_mc = true := by decide +kernel
theorem ax_ML7_ok : ax_ML7.all ax_mc = true := by decide +kernel
theorem ax_ML_ok : ∀ q ∈ ax_ML, ax_mc q = true := by
  unfold ax_ML
  simp only [List.mem_append]
  intro q hq
  rcases hq with h | h | h | h | h | h | h | h
  · exact List.all_eq_true.mp ax_ML0_ok q h
  · exact List.all_eq_true.mp ax_ML1_ok q h
  · exact List.all_eq_true.mp ax_ML2_ok q h
  · exact List.all_eq_true.mp ax_ML3_ok q h
  · exact List.all_eq_true.mp ax_ML4_ok q h
  · exact List.all_eq_true.mp ax_ML5_ok q h
  · exact List.all_eq_true.mp ax_ML6_ok q h
  · exact List.all_eq_true.mp ax_ML7_ok q h
def ax_cw0 : List (Nat × Nat) := [(1, 163), (3, 69), (3, 220), (4, 28), (4, 32), (4, 36), (1, 198), (3, 118), (3, 122), (2, 8), (4, 16), (4, 50), (4, 24), (4, 20), (4, 42), (4, 62), (4, 124), (4, 58), (4, 110), (4, 54), (5, 150), (4, 79), (4, 75), (4, 176), (2, 175), (3, 231), (5, 77), (5, 85), (5, 105), (5, 101), (5, 115), (5, 123), (5, 119), (2, 155), (4, 137), (4, 141), (5, 158), (1, 37), (3, 61), (2, 212), (4, 190), (4, 194), (4, 200), (4, 211), (4, 216), (4, 226), (4, 231), (5, 19), (5, 29), (5, 33), (5, 46), (5, 50), (5, 56), (5, 68), (5, 97), (5, 110), (5, 131), (5, 145), (2, 33), (3, 57), (3, 109), (3, 216), (3, 97), (3, 101), (3, 126), (3, 150), (3, 158), (3, 162), (3, 170), (3, 105)]
set_option maxRecDepth 100000 in
theorem ax_cw0_ok : ax_cw0.map ax_wd = ax_mt0.map (fun u => some (Cond.code u.1 u.2.1 u.2.2.1 u.2.2.2.1)) := rfl
def ax_cw1 : List (Nat × Nat) := [(3, 114), (3, 130), (3, 134), (3, 138), (3, 142), (3, 176), (3, 192), (3, 180), (3, 184), (3, 188), (3, 196), (3, 200), (3, 204), (3, 208), (3, 212), (2, 39), (3, 73), (3, 77), (3, 81), (3, 85), (3, 89), (3, 93), (1, 43), (3, 224), (3, 65), (3, 146), (3, 154), (3, 166), (4, 12), (5, 175), (4, 46), (4, 151), (5, 180), (4, 182), (1, 29), (3, 45), (3, 49), (3, 53), (3, 235), (3, 239), (5, 191), (4, 4), (4, 83), (4, 91), (4, 99), (4, 106), (4, 114), (4, 133), (4, 146), (4, 155), (4, 160), (4, 164), (4, 168), (4, 172), (4, 186), (4, 207), (4, 222), (4, 235), (4, 239), (5, 3), (5, 7), (5, 11), (5, 15), (5, 25), (5, 38), (5, 60), (5, 42), (5, 64), (5, 73), (5, 81)]
set_option maxRecDepth 100000 in
theorem ax_cw1_ok : ax_cw1.map ax_wd = ax_mt1.map (fun u => some (Cond.code u.1 u.2.1 u.2.2.1 u.2.2.2.1)) := rfl
def ax_cw2 : List (Nat × Nat) := [(5, 89), (5, 93), (5, 127), (5, 141), (5, 154), (5, 163), (5, 167), (5, 171), (4, 8), (4, 118), (4, 87), (4, 95), (4, 102), (4, 128), (6, 38), (7, 22), (7, 26), (7, 42), (7, 45), (7, 59), (7, 38), (7, 64), (7, 49), (7, 56), (7, 72), (7, 127), (7, 151), (7, 99), (7, 103), (7, 87), (7, 84), (7, 80), (7, 34), (7, 95), (7, 91), (7, 76), (7, 68), (7, 107), (7, 111), (7, 135), (7, 131), (7, 115), (7, 119), (7, 123), (7, 139), (7, 143), (7, 147), (7, 154), (7, 30), (7, 158), (7, 162), (7, 201), (7, 198), (7, 194), (7, 190), (6, 47), (6, 43), (8, 54), (7, 221), (7, 170), (8, 26), (8, 33), (7, 178), (7, 186), (7, 182), (7, 174), (8, 1), (8, 13), (7, 229), (7, 225)]
set_option maxRecDepth 100000 in
theorem ax_cw2_ok : ax_cw2.map ax_wd = ax_mt2.map (fun u => some (Cond.code u.1 u.2.1 u.2.2.1 u.2.2.2.1)) := rfl
def ax_cw3 : List (Nat × Nat) := [(7, 237), (8, 4), (7, 233), (8, 9), (8, 208), (8, 82), (8, 200), (7, 166), (7, 217), (8, 18), (8, 22), (8, 30), (8, 37), (8, 41), (8, 50), (8, 46), (8, 58), (8, 62), (8, 66), (8, 70), (8, 74), (8, 78), (8, 90), (8, 86), (8, 95), (8, 107), (8, 103), (8, 99), (8, 111), (8, 118), (8, 115), (8, 122), (8, 126), (8, 130), (8, 134), (8, 146), (8, 154), (8, 150), (8, 142), (8, 138), (8, 158), (8, 162), (8, 166), (8, 170), (8, 174), (8, 182), (8, 190), (8, 186), (8, 178), (8, 194), (8, 204), (8, 212), (8, 216), (8, 220), (8, 224), (4, 65), (7, 204), (4, 71), (7, 213), (4, 203), (7, 210)]
set_option maxRecDepth 100000 in
theorem ax_cw3_ok : ax_cw3.map ax_wd = ax_mt3.map (fun u => some (Cond.code u.1 u.2.1 u.2.2.1 u.2.2.2.1)) := rfl
theorem ax_cwx {ps : List (Nat × Nat)} {us : List ax_U} (h : ps.map ax_wd = us.map (fun u => some (Cond.code u.1 u.2.1 u.2.2.1 u.2.2.2.1))) : ∀ u ∈ us, Cond.code u.1 u.2.1 u.2.2.1 u.2.2.2.1 ∈ lw_tbl := by
  intro u hu
  have h1 : some (Cond.code u.1 u.2.1 u.2.2.1 u.2.2.2.1) ∈ us.map (fun u => some (Cond.code u.1 u.2.1 u.2.2.1 u.2.2.2.1)) := List.mem_map.mpr ⟨u, hu, rfl⟩
  rw [← h] at h1
  obtain ⟨q, -, hq⟩ := List.mem_map.mp h1
  exact ax_wd_mem hq
theorem ax_code {u : ax_U} (hu : u ∈ ax_mt) : Cond.code u.1 u.2.1 u.2.2.1 u.2.2.2.1 ∈ ax_gw := by
  refine List.mem_filter.mpr ⟨?_, rfl⟩
  unfold ax_mt at hu
  simp only [List.mem_append] at hu
  rcases hu with h | h | h | h
  · exact ax_cwx ax_cw0_ok u h
  · exact ax_cwx ax_cw1_ok u h
  · exact ax_cwx ax_cw2_ok u h
  · exact ax_cwx ax_cw3_ok u h
theorem ax_mu_mem {mi : Nat} (h : mi < ax_mt.length) : ax_mu mi ∈ ax_mt := by
  unfold ax_mu
  rw [List.getD_eq_getElem?_getD, List.getElem?_eq_getElem h]
  exact List.getElem_mem h
abbrev ax_NT : Type := Nat × Nat × Nat × (Nat × Nat) × (Nat × Nat) × (Nat × Nat)
def ax_NL : List ax_NT := [(12, 8, 10, (1, 25), (1, 26), (1, 1)), (10, 11, 5, (1, 33), (1, 34), (1, 2)), (5, 9, 9, (1, 39), (1, 40), (1, 3)), (5, 18, 0, (1, 159), (1, 160), (1, 4)), (5, 25, 1, (1, 194), (1, 195), (1, 5)), (10, 14, 9, (2, 2), (1, 40), (1, 3)), (10, 17, 2, (2, 4), (2, 5), (1, 6)), (10, 30, 7, (2, 29), (2, 30), (1, 7)), (7, 15, 8, (2, 35), (2, 36), (1, 8)), (10, 53, 4, (2, 151), (2, 152), (1, 13)), (10, 60, 3, (2, 171), (2, 172), (1, 14)), (10, 71, 6, (2, 208), (2, 209), (1, 15)), (6, 9, 9, (2, 214), (1, 40), (1, 3)), (12, 18, 11, (6, 34), (6, 35), (1, 16))]
def ax_nc (q : ax_NT) : Bool := match ax_cl[q.2.2.1]? with
  | none => false
  | some r => ax_wk q.2.2.2.1 (.classLink (ax_cn.getD q.1 "") q.2.1 r.1) && ax_wk q.2.2.2.2.1 (.instantiable r.1 r.2.2) && ax_wk q.2.2.2.2.2 (.initialized r.1)
theorem ax_NL_ok : ax_NL.all ax_nc = true := by decide +kernel
def ax_ly0 : List (Nat × Nat) := [(1, 177), (1, 179), (1, 181), (1, 183), (1, 185), (1, 187), (1, 189)]
theorem ax_ly0_ok : ((ax_ly0.zip (u_ws RX0 TX0 7)).all (fun x => ax_wk x.1 x.2) && decide (ax_ly0.length = (u_ws RX0 TX0 7).length)) = true := by decide +kernel
def ax_ly1 : List (Nat × Nat) := [(1, 203), (1, 205)]
theorem ax_ly1_ok : ((ax_ly1.zip (u_ws RX1 TX1 2)).all (fun x => ax_wk x.1 x.2) && decide (ax_ly1.length = (u_ws RX1 TX1 2).length)) = true := by decide +kernel
def ax_ly2 : List (Nat × Nat) := [(2, 20), (2, 22), (2, 24), (2, 26)]
theorem ax_ly2_ok : ((ax_ly2.zip (u_ws RX2 TX2 4)).all (fun x => ax_wk x.1 x.2) && decide (ax_ly2.length = (u_ws RX2 TX2 4).length)) = true := by decide +kernel
def ax_ly3 : List (Nat × Nat) := [(2, 189), (2, 191), (2, 193), (2, 195), (2, 197), (2, 199), (2, 201), (2, 203), (2, 205)]
theorem ax_ly3_ok : ((ax_ly3.zip (u_ws RX3 TX3 9)).all (fun x => ax_wk x.1 x.2) && decide (ax_ly3.length = (u_ws RX3 TX3 9).length)) = true := by decide +kernel
def ax_ly4 : List (Nat × Nat) := [(2, 162), (2, 164), (2, 166), (2, 168)]
theorem ax_ly4_ok : ((ax_ly4.zip (u_ws RX4 TX4 4)).all (fun x => ax_wk x.1 x.2) && decide (ax_ly4.length = (u_ws RX4 TX4 4).length)) = true := by decide +kernel
def ax_ly5 : List (Nat × Nat) := [(1, 227), (1, 229), (1, 231), (1, 233), (1, 235), (1, 237), (1, 239)]
theorem ax_ly5_ok : ((ax_ly5.zip (u_ws RX5 TX5 7)).all (fun x => ax_wk x.1 x.2) && decide (ax_ly5.length = (u_ws RX5 TX5 7).length)) = true := by decide +kernel
def ax_ly6 : List (Nat × Nat) := [(2, 226), (2, 228), (2, 230), (2, 232), (2, 234), (2, 236), (2, 238), (3, 0), (3, 2)]
theorem ax_ly6_ok : ((ax_ly6.zip (u_ws RX6 TX6 9)).all (fun x => ax_wk x.1 x.2) && decide (ax_ly6.length = (u_ws RX6 TX6 9).length)) = true := by decide +kernel
def ax_ly7 : List (Nat × Nat) := [(2, 132), (2, 134), (2, 136), (2, 138), (2, 140), (2, 142), (2, 144), (2, 146), (2, 148)]
theorem ax_ly7_ok : ((ax_ly7.zip (u_ws RX7 TX7 9)).all (fun x => ax_wk x.1 x.2) && decide (ax_ly7.length = (u_ws RX7 TX7 9).length)) = true := by decide +kernel
def ax_ly8 : List (Nat × Nat) := [(2, 102), (2, 104), (2, 106), (2, 108), (2, 110), (2, 112), (2, 114), (2, 116)]
theorem ax_ly8_ok : ((ax_ly8.zip (u_ws RX8 TX8 8)).all (fun x => ax_wk x.1 x.2) && decide (ax_ly8.length = (u_ws RX8 TX8 8).length)) = true := by decide +kernel
def ax_ly9 : List (Nat × Nat) := [(1, 121), (1, 123), (1, 125), (1, 127), (1, 129), (1, 131), (1, 133), (1, 135), (1, 137), (1, 139), (1, 141), (1, 143), (1, 145), (1, 147), (1, 149), (1, 151), (1, 153), (1, 155)]
theorem ax_ly9_ok : ((ax_ly9.zip (u_ws RX9 TX9 18)).all (fun x => ax_wk x.1 x.2) && decide (ax_ly9.length = (u_ws RX9 TX9 18).length)) = true := by decide +kernel
def ax_ly10 : List (Nat × Nat) := [(3, 17), (3, 19), (3, 21), (3, 23), (3, 25), (3, 27), (3, 29), (3, 31), (3, 33), (3, 35), (3, 37), (3, 39)]
theorem ax_ly10_ok : ((ax_ly10.zip (u_ws RX10 TX10 12)).all (fun x => ax_wk x.1 x.2) && decide (ax_ly10.length = (u_ws RX10 TX10 12).length)) = true := by decide +kernel
def ax_ly11 : List (Nat × Nat) := [(6, 118), (6, 120), (6, 122), (6, 124), (6, 126), (6, 128), (6, 130), (6, 132), (6, 134), (6, 136), (6, 138), (6, 140), (6, 142), (6, 144), (6, 146), (6, 148), (6, 150), (6, 152), (6, 154), (6, 156), (6, 158), (6, 160), (6, 162), (6, 164), (6, 166), (6, 168), (6, 170), (6, 172), (6, 174), (6, 176), (6, 178), (6, 180), (6, 182), (6, 184), (6, 186), (6, 188), (6, 190), (6, 192), (6, 194), (6, 196), (6, 198), (6, 200), (6, 202), (6, 204), (6, 206), (6, 208), (6, 210), (6, 212), (6, 214), (6, 216), (6, 218), (6, 220), (6, 222), (6, 224), (6, 226), (6, 228), (6, 230), (6, 232), (6, 234), (6, 236), (6, 238), (7, 0), (7, 2), (7, 4), (7, 6), (7, 8), (7, 10), (7, 12), (7, 14), (7, 16)]
theorem ax_ly11_ok : ((ax_ly11.zip (u_ws RX11 TX11 70)).all (fun x => ax_wk x.1 x.2) && decide (ax_ly11.length = (u_ws RX11 TX11 70).length)) = true := by decide +kernel
theorem ax_lyx {ps : List (Nat × Nat)} {ws : List Cond} (h : ((ps.zip ws).all (fun x => ax_wk x.1 x.2) && decide (ps.length = ws.length)) = true) : ∀ w ∈ ws, w ∈ ax_gw := by
  simp only [Bool.and_eq_true, decide_eq_true_eq, List.all_eq_true] at h
  intro w hw
  obtain ⟨i, hi, rfl⟩ := List.getElem_of_mem hw
  have hp : i < ps.length := by omega
  have hz : (ps[i], ws[i]) ∈ ps.zip ws := by
    refine List.mem_of_getElem? (i := i) ?_
    rw [List.getElem?_zip_eq_some]
    exact ⟨List.getElem?_eq_getElem hp, List.getElem?_eq_getElem hi⟩
  exact ax_wk_mem (h.1 _ hz)
theorem ax_lay {c : Nat} {r : vw_C} (h : ax_cl[c]? = some r) : ∀ w ∈ u_ws r.1 r.2.1 r.2.2, w ∈ ax_gw := by
  match c, h with
  | 0, h => cases h; exact ax_lyx ax_ly0_ok
  | 1, h => cases h; exact ax_lyx ax_ly1_ok
  | 2, h => cases h; exact ax_lyx ax_ly2_ok
  | 3, h => cases h; exact ax_lyx ax_ly3_ok
  | 4, h => cases h; exact ax_lyx ax_ly4_ok
  | 5, h => cases h; exact ax_lyx ax_ly5_ok
  | 6, h => cases h; exact ax_lyx ax_ly6_ok
  | 7, h => cases h; exact ax_lyx ax_ly7_ok
  | 8, h => cases h; exact ax_lyx ax_ly8_ok
  | 9, h => cases h; exact ax_lyx ax_ly9_ok
  | 10, h => cases h; exact ax_lyx ax_ly10_ok
  | 11, h => cases h; exact ax_lyx ax_ly11_ok
  | c + 12, h => simp [ax_cl] at h
theorem ax_tyo {c : Nat} {r : vw_C} (h : ax_cl[c]? = some r) : ∀ k, k < r.2.2 → parseFieldDescriptor (r.2.1 k).2.2.1 = some (ax_ty c k) := by
  match c, h with
  | 0, h => cases h; exact tyX0_ok
  | 1, h => cases h; exact tyX1_ok
  | 2, h => cases h; exact tyX2_ok
  | 3, h => cases h; exact tyX3_ok
  | 4, h => cases h; exact tyX4_ok
  | 5, h => cases h; exact tyX5_ok
  | 6, h => cases h; exact tyX6_ok
  | 7, h => cases h; exact tyX7_ok
  | 8, h => cases h; exact tyX8_ok
  | 9, h => cases h; exact tyX9_ok
  | 10, h => cases h; exact tyX10_ok
  | 11, h => cases h; exact tyX11_ok
  | c + 12, h => simp [ax_cl] at h
theorem ax_nmo {c : Nat} {r : vw_C} (h : ax_cl[c]? = some r) : ∀ a, a < r.2.2 → ∀ b, b < r.2.2 → a ≠ b → (r.2.1 a).2.1 ≠ (r.2.1 b).2.1 := by
  match c, h with
  | 0, h => cases h; exact nmX0
  | 1, h => cases h; exact nmX1
  | 2, h => cases h; exact nmX2
  | 3, h => cases h; exact nmX3
  | 4, h => cases h; exact nmX4
  | 5, h => cases h; exact nmX5
  | 6, h => cases h; exact nmX6
  | 7, h => cases h; exact nmX7
  | 8, h => cases h; exact nmX8
  | 9, h => cases h; exact nmX9
  | 10, h => cases h; exact nmX10
  | 11, h => cases h; exact nmX11
  | c + 12, h => simp [ax_cl] at h
