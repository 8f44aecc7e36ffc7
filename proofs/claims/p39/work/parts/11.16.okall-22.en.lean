section
/-! all of them -/
theorem sm_ok_0 : ∀ M ∈ sm_prog_0, sm_OK sm_P M := List.forall_mem_cons.mpr ⟨ok_X0_answer, List.forall_mem_cons.mpr ⟨ok_X0_answered, List.forall_mem_cons.mpr ⟨ok_X0_answersOf, List.forall_mem_cons.mpr ⟨ok_X0_countLeft, List.forall_mem_cons.mpr ⟨ok_X0_countStates, List.forall_mem_cons.mpr ⟨ok_X0_firstQuestion, List.forall_mem_cons.mpr ⟨ok_X0_init, List.forall_mem_cons.mpr ⟨ok_X0_isLeft, List.forall_mem_cons.mpr ⟨ok_X0_leftWith, List.forall_mem_cons.mpr ⟨ok_X0_neededWith, List.forall_mem_cons.mpr ⟨ok_X0_spread, List.forall_mem_cons.mpr ⟨ok_X0_workOut, List.forall_mem_cons.mpr ⟨ok_X10_addPart, List.forall_mem_cons.mpr ⟨ok_X10_addPath, List.forall_mem_cons.mpr ⟨ok_X10_addSaying, List.forall_mem_cons.mpr ⟨ok_X10_allBits, fun _ h => absurd h List.not_mem_nil⟩⟩⟩⟩⟩⟩⟩⟩⟩⟩⟩⟩⟩⟩⟩⟩
theorem sm_ok_1 : ∀ M ∈ sm_prog_1, sm_OK sm_P M := List.forall_mem_cons.mpr ⟨ok_X10_clear, List.forall_mem_cons.mpr ⟨ok_X10_findMoves, List.forall_mem_cons.mpr ⟨ok_X10_findWalks, List.forall_mem_cons.mpr ⟨ok_X10_firstSpan, List.forall_mem_cons.mpr ⟨ok_X10_init, List.forall_mem_cons.mpr ⟨ok_X10_isOpen, List.forall_mem_cons.mpr ⟨ok_X10_lastSpan, List.forall_mem_cons.mpr ⟨ok_X10_partsOf, List.forall_mem_cons.mpr ⟨ok_X10_putLastTime, List.forall_mem_cons.mpr ⟨ok_X10_trustLast, List.forall_mem_cons.mpr ⟨ok_X10_trustOf, List.forall_mem_cons.mpr ⟨ok_X10_walkBetween, List.forall_mem_cons.mpr ⟨ok_X11_alone, List.forall_mem_cons.mpr ⟨ok_X11_ask, List.forall_mem_cons.mpr ⟨ok_X11_back, List.forall_mem_cons.mpr ⟨ok_X11_bears, fun _ h => absurd h List.not_mem_nil⟩⟩⟩⟩⟩⟩⟩⟩⟩⟩⟩⟩⟩⟩⟩⟩
theorem sm_ok_2 : ∀ M ∈ sm_prog_2, sm_OK sm_P M := List.forall_mem_cons.mpr ⟨ok_X11_been, List.forall_mem_cons.mpr ⟨ok_X11_breaks, List.forall_mem_cons.mpr ⟨ok_X11_can, List.forall_mem_cons.mpr ⟨ok_X11_cheapest, List.forall_mem_cons.mpr ⟨ok_X11_choice, List.forall_mem_cons.mpr ⟨ok_X11_could, List.forall_mem_cons.mpr ⟨ok_X11_count, List.forall_mem_cons.mpr ⟨ok_X11_doubt, List.forall_mem_cons.mpr ⟨ok_X11_drawn, List.forall_mem_cons.mpr ⟨ok_X11_ends, List.forall_mem_cons.mpr ⟨ok_X11_feed, List.forall_mem_cons.mpr ⟨ok_X11_fewer, List.forall_mem_cons.mpr ⟨ok_X11_first, List.forall_mem_cons.mpr ⟨ok_X11_forced, List.forall_mem_cons.mpr ⟨ok_X11_gap, List.forall_mem_cons.mpr ⟨ok_X11_give, fun _ h => absurd h List.not_mem_nil⟩⟩⟩⟩⟩⟩⟩⟩⟩⟩⟩⟩⟩⟩⟩⟩
theorem sm_ok_3 : ∀ M ∈ sm_prog_3, sm_OK sm_P M := List.forall_mem_cons.mpr ⟨ok_X11_givingUp, List.forall_mem_cons.mpr ⟨ok_X11_givingUps, List.forall_mem_cons.mpr ⟨ok_X11_goWithGuest, List.forall_mem_cons.mpr ⟨ok_X11_goes, List.forall_mem_cons.mpr ⟨ok_X11_hand, List.forall_mem_cons.mpr ⟨ok_X11_hour, List.forall_mem_cons.mpr ⟨ok_X11_init, List.forall_mem_cons.mpr ⟨ok_X11_isDoubted, List.forall_mem_cons.mpr ⟨ok_X11_isGoneThrough, List.forall_mem_cons.mpr ⟨ok_X11_isKept, List.forall_mem_cons.mpr ⟨ok_X11_isMinute, List.forall_mem_cons.mpr ⟨ok_X11_isPerson, List.forall_mem_cons.mpr ⟨ok_X11_isPlace, List.forall_mem_cons.mpr ⟨ok_X11_isSay, List.forall_mem_cons.mpr ⟨ok_X11_isSaying, List.forall_mem_cons.mpr ⟨ok_X11_isTime, fun _ h => absurd h List.not_mem_nil⟩⟩⟩⟩⟩⟩⟩⟩⟩⟩⟩⟩⟩⟩⟩⟩
theorem sm_ok_4 : ∀ M ∈ sm_prog_4, sm_OK sm_P M := List.forall_mem_cons.mpr ⟨ok_X11_keep, List.forall_mem_cons.mpr ⟨ok_X11_kept, List.forall_mem_cons.mpr ⟨ok_X11_leastGive, List.forall_mem_cons.mpr ⟨ok_X11_left, List.forall_mem_cons.mpr ⟨ok_X11_levelOf, List.forall_mem_cons.mpr ⟨ok_X11_more, List.forall_mem_cons.mpr ⟨ok_X11_move, List.forall_mem_cons.mpr ⟨ok_X11_next, List.forall_mem_cons.mpr ⟨ok_X11_pick, List.forall_mem_cons.mpr ⟨ok_X11_place, List.forall_mem_cons.mpr ⟨ok_X11_plan, List.forall_mem_cons.mpr ⟨ok_X11_planTo, List.forall_mem_cons.mpr ⟨ok_X11_price, List.forall_mem_cons.mpr ⟨ok_X11_putFour, List.forall_mem_cons.mpr ⟨ok_X11_quarrel, List.forall_mem_cons.mpr ⟨ok_X11_quarrels, fun _ h => absurd h List.not_mem_nil⟩⟩⟩⟩⟩⟩⟩⟩⟩⟩⟩⟩⟩⟩⟩⟩
theorem sm_ok_5 : ∀ M ∈ sm_prog_5, sm_OK sm_P M := List.forall_mem_cons.mpr ⟨ok_X11_read, List.forall_mem_cons.mpr ⟨ok_X11_ring, List.forall_mem_cons.mpr ⟨ok_X11_ringAt, List.forall_mem_cons.mpr ⟨ok_X11_set, List.forall_mem_cons.mpr ⟨ok_X11_setWays, List.forall_mem_cons.mpr ⟨ok_X11_slack, List.forall_mem_cons.mpr ⟨ok_X11_stale, List.forall_mem_cons.mpr ⟨ok_X11_stands, List.forall_mem_cons.mpr ⟨ok_X11_tried, List.forall_mem_cons.mpr ⟨ok_X11_valueAt, List.forall_mem_cons.mpr ⟨ok_X11_walk, List.forall_mem_cons.mpr ⟨ok_X11_ways, List.forall_mem_cons.mpr ⟨ok_X11_whereAt, List.forall_mem_cons.mpr ⟨ok_X12_alone, List.forall_mem_cons.mpr ⟨ok_X12_answers, List.forall_mem_cons.mpr ⟨ok_X12_appends, fun _ h => absurd h List.not_mem_nil⟩⟩⟩⟩⟩⟩⟩⟩⟩⟩⟩⟩⟩⟩⟩⟩
theorem sm_ok_6 : ∀ M ∈ sm_prog_6, sm_OK sm_P M := List.forall_mem_cons.mpr ⟨ok_X12_ask, List.forall_mem_cons.mpr ⟨ok_X12_asks, List.forall_mem_cons.mpr ⟨ok_X12_atMost, List.forall_mem_cons.mpr ⟨ok_X12_back, List.forall_mem_cons.mpr ⟨ok_X12_bears, List.forall_mem_cons.mpr ⟨ok_X12_bearsSpan, List.forall_mem_cons.mpr ⟨ok_X12_been, List.forall_mem_cons.mpr ⟨ok_X12_begins, List.forall_mem_cons.mpr ⟨ok_X12_between, List.forall_mem_cons.mpr ⟨ok_X12_bits, List.forall_mem_cons.mpr ⟨ok_X12_bound, List.forall_mem_cons.mpr ⟨ok_X12_breaks, List.forall_mem_cons.mpr ⟨ok_X12_byteAt, List.forall_mem_cons.mpr ⟨ok_X12_can, List.forall_mem_cons.mpr ⟨ok_X12_changes, List.forall_mem_cons.mpr ⟨ok_X12_cheapest, fun _ h => absurd h List.not_mem_nil⟩⟩⟩⟩⟩⟩⟩⟩⟩⟩⟩⟩⟩⟩⟩⟩
theorem sm_ok_7 : ∀ M ∈ sm_prog_7, sm_OK sm_P M := List.forall_mem_cons.mpr ⟨ok_X12_choice, List.forall_mem_cons.mpr ⟨ok_X12_choiceOf, List.forall_mem_cons.mpr ⟨ok_X12_choices, List.forall_mem_cons.mpr ⟨ok_X12_chooses, List.forall_mem_cons.mpr ⟨ok_X12_copies, List.forall_mem_cons.mpr ⟨ok_X12_could, List.forall_mem_cons.mpr ⟨ok_X12_count, List.forall_mem_cons.mpr ⟨ok_X12_cut, List.forall_mem_cons.mpr ⟨ok_X12_doubt, List.forall_mem_cons.mpr ⟨ok_X12_drawn, List.forall_mem_cons.mpr ⟨ok_X12_ends, List.forall_mem_cons.mpr ⟨ok_X12_fail, List.forall_mem_cons.mpr ⟨ok_X12_feed, List.forall_mem_cons.mpr ⟨ok_X12_fewer, List.forall_mem_cons.mpr ⟨ok_X12_first, List.forall_mem_cons.mpr ⟨ok_X12_forced, fun _ h => absurd h List.not_mem_nil⟩⟩⟩⟩⟩⟩⟩⟩⟩⟩⟩⟩⟩⟩⟩⟩
theorem sm_ok_8 : ∀ M ∈ sm_prog_8, sm_OK sm_P M := List.forall_mem_cons.mpr ⟨ok_X12_gap, List.forall_mem_cons.mpr ⟨ok_X12_gapNow, List.forall_mem_cons.mpr ⟨ok_X12_give, List.forall_mem_cons.mpr ⟨ok_X12_gives, List.forall_mem_cons.mpr ⟨ok_X12_givingUp, List.forall_mem_cons.mpr ⟨ok_X12_givingUps, List.forall_mem_cons.mpr ⟨ok_X12_goes, List.forall_mem_cons.mpr ⟨ok_X12_goesAll, List.forall_mem_cons.mpr ⟨ok_X12_goesOn, List.forall_mem_cons.mpr ⟨ok_X12_hand, List.forall_mem_cons.mpr ⟨ok_X12_hasWay, List.forall_mem_cons.mpr ⟨ok_X12_holdsSpan, List.forall_mem_cons.mpr ⟨ok_X12_hour, List.forall_mem_cons.mpr ⟨ok_X12_in, List.forall_mem_cons.mpr ⟨ok_X12_init, List.forall_mem_cons.mpr ⟨ok_X12_is, fun _ h => absurd h List.not_mem_nil⟩⟩⟩⟩⟩⟩⟩⟩⟩⟩⟩⟩⟩⟩⟩⟩
theorem sm_ok_9 : ∀ M ∈ sm_prog_9, sm_OK sm_P M := List.forall_mem_cons.mpr ⟨ok_X12_isDigit, List.forall_mem_cons.mpr ⟨ok_X12_isLeft, List.forall_mem_cons.mpr ⟨ok_X12_isLetter, List.forall_mem_cons.mpr ⟨ok_X12_isMinute, List.forall_mem_cons.mpr ⟨ok_X12_isPerson, List.forall_mem_cons.mpr ⟨ok_X12_isSaying, List.forall_mem_cons.mpr ⟨ok_X12_isTime, List.forall_mem_cons.mpr ⟨ok_X12_itemAt, List.forall_mem_cons.mpr ⟨ok_X12_keep, List.forall_mem_cons.mpr ⟨ok_X12_kept, List.forall_mem_cons.mpr ⟨ok_X12_known, List.forall_mem_cons.mpr ⟨ok_X12_knows, List.forall_mem_cons.mpr ⟨ok_X12_lays, List.forall_mem_cons.mpr ⟨ok_X12_laysSet, List.forall_mem_cons.mpr ⟨ok_X12_left, List.forall_mem_cons.mpr ⟨ok_X12_leftOf, fun _ h => absurd h List.not_mem_nil⟩⟩⟩⟩⟩⟩⟩⟩⟩⟩⟩⟩⟩⟩⟩⟩
theorem sm_ok_10 : ∀ M ∈ sm_prog_10, sm_OK sm_P M := List.forall_mem_cons.mpr ⟨ok_X12_lists, List.forall_mem_cons.mpr ⟨ok_X12_meets, List.forall_mem_cons.mpr ⟨ok_X12_meetsAll, List.forall_mem_cons.mpr ⟨ok_X12_more, List.forall_mem_cons.mpr ⟨ok_X12_move, List.forall_mem_cons.mpr ⟨ok_X12_must, List.forall_mem_cons.mpr ⟨ok_X12_named, List.forall_mem_cons.mpr ⟨ok_X12_next, List.forall_mem_cons.mpr ⟨ok_X12_notes, List.forall_mem_cons.mpr ⟨ok_X12_number, List.forall_mem_cons.mpr ⟨ok_X12_oneMore, List.forall_mem_cons.mpr ⟨ok_X12_openAt, List.forall_mem_cons.mpr ⟨ok_X12_pick, List.forall_mem_cons.mpr ⟨ok_X12_pickedStands, List.forall_mem_cons.mpr ⟨ok_X12_place, List.forall_mem_cons.mpr ⟨ok_X12_plan, fun _ h => absurd h List.not_mem_nil⟩⟩⟩⟩⟩⟩⟩⟩⟩⟩⟩⟩⟩⟩⟩⟩
theorem sm_ok_11 : ∀ M ∈ sm_prog_11, sm_OK sm_P M := List.forall_mem_cons.mpr ⟨ok_X12_planOf, List.forall_mem_cons.mpr ⟨ok_X12_plans, List.forall_mem_cons.mpr ⟨ok_X12_price, List.forall_mem_cons.mpr ⟨ok_X12_put, List.forall_mem_cons.mpr ⟨ok_X12_quarrel, List.forall_mem_cons.mpr ⟨ok_X12_quarrels, List.forall_mem_cons.mpr ⟨ok_X12_read, List.forall_mem_cons.mpr ⟨ok_X12_ring, List.forall_mem_cons.mpr ⟨ok_X12_ringAt, List.forall_mem_cons.mpr ⟨ok_X12_rings, List.forall_mem_cons.mpr ⟨ok_X12_searches, List.forall_mem_cons.mpr ⟨ok_X12_sees, List.forall_mem_cons.mpr ⟨ok_X12_set, List.forall_mem_cons.mpr ⟨ok_X12_setWays, List.forall_mem_cons.mpr ⟨ok_X12_sets, List.forall_mem_cons.mpr ⟨ok_X12_sign, fun _ h => absurd h List.not_mem_nil⟩⟩⟩⟩⟩⟩⟩⟩⟩⟩⟩⟩⟩⟩⟩⟩
theorem sm_ok_12 : ∀ M ∈ sm_prog_12, sm_OK sm_P M := List.forall_mem_cons.mpr ⟨ok_X12_slack, List.forall_mem_cons.mpr ⟨ok_X12_stands, List.forall_mem_cons.mpr ⟨ok_X12_sureOnes, List.forall_mem_cons.mpr ⟨ok_X12_tell, List.forall_mem_cons.mpr ⟨ok_X12_tellAll, List.forall_mem_cons.mpr ⟨ok_X12_tellName, List.forall_mem_cons.mpr ⟨ok_X12_tellOpen, List.forall_mem_cons.mpr ⟨ok_X12_tellQuestion, List.forall_mem_cons.mpr ⟨ok_X12_tellSaying, List.forall_mem_cons.mpr ⟨ok_X12_tellSpan, List.forall_mem_cons.mpr ⟨ok_X12_tellTime, List.forall_mem_cons.mpr ⟨ok_X12_tellWay, List.forall_mem_cons.mpr ⟨ok_X12_token, List.forall_mem_cons.mpr ⟨ok_X12_toldItem, List.forall_mem_cons.mpr ⟨ok_X12_tried, List.forall_mem_cons.mpr ⟨ok_X12_trustIn, fun _ h => absurd h List.not_mem_nil⟩⟩⟩⟩⟩⟩⟩⟩⟩⟩⟩⟩⟩⟩⟩⟩
theorem sm_ok_13 : ∀ M ∈ sm_prog_13, sm_OK sm_P M := List.forall_mem_cons.mpr ⟨ok_X12_undoubted, List.forall_mem_cons.mpr ⟨ok_X12_walk, List.forall_mem_cons.mpr ⟨ok_X12_walks, List.forall_mem_cons.mpr ⟨ok_X12_ways, List.forall_mem_cons.mpr ⟨ok_X12_word, List.forall_mem_cons.mpr ⟨ok_X12_wrong, List.forall_mem_cons.mpr ⟨ok_X1_addTry, List.forall_mem_cons.mpr ⟨ok_X1_addWay, List.forall_mem_cons.mpr ⟨ok_X1_choiceOf, List.forall_mem_cons.mpr ⟨ok_X1_init, List.forall_mem_cons.mpr ⟨ok_X1_tryOf, List.forall_mem_cons.mpr ⟨ok_X2_addItem, List.forall_mem_cons.mpr ⟨ok_X2_begin, List.forall_mem_cons.mpr ⟨ok_X2_bind, List.forall_mem_cons.mpr ⟨ok_X2_bring, List.forall_mem_cons.mpr ⟨ok_X2_choicesOf, fun _ h => absurd h List.not_mem_nil⟩⟩⟩⟩⟩⟩⟩⟩⟩⟩⟩⟩⟩⟩⟩⟩
theorem sm_ok_14 : ∀ M ∈ sm_prog_14, sm_OK sm_P M := List.forall_mem_cons.mpr ⟨ok_X2_distance, List.forall_mem_cons.mpr ⟨ok_X2_goThrough, List.forall_mem_cons.mpr ⟨ok_X2_host, List.forall_mem_cons.mpr ⟨ok_X2_init_6925, List.forall_mem_cons.mpr ⟨ok_X2_init_7540, List.forall_mem_cons.mpr ⟨ok_X2_init_9676, List.forall_mem_cons.mpr ⟨ok_X2_layBase, List.forall_mem_cons.mpr ⟨ok_X2_minute, List.forall_mem_cons.mpr ⟨ok_X2_minuteWith, List.forall_mem_cons.mpr ⟨ok_X2_noteWay, List.forall_mem_cons.mpr ⟨ok_X2_push, List.forall_mem_cons.mpr ⟨ok_X2_pushMove, List.forall_mem_cons.mpr ⟨ok_X2_takes, List.forall_mem_cons.mpr ⟨ok_X2_walkOf, List.forall_mem_cons.mpr ⟨ok_X2_widen, List.forall_mem_cons.mpr ⟨ok_X3_clear, fun _ h => absurd h List.not_mem_nil⟩⟩⟩⟩⟩⟩⟩⟩⟩⟩⟩⟩⟩⟩⟩⟩
theorem sm_ok_15 : ∀ M ∈ sm_prog_15, sm_OK sm_P M := List.forall_mem_cons.mpr ⟨ok_X3_faultOf, List.forall_mem_cons.mpr ⟨ok_X3_follow, List.forall_mem_cons.mpr ⟨ok_X3_hasRoom, List.forall_mem_cons.mpr ⟨ok_X3_init, List.forall_mem_cons.mpr ⟨ok_X3_isBehindMinus, List.forall_mem_cons.mpr ⟨ok_X4_clear, List.forall_mem_cons.mpr ⟨ok_X4_init, List.forall_mem_cons.mpr ⟨ok_X5_blank, List.forall_mem_cons.mpr ⟨ok_X5_copyUp, List.forall_mem_cons.mpr ⟨ok_X5_hasLevel, List.forall_mem_cons.mpr ⟨ok_X5_hasNode, List.forall_mem_cons.mpr ⟨ok_X5_init_6809, List.forall_mem_cons.mpr ⟨ok_X5_init_7414, List.forall_mem_cons.mpr ⟨ok_X5_init_9540, List.forall_mem_cons.mpr ⟨ok_X5_loose, List.forall_mem_cons.mpr ⟨ok_X5_reach, fun _ h => absurd h List.not_mem_nil⟩⟩⟩⟩⟩⟩⟩⟩⟩⟩⟩⟩⟩⟩⟩⟩
theorem sm_ok_16 : ∀ M ∈ sm_prog_16, sm_OK sm_P M := List.forall_mem_cons.mpr ⟨ok_X5_tighten, List.forall_mem_cons.mpr ⟨ok_X5_tightenRow, List.forall_mem_cons.mpr ⟨ok_X6_cheapestGiving, List.forall_mem_cons.mpr ⟨ok_X6_goThroughAll, List.forall_mem_cons.mpr ⟨ok_X6_holdTogether, List.forall_mem_cons.mpr ⟨ok_X6_init, List.forall_mem_cons.mpr ⟨ok_X6_isGivingUp, List.forall_mem_cons.mpr ⟨ok_X6_isKnown, List.forall_mem_cons.mpr ⟨ok_X6_isQuarrel, List.forall_mem_cons.mpr ⟨ok_X6_isTight, List.forall_mem_cons.mpr ⟨ok_X6_itemOf, List.forall_mem_cons.mpr ⟨ok_X6_listRing, List.forall_mem_cons.mpr ⟨ok_X6_listSets, List.forall_mem_cons.mpr ⟨ok_X7_changePlaces, List.forall_mem_cons.mpr ⟨ok_X7_endPathOrOpen, List.forall_mem_cons.mpr ⟨ok_X7_endSpan, fun _ h => absurd h List.not_mem_nil⟩⟩⟩⟩⟩⟩⟩⟩⟩⟩⟩⟩⟩⟩⟩⟩
theorem sm_ok_17 : ∀ M ∈ sm_prog_17, sm_OK sm_P M := List.forall_mem_cons.mpr ⟨ok_X7_find, List.forall_mem_cons.mpr ⟨ok_X7_init, List.forall_mem_cons.mpr ⟨ok_X7_meaningFault, List.forall_mem_cons.mpr ⟨ok_X7_numberNew, List.forall_mem_cons.mpr ⟨ok_X7_readTape, List.forall_mem_cons.mpr ⟨ok_X7_syntaxFault, List.forall_mem_cons.mpr ⟨ok_X7_take, List.forall_mem_cons.mpr ⟨ok_X7_takeInt, List.forall_mem_cons.mpr ⟨ok_X7_takeNew, List.forall_mem_cons.mpr ⟨ok_X7_takeOpen, List.forall_mem_cons.mpr ⟨ok_X7_takePath, List.forall_mem_cons.mpr ⟨ok_X7_takeSpanTime, List.forall_mem_cons.mpr ⟨ok_X7_takeTrust, List.forall_mem_cons.mpr ⟨ok_X7_takeWhere, List.forall_mem_cons.mpr ⟨ok_X8_bound, List.forall_mem_cons.mpr ⟨ok_X8_hasRow, fun _ h => absurd h List.not_mem_nil⟩⟩⟩⟩⟩⟩⟩⟩⟩⟩⟩⟩⟩⟩⟩⟩
theorem sm_ok_18 : ∀ M ∈ sm_prog_18, sm_OK sm_P M := List.forall_mem_cons.mpr ⟨ok_X8_holds, List.forall_mem_cons.mpr ⟨ok_X8_init_20, List.forall_mem_cons.mpr ⟨ok_X8_init_24, List.forall_mem_cons.mpr ⟨ok_X8_init_40, List.forall_mem_cons.mpr ⟨ok_X8_init_480, List.forall_mem_cons.mpr ⟨ok_X8_isSet, List.forall_mem_cons.mpr ⟨ok_X8_put, List.forall_mem_cons.mpr ⟨ok_X9_endOfDigits, List.forall_mem_cons.mpr ⟨ok_X9_endOfLetters, List.forall_mem_cons.mpr ⟨ok_X9_init, List.forall_mem_cons.mpr ⟨ok_X9_isBlank, List.forall_mem_cons.mpr ⟨ok_X9_isDigit, List.forall_mem_cons.mpr ⟨ok_X9_isLetter, List.forall_mem_cons.mpr ⟨ok_X9_scan, List.forall_mem_cons.mpr ⟨ok_X9_scanOne, List.forall_mem_cons.mpr ⟨ok_X9_sign, fun _ h => absurd h List.not_mem_nil⟩⟩⟩⟩⟩⟩⟩⟩⟩⟩⟩⟩⟩⟩⟩⟩
theorem sm_ok_19 : ∀ M ∈ sm_prog_19, sm_OK sm_P M := List.forall_mem_cons.mpr ⟨ok_X9_wordOrName, List.forall_mem_cons.mpr ⟨ok_J6_bitCount_0f7a4, List.forall_mem_cons.mpr ⟨ok_J7_fill_53178, List.forall_mem_cons.mpr ⟨ok_L_law, fun _ h => absurd h List.not_mem_nil⟩⟩⟩⟩
theorem sm_ok_all : ∀ L ∈ sm_prog, ∀ M ∈ L, sm_OK sm_P M := List.forall_mem_cons.mpr ⟨sm_ok_0, List.forall_mem_cons.mpr ⟨sm_ok_1, List.forall_mem_cons.mpr ⟨sm_ok_2, List.forall_mem_cons.mpr ⟨sm_ok_3, List.forall_mem_cons.mpr ⟨sm_ok_4, List.forall_mem_cons.mpr ⟨sm_ok_5, List.forall_mem_cons.mpr ⟨sm_ok_6, List.forall_mem_cons.mpr ⟨sm_ok_7, List.forall_mem_cons.mpr ⟨sm_ok_8, List.forall_mem_cons.mpr ⟨sm_ok_9, List.forall_mem_cons.mpr ⟨sm_ok_10, List.forall_mem_cons.mpr ⟨sm_ok_11, List.forall_mem_cons.mpr ⟨sm_ok_12, List.forall_mem_cons.mpr ⟨sm_ok_13, List.forall_mem_cons.mpr ⟨sm_ok_14, List.forall_mem_cons.mpr ⟨sm_ok_15, List.forall_mem_cons.mpr ⟨sm_ok_16, List.forall_mem_cons.mpr ⟨sm_ok_17, List.forall_mem_cons.mpr ⟨sm_ok_18, List.forall_mem_cons.mpr ⟨sm_ok_19, fun _ h => absurd h List.not_mem_nil⟩⟩⟩⟩⟩⟩⟩⟩⟩⟩⟩⟩⟩⟩⟩⟩⟩⟩⟩⟩
theorem sm_getD_in {α : Type} (l : List α) (k : Nat) (d : α) : l.getD k d ∈ l ∨ l.getD k d = d := by
  rcases Nat.lt_or_ge k l.length with h | h
  · left
    rw [List.getD_eq_getElem?_getD, List.getElem?_eq_getElem h]
    exact List.getElem_mem h
  · right
    rw [List.getD_eq_getElem?_getD, List.getElem?_eq_none h]
    rfl
theorem sm_okAll (f : Nat) : sm_OK sm_P (sm_P f) := by
  unfold sm_P
  rcases sm_getD_in (sm_prog.getD (f / 16) []) (f % 16) pm_X0_answer with h | h
  · rcases sm_getD_in sm_prog (f / 16) [] with h2 | h2
    · exact sm_ok_all _ h2 _ h
    · rw [h2] at h
      exact absurd h List.not_mem_nil
  · rw [h]
    exact ok_X0_answer
end
section
/-! the kinds' tables -/
theorem sm_ly {ws : List Cond} (ps : List Nat) (h : ws.map some = ps.map (fun p => (sm_chunk (p / 256))[p % 256]?)) (hg : ws.all goodWord = true) : ∀ w ∈ ws, w ∈ sm_wl := by
  intro w hw
  have h1 : some w ∈ ps.map (fun p => (sm_chunk (p / 256))[p % 256]?) := by rw [← h]; exact List.mem_map.mpr ⟨w, hw, rfl⟩
  obtain ⟨p, -, hp⟩ := List.mem_map.mp h1
  exact List.mem_filter.mpr ⟨sm_chunk_in (List.mem_of_getElem? hp), List.all_eq_true.mp hg w hw⟩
def sm_tc (ty : FieldType) : Nat := match ty with
  | .int => 0
  | .boolean => 2
  | .object _ => 1
  | .array _ => 1
  | _ => 9
theorem sm_tc_of {ty : FieldType} {n : Nat} (h : sm_tc ty = n) (h3 : n ≤ 2) : (n = 0 → ty = .int) ∧ (n = 2 → ty = .boolean) ∧ (n = 1 → (∃ q, ty = .object q) ∨ ∃ q, ty = .array q) ∧ n ≤ 2 := by
  subst h
  cases ty with
  | int => exact ⟨fun _ => rfl, fun h => (by cases h), fun h => (by cases h), h3⟩
  | boolean => exact ⟨fun h => (by cases h), fun _ => rfl, fun h => (by cases h), h3⟩
  | object q => exact ⟨fun h => (by cases h), fun h => (by cases h), fun _ => Or.inl ⟨q, rfl⟩, h3⟩
  | array q => exact ⟨fun h => (by cases h), fun h => (by cases h), fun _ => Or.inr ⟨q, rfl⟩, h3⟩
  | _ => exact absurd h3 (by decide)
theorem ly_0 : ∀ w ∈ u_ws RX0 TX0 6, w ∈ sm_wl := sm_ly [490, 492, 494, 512, 514, 516] (by decide +kernel) (by decide +kernel)
theorem tc_0 : ∀ k, k < 6 → sm_tc (tyX0 k) = sm_cd 0 k ∧ sm_cd 0 k ≤ 2 := by decide +kernel
theorem ly_1 : ∀ w ∈ u_ws RX1 TX1 3, w ∈ sm_wl := sm_ly [316, 318, 320] (by decide +kernel) (by decide +kernel)
theorem tc_1 : ∀ k, k < 3 → sm_tc (tyX1 k) = sm_cd 1 k ∧ sm_cd 1 k ≤ 2 := by decide +kernel
theorem ly_2 : ∀ w ∈ u_ws RX2 TX2 18, w ∈ sm_wl := sm_ly [387, 389, 391, 393, 395, 397, 399, 401, 403, 405, 407, 409, 411, 413, 415, 417, 419, 421] (by decide +kernel) (by decide +kernel)
theorem tc_2 : ∀ k, k < 18 → sm_tc (tyX2 k) = sm_cd 2 k ∧ sm_cd 2 k ≤ 2 := by decide +kernel
theorem ly_3 : ∀ w ∈ u_ws RX3 TX3 4, w ∈ sm_wl := sm_ly [68, 70, 72, 74] (by decide +kernel) (by decide +kernel)
theorem tc_3 : ∀ k, k < 4 → sm_tc (tyX3 k) = sm_cd 3 k ∧ sm_cd 3 k ≤ 2 := by decide +kernel
theorem ly_4 : ∀ w ∈ u_ws RX4 TX4 5, w ∈ sm_wl := sm_ly [296, 298, 300, 302, 304] (by decide +kernel) (by decide +kernel)
theorem tc_4 : ∀ k, k < 5 → sm_tc (tyX4 k) = sm_cd 4 k ∧ sm_cd 4 k ≤ 2 := by decide +kernel
theorem ly_5 : ∀ w ∈ u_ws RX5 TX5 6, w ∈ sm_wl := sm_ly [343, 345, 347, 349, 351, 353] (by decide +kernel) (by decide +kernel)
theorem tc_5 : ∀ k, k < 6 → sm_tc (tyX5 k) = sm_cd 5 k ∧ sm_cd 5 k ≤ 2 := by decide +kernel
theorem ly_6 : ∀ w ∈ u_ws RX6 TX6 12, w ∈ sm_wl := sm_ly [450, 452, 454, 456, 458, 460, 462, 464, 466, 468, 470, 472] (by decide +kernel) (by decide +kernel)
theorem tc_6 : ∀ k, k < 12 → sm_tc (tyX6 k) = sm_cd 6 k ∧ sm_cd 6 k ≤ 2 := by decide +kernel
theorem ly_7 : ∀ w ∈ u_ws RX7 TX7 12, w ∈ sm_wl := sm_ly [228, 230, 232, 234, 236, 238, 256, 258, 260, 262, 264, 266] (by decide +kernel) (by decide +kernel)
theorem tc_7 : ∀ k, k < 12 → sm_tc (tyX7 k) = sm_cd 7 k ∧ sm_cd 7 k ≤ 2 := by decide +kernel
theorem ly_8 : ∀ w ∈ u_ws RX8 TX8 4, w ∈ sm_wl := sm_ly [103, 105, 107, 109] (by decide +kernel) (by decide +kernel)
theorem tc_8 : ∀ k, k < 4 → sm_tc (tyX8 k) = sm_cd 8 k ∧ sm_cd 8 k ≤ 2 := by decide +kernel
theorem ly_9 : ∀ w ∈ u_ws RX9 TX9 4, w ∈ sm_wl := sm_ly [46, 48, 50, 52] (by decide +kernel) (by decide +kernel)
theorem tc_9 : ∀ k, k < 4 → sm_tc (tyX9 k) = sm_cd 9 k ∧ sm_cd 9 k ≤ 2 := by decide +kernel
theorem ly_10 : ∀ w ∈ u_ws RX10 TX10 19, w ∈ sm_wl := sm_ly [176, 178, 180, 182, 184, 186, 188, 190, 192, 194, 196, 198, 200, 202, 204, 206, 208, 210, 212] (by decide +kernel) (by decide +kernel)
theorem tc_10 : ∀ k, k < 19 → sm_tc (tyX10 k) = sm_cd 10 k ∧ sm_cd 10 k ≤ 2 := by decide +kernel
theorem ly_11 : ∀ w ∈ u_ws RX11 TX11 14, w ∈ sm_wl := sm_ly [533, 535, 537, 539, 541, 543, 545, 547, 549, 551, 553, 555, 557, 559] (by decide +kernel) (by decide +kernel)
theorem tc_11 : ∀ k, k < 14 → sm_tc (tyX11 k) = sm_cd 11 k ∧ sm_cd 11 k ≤ 2 := by decide +kernel
theorem ly_12 : ∀ w ∈ u_ws RX12 TX12 97, w ∈ sm_wl := sm_ly [1424, 1426, 1428, 1430, 1432, 1434, 1436, 1438, 1440, 1442, 1444, 1446, 1448, 1450, 1452, 1454, 1456, 1458, 1460, 1462, 1464, 1466, 1468, 1470, 1472, 1474, 1476, 1478, 1480, 1482, 1484, 1486, 1488, 1490, 1492, 1494, 1496, 1498, 1500, 1502, 1504, 1506, 1508, 1510, 1512, 1514, 1516, 1518, 1536, 1538, 1540, 1542, 1544, 1546, 1548, 1550, 1552, 1554, 1556, 1558, 1560, 1562, 1564, 1566, 1568, 1570, 1572, 1574, 1576, 1578, 1580, 1582, 1584, 1586, 1588, 1590, 1592, 1594, 1596, 1598, 1600, 1602, 1604, 1606, 1608, 1610, 1612, 1614, 1616, 1618, 1620, 1622, 1624, 1626, 1628, 1630, 1632] (by decide +kernel) (by decide +kernel)
theorem tc_12 : ∀ k, k < 97 → sm_tc (tyX12 k) = sm_cd 12 k ∧ sm_cd 12 k ≤ 2 := by decide +kernel
theorem sm_cf : sm_CF := by
  intro ci C T N h
  match ci, h with
  | 0, h => cases h; exact ⟨ly_0, tyX0_ok, nmX0, rfl, fun k hk => sm_tc_of (tc_0 k hk).1 (tc_0 k hk).2⟩
  | 1, h => cases h; exact ⟨ly_1, tyX1_ok, nmX1, rfl, fun k hk => sm_tc_of (tc_1 k hk).1 (tc_1 k hk).2⟩
  | 2, h => cases h; exact ⟨ly_2, tyX2_ok, nmX2, rfl, fun k hk => sm_tc_of (tc_2 k hk).1 (tc_2 k hk).2⟩
  | 3, h => cases h; exact ⟨ly_3, tyX3_ok, nmX3, rfl, fun k hk => sm_tc_of (tc_3 k hk).1 (tc_3 k hk).2⟩
  | 4, h => cases h; exact ⟨ly_4, tyX4_ok, nmX4, rfl, fun k hk => sm_tc_of (tc_4 k hk).1 (tc_4 k hk).2⟩
  | 5, h => cases h; exact ⟨ly_5, tyX5_ok, nmX5, rfl, fun k hk => sm_tc_of (tc_5 k hk).1 (tc_5 k hk).2⟩
  | 6, h => cases h; exact ⟨ly_6, tyX6_ok, nmX6, rfl, fun k hk => sm_tc_of (tc_6 k hk).1 (tc_6 k hk).2⟩
  | 7, h => cases h; exact ⟨ly_7, tyX7_ok, nmX7, rfl, fun k hk => sm_tc_of (tc_7 k hk).1 (tc_7 k hk).2⟩
  | 8, h => cases h; exact ⟨ly_8, tyX8_ok, nmX8, rfl, fun k hk => sm_tc_of (tc_8 k hk).1 (tc_8 k hk).2⟩
  | 9, h => cases h; exact ⟨ly_9, tyX9_ok, nmX9, rfl, fun k hk => sm_tc_of (tc_9 k hk).1 (tc_9 k hk).2⟩
  | 10, h => cases h; exact ⟨ly_10, tyX10_ok, nmX10, rfl, fun k hk => sm_tc_of (tc_10 k hk).1 (tc_10 k hk).2⟩
  | 11, h => cases h; exact ⟨ly_11, tyX11_ok, nmX11, rfl, fun k hk => sm_tc_of (tc_11 k hk).1 (tc_11 k hk).2⟩
  | 12, h => cases h; exact ⟨ly_12, tyX12_ok, nmX12, rfl, fun k hk => sm_tc_of (tc_12 k hk).1 (tc_12 k hk).2⟩
  | k + 13, h => simp [vwCl] at h
end
section
/-! THE CLAIM OUT OF THE SMALL MACHINE'S RUN OF THE LAW -/
def R_law : String := "NightHoursLaw"
def lw_P (b : Addr) (xs : List Int32) (args : Array Value) (s : State) : Prop := args = #[.ref b] ∧ s.IntsAt b xs ∧ xs.length ≤ 3072 ∧ (Jvm.Cond.and given_1 narrow_1).before args s = true
def lw_Q (_ : Array Value) (s : State) (o : Outcome) (t : State) : Prop := o = .returned (some (.int 1)) ∧ Framed s o t [] 600000 7302250
def lw_Z (below : List Frame) (a : Array Value) (s : State) : State → Prop := fun t => ∃ o, t.status = .running ∧ Ended t below o ∧ lw_Q a s o t
/-- the law's own end, with 1 on the stack, nothing written that was there before, its room as the claim has it -/
theorem lw_ret {p : Program} {l : Launch} {e : Env} {s : State} {m : MethodId} {below : List Frame} {meth : Method} {c : Code} {b : Nat} (hx : p.tables.exec = Jvm.exec) (hb : c.code = code) (hr : meth.sig.returnType = ret) (hlocks : meth.locks = false) {pc : Nat} {H : Heap} {ls : Array Slot} (hdg : decode code pc = .ok (.ireturn, 1)) : W p l e room_1 s m #[Value.ref b] below meth c H [] 600000 7302250 (lw_Z below #[Value.ref b] s) (F0 m pc ls [.int 1]) := by
  intro T hT X
  obtain ⟨fs, hret, hrun, hended, hW, hframe⟩ := X.leave (v := some (.int 1)) (hlocks := hlocks) (fun h => by rw [hr] at h; cases h)
  have hmeth' : T.vm.method? m = some meth := X.method'
  refine ⟨T.setFrames fs, ?_, .returned (some (.int 1)), hrun, hended, rfl, ⟨_, rfl⟩, hW, hframe⟩
  jvm_step X.here [X.here.top, hx, hb, hdg, hmeth', hr, ret, narrow_b1]
  (try refine ⟨rfl, ?_⟩); (try refine ⟨rfl, ?_⟩)
  first | (intro acts; rw [hret _ acts rfl rfl rfl]) | rw [hret _ _ rfl rfl rfl]
  exact Steps.refl _
/-- what holds at the law's entry: the machine, the code, the tables' words (any of lw_tbl by 'hts w (by decide +kernel)'), the script of L ints xs at the cell b, what the Statement gives of the start (any of its parts by flat_of_before) -/
def lw_At (p : Program) (s : State) (m : MethodId) (meth : Method) (c : Code) (b L : Nat) (xs : Nat → Int32) : Prop :=
  p.tables.exec = Jvm.exec ∧ c.code = code ∧ meth.sig.returnType = ret ∧ c.maxLocals = 4 ∧ s.vm.findClass R_law = some m.cls ∧ (∀ w ∈ lw_tbl, w.before #[Value.ref b] s = true) ∧ va_X b L xs s s.heap ∧ b < s.heap.size ∧ meth.locks = false ∧ (Jvm.Cond.and given_1 narrow_1).before #[Value.ref b] s = true
theorem sm_st_I {n : Nat} {cls nm : String} {l : List Int32} {args : Array Value} {s : State} (hs : ∀ c ∈ flatC (Jvm.Cond.and given_1 narrow_1), c.before args s = true) (hn : l.length = n) (h31 : n < 2 ^ 31)
    (h1 : Cond.arrayOf (.static cls nm "[I") .int ∈ flatC (Jvm.Cond.and given_1 narrow_1)) (h2 : Cond.eq (.length (.static cls nm "[I")) (.int (Int32.ofNat n)) ∈ flatC (Jvm.Cond.and given_1 narrow_1)) (h3 : ∀ j, j < n → Cond.eq (.elem (.static cls nm "[I") (.int (Int32.ofNat j))) (.int (l.getD j 0)) ∈ flatC (Jvm.Cond.and given_1 narrow_1)) (hl : (Cond.laysStatic cls nm "[I").before args s = true) (hi : (Cond.initialized cls).before args s = true) :
    ∃ t : Nat, va_Z cls nm "[I" (.ref t) (sm_A s.heap.size) s s.heap ∧ va_T .int t n (fun j => .int (l.getD j 0)) (sm_A s.heap.size) s s.heap := by
  have hA : ∀ a : Nat, a < s.heap.size → ¬ sm_A s.heap.size a := fun a h q => absurd q (Nat.not_le.mpr h)
  obtain ⟨t, e1, e2⟩ := va_Tof (f := fun j => .int (l.getD j 0)) h31 (hs _ h1) (va_eqt (hs _ h2)) (fun j hj => va_eqt (hs _ (h3 j hj))) hA
  exact ⟨t, va_Zref hl hi e1 hA, e2⟩
theorem sm_st_L {n : Nat} {cls nm : String} {l : List Int64} {args : Array Value} {s : State} (hs : ∀ c ∈ flatC (Jvm.Cond.and given_1 narrow_1), c.before args s = true) (hn : l.length = n) (h31 : n < 2 ^ 31)
    (h1 : Cond.arrayOf (.static cls nm "[J") .long ∈ flatC (Jvm.Cond.and given_1 narrow_1)) (h2 : Cond.eq (.length (.static cls nm "[J")) (.int (Int32.ofNat n)) ∈ flatC (Jvm.Cond.and given_1 narrow_1)) (h3 : ∀ j, j < n → Cond.eq (.elem (.static cls nm "[J") (.int (Int32.ofNat j))) (.long (l.getD j 0)) ∈ flatC (Jvm.Cond.and given_1 narrow_1)) (hl : (Cond.laysStatic cls nm "[J").before args s = true) (hi : (Cond.initialized cls).before args s = true) :
    ∃ t : Nat, va_Z cls nm "[J" (.ref t) (sm_A s.heap.size) s s.heap ∧ va_T .long t n (fun j => .long (l.getD j 0)) (sm_A s.heap.size) s s.heap := by
  have hA : ∀ a : Nat, a < s.heap.size → ¬ sm_A s.heap.size a := fun a h q => absurd q (Nat.not_le.mpr h)
  obtain ⟨t, e1, e2⟩ := va_Tof (f := fun j => .long (l.getD j 0)) h31 (hs _ h1) (va_eqt (hs _ h2)) (fun j hj => va_eqtl (hs _ (h3 j hj))) hA
  exact ⟨t, va_Zref hl hi e1 hA, e2⟩
theorem sm_arr {args : Array Value} {s : State} {ty : FieldType} (h : (Cond.arrayClass ty).before args s = true) : ∃ cA, ArrOfT s cA ty ∧ s.vm.findClass ("[" ++ ty.toString) = some cA := by
  obtain ⟨cA, kA, comp, h1, h2, h3⟩ := Cond.arrayClass_spec h
  exact ⟨cA, fun n z => ⟨fun k h => (by cases h), kA, h2, comp, h3⟩, h1⟩
/-- the world at the beginning: no cells -/
def sm_w0 : sm_W := ([], fun _ _ => 0, fun _ _ => 0, fun _ _ => none)
set_option maxRecDepth 100000 in
theorem sm_fl1 : Cond.arrayOf (.static "NightHours$Tokens" "WORDS" "[J") .long ∈ flatC (Jvm.Cond.and given_1 narrow_1) ∧ Cond.eq (.length (.static "NightHours$Tokens" "WORDS" "[J")) (.int (Int32.ofNat 15)) ∈ flatC (Jvm.Cond.and given_1 narrow_1) ∧ ∀ j, j < 15 → Cond.eq (.elem (.static "NightHours$Tokens" "WORDS" "[J") (.int (Int32.ofNat j))) (.long (sm_words.getD j 0)) ∈ flatC (Jvm.Cond.and given_1 narrow_1) := by decide +kernel
set_option maxRecDepth 100000 in
theorem sm_fl2 : Cond.arrayOf (.static "NightHours$Grammar" "STEPS" "[I") .int ∈ flatC (Jvm.Cond.and given_1 narrow_1) ∧ Cond.eq (.length (.static "NightHours$Grammar" "STEPS" "[I")) (.int (Int32.ofNat 138)) ∈ flatC (Jvm.Cond.and given_1 narrow_1) ∧ ∀ j, j < 138 → Cond.eq (.elem (.static "NightHours$Grammar" "STEPS" "[I") (.int (Int32.ofNat j))) (.int (sm_steps.getD j 0)) ∈ flatC (Jvm.Cond.and given_1 narrow_1) := by decide +kernel
set_option maxRecDepth 100000 in
theorem sm_fl3 : Cond.arrayOf (.static "NightHours$Grammar" "ROOM" "[I") .int ∈ flatC (Jvm.Cond.and given_1 narrow_1) ∧ Cond.eq (.length (.static "NightHours$Grammar" "ROOM" "[I")) (.int (Int32.ofNat 15)) ∈ flatC (Jvm.Cond.and given_1 narrow_1) ∧ ∀ j, j < 15 → Cond.eq (.elem (.static "NightHours$Grammar" "ROOM" "[I") (.int (Int32.ofNat j))) (.int (sm_room.getD j 0)) ∈ flatC (Jvm.Cond.and given_1 narrow_1) := by decide +kernel
set_option maxRecDepth 100000 in
theorem sm_fl4 : Cond.arrayOf (.static "NightHours$Asking" "WITH_YES" "[I") .int ∈ flatC (Jvm.Cond.and given_1 narrow_1) ∧ Cond.eq (.length (.static "NightHours$Asking" "WITH_YES" "[I")) (.int (Int32.ofNat 5)) ∈ flatC (Jvm.Cond.and given_1 narrow_1) ∧ ∀ j, j < 5 → Cond.eq (.elem (.static "NightHours$Asking" "WITH_YES" "[I") (.int (Int32.ofNat j))) (.int (sm_withyes.getD j 0)) ∈ flatC (Jvm.Cond.and given_1 narrow_1) := by decide +kernel
/-- what the law's run must be, for every script -/
def sm_Main : Prop := ∀ (L : Nat) (xs : Nat → Int32), L ≤ 3072 → sm_wp sm_P (L, xs) 60 307 0 [.ref 1004] [] sm_w0 (0, 0) (fun z => z.1 = some (.int 1))
set_option maxHeartbeats 4000000 in
set_option maxRecDepth 100000 in
theorem sm_whole (hmain : sm_Main) {p : Program} {e : Env} {s : State} {m : MethodId} {below : List Frame} {meth : Method} {c : Code} (l : Launch) {b L : Nat} {xs : Nat → Int32} (hL : L ≤ 3072) (C0 : lw_At p s m meth c b L xs) : W p l e room_1 s m #[Value.ref b] below meth c s.heap [] 0 0 (lw_Z below #[Value.ref b] s) (entryFrame m ([Value.ref b] : List Value).toArray 4) := by
  obtain ⟨hx, hb, hr, hml, hown, hts, hX, hbl, hlocks, hgv⟩ := id C0
  have hs := flat_of_before _ hgv
  have hwl : ∀ w ∈ sm_wl, w.before #[Value.ref b] s = true := fun w hw => hts w (List.mem_filter.mp hw).1
  obtain ⟨c0, iS0, k0⟩ := u_known (C := RX0) (T := TX0) (N := 6) (n := 6) hwl ly_0 (hwl _ (sm_inw 1 221 rfl rfl))
  obtain ⟨c1, iS1, k1⟩ := u_known (C := RX1) (T := TX1) (N := 3) (n := 3) hwl ly_1 (hwl _ (sm_inw 1 52 rfl rfl))
  obtain ⟨c2, iS2, k2⟩ := u_known (C := RX2) (T := TX2) (N := 18) (n := 18) hwl ly_2 (hwl _ (sm_inw 1 70 rfl rfl))
  obtain ⟨c3, iS3, k3⟩ := u_known (C := RX3) (T := TX3) (N := 4) (n := 4) hwl ly_3 (hwl _ (sm_inw 0 59 rfl rfl))
  obtain ⟨c4, iS4, k4⟩ := u_known (C := RX4) (T := TX4) (N := 5) (n := 5) hwl ly_4 (hwl _ (sm_inw 1 14 rfl rfl))
  obtain ⟨c5, iS5, k5⟩ := u_known (C := RX5) (T := TX5) (N := 6) (n := 6) hwl ly_5 (hwl _ (sm_inw 1 76 rfl rfl))
  obtain ⟨c6, iS6, k6⟩ := u_known (C := RX6) (T := TX6) (N := 12) (n := 12) hwl ly_6 (hwl _ (sm_inw 1 169 rfl rfl))
  obtain ⟨c7, iS7, k7⟩ := u_known (C := RX7) (T := TX7) (N := 12) (n := 12) hwl ly_7 (hwl _ (sm_inw 0 27 rfl rfl))
  obtain ⟨c8, iS8, k8⟩ := u_known (C := RX8) (T := TX8) (N := 4) (n := 4) hwl ly_8 (hwl _ (sm_inw 0 84 rfl rfl))
  obtain ⟨c9, iS9, k9⟩ := u_known (C := RX9) (T := TX9) (N := 4) (n := 4) hwl ly_9 (hwl _ (sm_inw 0 33 rfl rfl))
  obtain ⟨c10, iS10, k10⟩ := u_known (C := RX10) (T := TX10) (N := 19) (n := 19) hwl ly_10 (hwl _ (sm_inw 0 78 rfl rfl))
  obtain ⟨c11, iS11, k11⟩ := u_known (C := RX11) (T := TX11) (N := 14) (n := 14) hwl ly_11 (hwl _ (sm_inw 0 19 rfl rfl))
  obtain ⟨c12, iS12, k12⟩ := u_known (C := RX12) (T := TX12) (N := 97) (n := 97) hwl ly_12 (hwl _ (sm_inw 5 36 rfl rfl))
  obtain ⟨dC, dI, hKc⟩ : ∃ (dC : Nat → ClassId) (dI : Nat → Nat → Nat), ∀ (k : Nat) (q : vw_C), vwCl[k]? = some q → u_Kn s q.1 q.2.1 q.2.2 (dC k) (dI k) := by
    refine ⟨fun k => match k with
      | 0 => c0
      | 1 => c1
      | 2 => c2
      | 3 => c3
      | 4 => c4
      | 5 => c5
      | 6 => c6
      | 7 => c7
      | 8 => c8
      | 9 => c9
      | 10 => c10
      | 11 => c11
      | _ => c12, fun k => match k with
      | 0 => iS0
      | 1 => iS1
      | 2 => iS2
      | 3 => iS3
      | 4 => iS4
      | 5 => iS5
      | 6 => iS6
      | 7 => iS7
      | 8 => iS8
      | 9 => iS9
      | 10 => iS10
      | 11 => iS11
      | _ => iS12, ?_⟩
    intro k q hq
    match k, hq with
    | 0, hq => cases hq; exact k0
    | 1, hq => cases hq; exact k1
    | 2, hq => cases hq; exact k2
    | 3, hq => cases hq; exact k3
    | 4, hq => cases hq; exact k4
    | 5, hq => cases hq; exact k5
    | 6, hq => cases hq; exact k6
    | 7, hq => cases hq; exact k7
    | 8, hq => cases hq; exact k8
    | 9, hq => cases hq; exact k9
    | 10, hq => cases hq; exact k10
    | 11, hq => cases hq; exact k11
    | 12, hq => cases hq; exact k12
    | k + 13, hq => simp [vwCl] at hq
  obtain ⟨a0, hr0, hf0⟩ := sm_arr (ty := .int) (hwl _ (sm_inw 0 56 rfl rfl))
  obtain ⟨a1, hr1, hf1⟩ := sm_arr (ty := .byte) (hwl _ (sm_inw 0 55 rfl rfl))
  obtain ⟨a2, hr2, hf2⟩ := sm_arr (ty := .boolean) (hwl _ (sm_inw 1 219 rfl rfl))
  obtain ⟨a3, hr3, hf3⟩ := sm_arr (ty := .long) (hwl _ (sm_inw 0 57 rfl rfl))
  obtain ⟨t0, z0, T0⟩ := sm_st_L (l := sm_words) hs (n := 15) rfl (by decide) sm_fl1.1 sm_fl1.2.1 sm_fl1.2.2 (hts _ (sm_chunk_in (List.mem_of_getElem? (show (sm_chunk 2)[92]? = some _ from rfl)))) (hwl _ (sm_inw 0 3 rfl rfl))
  obtain ⟨t1, z1, T1⟩ := sm_st_I (l := sm_steps) hs (n := 138) rfl (by decide) sm_fl2.1 sm_fl2.2.1 sm_fl2.2.2 (hts _ (sm_chunk_in (List.mem_of_getElem? (show (sm_chunk 2)[121]? = some _ from rfl)))) (hwl _ (sm_inw 0 4 rfl rfl))
  obtain ⟨t2, z2, T2⟩ := sm_st_I (l := sm_room) hs (n := 15) rfl (by decide) sm_fl3.1 sm_fl3.2.1 sm_fl3.2.2 (hts _ (sm_chunk_in (List.mem_of_getElem? (show (sm_chunk 2)[127]? = some _ from rfl)))) (hwl _ (sm_inw 0 4 rfl rfl))
  obtain ⟨t3, z3, T3⟩ := sm_st_I (l := sm_withyes) hs (n := 5) rfl (by decide) sm_fl4.1 sm_fl4.2.1 sm_fl4.2.2 (hts _ (sm_chunk_in (List.mem_of_getElem? (show (sm_chunk 4)[167]? = some _ from rfl)))) (hwl _ (sm_inw 0 13 rfl rfl))
  obtain ⟨scr, x1, x2, x3, x4, x5⟩ := hX
  have hnA : ¬ sm_A s.heap.size b := Nat.not_le.mpr hbl
  have T4 : va_T .int b L (fun j => .int (xs j)) (sm_A s.heap.size) s s.heap := ⟨scr, x1, x2, x3, by rw [x4]; exact Nat.le_refl L, by rw [x4], x5, hnA⟩
  obtain ⟨ct, hct⟩ : ∃ ct : Nat → ClassId, ct = fun t => match t with
    | 0 => a0
    | 1 => a1
    | 2 => a2
    | _ => a3 := ⟨_, rfl⟩
  obtain ⟨tt, htt⟩ : ∃ tt : Nat → Nat, tt = fun t => match t with
    | 0 => t0
    | 1 => t1
    | 2 => t2
    | 3 => t3
    | _ => b := ⟨_, rfl⟩
  have hK : va_K (dC, dI) vwCl (sm_tys ct) s := by
    refine ⟨hKc, fun k q hq => ?_⟩
    subst hct
    match k, hq with
    | 0, hq => cases hq; exact ⟨hr0, hf0⟩
    | 1, hq => cases hq; exact ⟨hr1, hf1⟩
    | 2, hq => cases hq; exact ⟨hr2, hf2⟩
    | 3, hq => cases hq; exact ⟨hr3, hf3⟩
    | k + 4, hq => simp [sm_tys] at hq
  have hG : sm_G s.heap.size ct tt (dC, dI) (L, xs) s := by
    refine ⟨hK, Nat.le_refl _, fun k q hq => ?_, fun p q hq => ?_, fun p q hq => ?_, fun q hq => ?_⟩
    · subst htt
      match k, hq with
      | 0, hq => cases hq; exact z0
      | 1, hq => cases hq; exact z1
      | 2, hq => cases hq; exact z2
      | 3, hq => cases hq; exact z3
      | k + 4, hq => simp [sm_stn] at hq
    · unfold sm_sI at hq
      subst htt
      split at hq
      · cases hq; exact ⟨by decide, T1⟩
      · cases hq; exact ⟨by decide, T2⟩
      · cases hq; exact ⟨by decide, T3⟩
      · cases hq; exact ⟨by decide, T4⟩
      · cases hq
    · unfold sm_sL at hq
      subst htt
      split at hq
      · cases hq; exact ⟨by decide, T0⟩
      · cases hq
    · simp only [sm_nest, List.mem_cons, List.not_mem_nil, or_false] at hq
      rcases hq with rfl | rfl | rfl | rfl | rfl | rfl | rfl | rfl
      · exact va_Nw.of rfl (hts _ (sm_chunk_in (k := 0) (List.mem_of_getElem? (i := 28) rfl)))
      · exact va_Nw.of rfl (hts _ (sm_chunk_in (k := 0) (List.mem_of_getElem? (i := 34) rfl)))
      · exact va_Nw.of rfl (hts _ (sm_chunk_in (k := 0) (List.mem_of_getElem? (i := 60) rfl)))
      · exact va_Nw.of rfl (hts _ (sm_chunk_in (k := 1) (List.mem_of_getElem? (i := 53) rfl)))
      · exact va_Nw.of rfl (hts _ (sm_chunk_in (k := 2) (List.mem_of_getElem? (i := 177) rfl)))
      · exact va_Nw.of rfl (hts _ (sm_chunk_in (k := 3) (List.mem_of_getElem? (i := 126) rfl)))
      · exact va_Nw.of rfl (hts _ (sm_chunk_in (k := 3) (List.mem_of_getElem? (i := 228) rfl)))
      · exact va_Nw.of rfl (hts _ (sm_chunk_in (k := 4) (List.mem_of_getElem? (i := 211) rfl)))
  obtain ⟨n, z, hrun, hz⟩ := hmain L xs hL
  have hXX : sm_X s.heap.size ct tt (dC, dI) (L, xs) (sm_P 307) 60 p room_1 s m #[Value.ref b] meth c := ⟨hx, hb, hml, hown, hwl, fun h => absurd h (by decide), by decide, by decide, by decide, by decide, hG⟩
  have he : sm_end s.heap.size ct tt (dC, dI) (sm_P 307) p l e room_1 s m #[Value.ref b] below meth c (lw_Z below #[Value.ref b] s) z := by
    intro H locs pc ls i hd hq hP hS
    rw [hz] at hq ⊢
    rcases hq with ⟨rfl, -⟩ | ⟨-, x, h, -⟩ | ⟨-, x, h, -⟩ | ⟨-, h, -⟩
    · refine va_forget (fun q hq => hS.2.2 q hq) (W.widen (k := 600000) (n := 7302250) (by decide) (by decide) ?_)
      exact lw_ret hx hb hr hlocks hd
    · cases h
    · cases h
    · cases h
  have hblk : ∃ (B : sm_B) (live : List Nat), (sm_blks (sm_P 307))[0]? = some B ∧ B.1 = 0 ∧ B.2.1 = some live := ⟨_, _, rfl, rfl, rfl⟩
  obtain ⟨B, live, hB, hB0, hlive⟩ := hblk
  have k1 := sm_run_ok sm_cf sm_okAll n 60 307 p e room_1 s m #[Value.ref b] below meth c _ z hXX he 0 [.ref 1004] [] sm_w0 (0, 0) B live hB hlive hrun
  have hl := lv_entry ([.ref b]) (n := 4) (Nat.le_of_ble_eq_true rfl)
  rw [lg_entry_eq]
  generalize (lg_sl ([.ref b]) ++ List.replicate (4 - (lg_sl ([.ref b])).length) Slot.unset).toArray = ls at hl ⊢
  rw [if_pos rfl, hB0] at k1
  have e4 : (lv_args 0 [.ref 1004]).map (sm_cq s.heap.size tt) = lv_args 0 [.ref b] := by
    subst htt
    rfl
  exact k1 s.heap [] ls (by rw [e4]; exact hl) (fun k q h => by simp [sm_ws, sm_w0] at h) va_S.rf rfl (by decide) ⟨Nat.zero_le _, Nat.zero_le _⟩
end
section
/-! the world behind both constructors: layout, references (five of them change: which of the two Told) -/
def xLay : List (Nat × Nat) := [(0, 11), (2, 2000), (0, 7), (0, 9), (1, 502), (1, 502), (4, 502), (0, 3), (1, 15), (4, 35), (1, 35), (1, 35), (0, 10), (1, 36), (1, 10), (1, 10), (0, 8), (1, 10), (1, 10), (1, 10), (1, 10), (1, 10), (1, 10), (1, 40), (0, 8), (1, 120), (1, 120), (1, 120), (1, 120), (0, 8), (1, 5), (1, 5), (1, 5), (1, 5), (1, 45), (1, 45), (1, 45), (0, 4), (1, 10), (1, 55), (0, 8), (1, 6), (1, 6), (1, 6), (1, 6), (0, 1), (1, 1000), (1, 1000), (4, 1000), (0, 10), (1, 36), (1, 10), (1, 10), (0, 8), (1, 10), (1, 10), (1, 10), (1, 10), (1, 10), (1, 10), (1, 40), (0, 8), (1, 120), (1, 120), (1, 120), (1, 120), (0, 8), (1, 5), (1, 5), (1, 5), (1, 5), (1, 45), (1, 45), (1, 45), (0, 2), (0, 5), (1, 7381), (1, 11), (1, 11), (1, 11), (1, 60), (1, 60), (0, 2), (0, 5), (1, 6776), (1, 11), (1, 11), (1, 11), (1, 55), (1, 55), (0, 2), (0, 5), (1, 9504), (1, 12), (1, 12), (1, 12), (1, 65), (1, 65), (0, 6), (3, 1024), (1, 252), (1, 252), (1, 55), (0, 0), (1, 64), (1, 1024), (1, 1024), (0, 12), (2, 2000), (2, 2000), (1, 503), (1, 503), (1, 503), (4, 503), (4, 15), (4, 50), (1, 50), (1, 50), (1, 2), (1, 2), (1, 2), (1, 72), (1, 2), (1, 20), (1, 20), (1, 2), (3, 20), (1, 20), (1, 20), (1, 80), (1, 260), (1, 260), (1, 260), (1, 260), (1, 2), (1, 20), (1, 2), (3, 10), (1, 10), (1, 36), (1, 45), (1, 45), (1, 45), (1, 12000), (1, 6), (1, 6), (1, 6), (1, 6), (1, 70), (1, 70), (1, 70), (1, 10), (1, 10), (2, 55100), (2, 1000), (2, 1000), (3, 1000), (3, 1024), (1, 1024), (1, 1024), (1, 60), (1, 60), (3, 60), (1, 243), (1, 243), (1, 6)]
theorem sm_ci0 {P : Nat → sm_M} {S : sm_C} {d g : Nat} {as : List Value} {w : sm_W} {cs : Nat × Nat} {lay : List (Nat × Nat)} {R : sm_R} {C : Int32 → sm_I → sm_L → Prop} {K : sm_Z → Prop} (h : sm_wp P S d g 0 as [] w cs (fun z => ∃ (r : Int32) (I2 : sm_I) (L2 : sm_L), z = (some (.int r), (lay, I2, L2, R)) ∧ C r I2 L2)) (hC : ∀ (r : Int32) (I2 : sm_I) (L2 : sm_L), C r I2 L2 → K (some (.int r), (lay, I2, L2, R))) : sm_wp P S d g 0 as [] w cs K := sm_wp_mono h (fun z q => by
  obtain ⟨r, I2, L2, rfl, c⟩ := q
  exact hC r I2 L2 c)
theorem sm_cv0 {P : Nat → sm_M} {S : sm_C} {d g : Nat} {as : List Value} {w : sm_W} {cs : Nat × Nat} {lay : List (Nat × Nat)} {R : sm_R} {C : sm_I → sm_L → Prop} {K : sm_Z → Prop} (h : sm_wp P S d g 0 as [] w cs (fun z => ∃ (I2 : sm_I) (L2 : sm_L), z = (none, (lay, I2, L2, R)) ∧ C I2 L2)) (hC : ∀ (I2 : sm_I) (L2 : sm_L), C I2 L2 → K (none, (lay, I2, L2, R))) : sm_wp P S d g 0 as [] w cs K := sm_wp_mono h (fun z q => by
  obtain ⟨I2, L2, rfl, c⟩ := q
  exact hC I2 L2 c)
end
section
/-! THE ENGINE: regions between cuts run over symbols with intervals; calls by contract. Values, lists, locals. -/
abbrev en_V : Type := Nat × Int
abbrev en_L : Type := List (Nat × en_V)
abbrev en_E : Type := List (Int × Int)
noncomputable def en_le (a b : Int) : Bool := Int.rec (motive := fun _ => Bool) (fun _ => true) (fun _ => false) (Int.sub b a)
noncomputable def en_eq (a b : Int) : Bool := Int.rec (motive := fun _ => Bool) (fun n => Nat.beq n 0) (fun _ => false) (Int.sub a b)
theorem en_le_iff {a b : Int} : en_le a b = true ↔ a ≤ b := by
  unfold en_le
  have e : Int.sub b a = b - a := rfl
  rw [e]
  cases h : b - a with
  | ofNat n => exact ⟨fun _ => by have : b - a = (n : Int) := h; omega, fun _ => rfl⟩
  | negSucc n => exact ⟨fun q => (by cases q), fun q => by have : b - a = Int.negSucc n := h; rw [Int.negSucc_eq] at this; omega⟩
theorem en_eq_iff {a b : Int} : en_eq a b = true ↔ a = b := by
  unfold en_eq
  have e : Int.sub a b = a - b := rfl
  rw [e]
  cases h : a - b with
  | ofNat n =>
    have h : a - b = (n : Int) := h
    constructor
    · intro q
      have : n = 0 := Nat.eq_of_beq_eq_true q
      omega
    · intro q
      have : n = 0 := by omega
      subst this
      rfl
  | negSucc n => exact ⟨fun q => (by cases q), fun q => by have : a - b = Int.negSucc n := h; rw [Int.negSucc_eq] at this; omega⟩
theorem en_le_no {a b : Int} (h : en_le a b = false) : b < a := by
  rcases Int.lt_or_le b a with q | q
  · exact q
  · rw [en_le_iff.mpr q] at h; cases h
noncomputable def en_tg {α : Type} (t : Lean.RArray α) : Nat → α := Lean.RArray.rec (motive := fun _ => Nat → α) (fun v _ => v) (fun _ _ _ gl gr k => bif Nat.beq (Nat.mod k 2) 0 then gl (Nat.div k 2) else gr (Nat.div k 2)) t
/-! values -/
def en_isI (t : Nat) : Bool := Nat.beq t 0 || Nat.ble 7 t
def en_gi (xs : List Int) (a : en_V) (n : Int) : Prop := (a.1 = 0 ∧ n = a.2) ∨ (7 ≤ a.1 ∧ ∃ m, xs[a.1 - 7]? = some m ∧ n = m + a.2)
def en_g (xs : List Int) (a : en_V) (v : Value) : Prop := match v with
  | .int x => en_gi xs a x.toInt
  | .long _ => a.1 = 5
  | .null => a.1 = 1
  | .ref p => a.1 = 2 ∧ a.2 = (p : Int)
  | _ => False
def en_cat (a : en_V) : Nat := bif Nat.beq a.1 5 then 2 else 1
def en_full : Int × Int := (-2147483648, 2147483647)
def en_gs (xs : List Int) : List en_V → List Value → Prop
  | [], [] => True
  | a :: as, v :: vs => en_g xs a v ∧ en_gs xs as vs
  | [], _ :: _ => False
  | _ :: _, [] => False
def en_gl (xs : List Int) : en_L → sm_V → Prop
  | [], [] => True
  | (i, a) :: as, (j, v) :: vs => (i = j ∧ en_g xs a v) ∧ en_gl xs as vs
  | [], _ :: _ => False
  | _ :: _, [] => False
section EnV
variable {xs : List Int} {a b : en_V} {as : List en_V} {lv : en_L} {v : Value} {vs : List Value} {lv' : sm_V}
theorem en_beq {n m : Nat} (h : Nat.beq n m = true) : n = m := Nat.eq_of_beq_eq_true h
theorem en_bne {n m : Nat} (h : Nat.beq n m = false) : n ≠ m := fun e => by
  subst e
  have : Nat.beq n n = true := Nat.beq_refl n
  rw [this] at h
  cases h
theorem en_ble {n m : Nat} (h : Nat.ble n m = true) : n ≤ m := Nat.le_of_ble_eq_true h
theorem en_blt {n m : Nat} (h : Nat.blt n m = true) : n < m := Nat.le_of_ble_eq_true h
theorem en_gi_tag {n : Int} (h : en_gi xs a n) : a.1 = 0 ∨ 7 ≤ a.1 := by
  rcases h with ⟨q, -⟩ | ⟨q, -⟩
  · exact Or.inl q
  · exact Or.inr q
theorem en_isI_of (h : en_isI a.1 = true) (hg : en_g xs a v) : ∃ x, v = .int x ∧ en_gi xs a x.toInt := by
  have h1 : a.1 = 0 ∨ 7 ≤ a.1 := by
    rcases Bool.or_eq_true_iff.mp h with h | h
    · exact Or.inl (en_beq h)
    · exact Or.inr (en_ble h)
  cases v with
  | int x => exact ⟨x, rfl, hg⟩
  | long x => have q : a.1 = 5 := hg; omega
  | null => have q : a.1 = 1 := hg; omega
  | ref p => have q := hg.1; omega
  | float _ => exact hg.elim
  | double _ => exact hg.elim
  | retAddr _ => exact hg.elim
theorem en_gi0 (n : Int) : en_gi xs (0, n) n := Or.inl ⟨rfl, rfl⟩
theorem en_0_of (h : a.1 = 0) (hg : en_g xs a v) : ∃ x, v = .int x ∧ x.toInt = a.2 := by
  obtain ⟨x, rfl, q⟩ := en_isI_of (by rw [h]; rfl) hg
  refine ⟨x, rfl, ?_⟩
  rcases q with ⟨-, q⟩ | ⟨q, -⟩
  · exact q
  · omega
theorem en_ref_of (h : a.1 = 2) (hg : en_g xs a v) : ∃ p : Nat, v = .ref p ∧ a.2 = (p : Int) := by
  cases v with
  | int x => have := en_gi_tag hg; omega
  | long x => have q : a.1 = 5 := hg; omega
  | null => have q : a.1 = 1 := hg; omega
  | ref p => exact ⟨p, rfl, hg.2⟩
  | float _ => exact hg.elim
  | double _ => exact hg.elim
  | retAddr _ => exact hg.elim
theorem en_null_of (h : a.1 = 1) (hg : en_g xs a v) : v = .null := by
  cases v with
  | int x => have := en_gi_tag hg; omega
  | long x => have q : a.1 = 5 := hg; omega
  | null => rfl
  | ref p => have q := hg.1; omega
  | float _ => exact hg.elim
  | double _ => exact hg.elim
  | retAddr _ => exact hg.elim
theorem en_long_of (h : a.1 = 5) (hg : en_g xs a v) : ∃ x, v = .long x := by
  cases v with
  | int x => have := en_gi_tag hg; omega
  | long x => exact ⟨x, rfl⟩
  | null => have q : a.1 = 1 := hg; omega
  | ref p => have q := hg.1; omega
  | float _ => exact hg.elim
  | double _ => exact hg.elim
  | retAddr _ => exact hg.elim
theorem en_cat_of (hg : en_g xs a v) : v.category = en_cat a := by
  obtain ⟨t, i⟩ := a
  cases v with
  | int x =>
    show 1 = bif Nat.beq t 5 then 2 else 1
    have h2 : Nat.beq t 5 = false := by
      cases e : Nat.beq t 5 with
      | false => rfl
      | true => have h1 := en_beq e; have h3 := en_gi_tag hg; simp only at h3; omega
    rw [h2]; rfl
  | long x => have q : t = 5 := hg; subst q; rfl
  | null => have q : t = 1 := hg; subst q; rfl
  | ref p => have q : t = 2 := hg.1; subst q; rfl
  | float _ => exact hg.elim
  | double _ => exact hg.elim
  | retAddr _ => exact hg.elim
/-! more symbols at the end change nothing -/
theorem en_gi_app {n : Int} (ys : List Int) (h : en_gi xs a n) : en_gi (xs ++ ys) a n := by
  rcases h with h | ⟨q, m, h1, h2⟩
  · exact Or.inl h
  · refine Or.inr ⟨q, m, ?_, h2⟩
    rw [List.getElem?_append_left (List.getElem?_eq_some_iff.mp h1).1]
    exact h1
theorem en_g_app (ys : List Int) (h : en_g xs a v) : en_g (xs ++ ys) a v := by
  cases v with
  | int x => exact en_gi_app ys h
  | long x => exact h
  | null => exact h
  | ref p => exact h
  | float _ => exact h.elim
  | double _ => exact h.elim
  | retAddr _ => exact h.elim
theorem en_gs_app' (ys : List Int) : ∀ {as : List en_V} {vs : List Value}, en_gs xs as vs → en_gs (xs ++ ys) as vs
  | [], [], _ => trivial
  | a :: as, v :: vs, h => ⟨en_g_app ys h.1, en_gs_app' ys h.2⟩
  | [], _ :: _, h => h.elim
  | _ :: _, [], h => h.elim
theorem en_gl_app (ys : List Int) : ∀ {lv : en_L} {lv' : sm_V}, en_gl xs lv lv' → en_gl (xs ++ ys) lv lv'
  | [], [], _ => trivial
  | (i, a) :: as, (j, v) :: vs, h => ⟨⟨h.1.1, en_g_app ys h.1.2⟩, en_gl_app ys h.2⟩
  | [], _ :: _, h => h.elim
  | _ :: _, [], h => h.elim
theorem en_gs_cons (h : en_gs xs (a :: as) vs) : ∃ v r, vs = v :: r ∧ en_g xs a v ∧ en_gs xs as r := by
  cases vs with
  | nil => exact h.elim
  | cons v r => exact ⟨v, r, rfl, h.1, h.2⟩
theorem en_gs_nil (h : en_gs xs [] vs) : vs = [] := by
  cases vs with
  | nil => rfl
  | cons v r => exact h.elim
theorem en_gs_len : ∀ {as : List en_V} {vs : List Value}, en_gs xs as vs → as.length = vs.length
  | [], [], _ => rfl
  | a :: as, v :: vs, h => by simp only [List.length_cons]; rw [en_gs_len h.2]
  | [], _ :: _, h => h.elim
  | _ :: _, [], h => h.elim
theorem en_gs_app : ∀ {as : List en_V} {vs : List Value} {bs : List en_V} {us : List Value}, en_gs xs as vs → en_gs xs bs us → en_gs xs (as ++ bs) (vs ++ us)
  | [], [], _, _, _, h2 => h2
  | a :: as, v :: vs, _, _, h, h2 => ⟨h.1, en_gs_app h.2 h2⟩
  | [], _ :: _, _, _, h, _ => h.elim
  | _ :: _, [], _, _, h, _ => h.elim
theorem en_gs_rev : ∀ {as : List en_V} {vs : List Value}, en_gs xs as vs → en_gs xs as.reverse vs.reverse
  | [], [], _ => trivial
  | a :: as, v :: vs, h => by
    rw [List.reverse_cons, List.reverse_cons]
    exact en_gs_app (en_gs_rev h.2) ⟨h.1, trivial⟩
  | [], _ :: _, h => h.elim
  | _ :: _, [], h => h.elim
theorem en_gs_take : ∀ (n : Nat) {as : List en_V} {vs : List Value}, en_gs xs as vs → en_gs xs (as.take n) (vs.take n)
  | 0, _, _, _ => trivial
  | n + 1, [], [], _ => trivial
  | n + 1, a :: as, v :: vs, h => ⟨h.1, en_gs_take n h.2⟩
  | _ + 1, [], _ :: _, h => h.elim
  | _ + 1, _ :: _, [], h => h.elim
theorem en_gs_drop : ∀ (n : Nat) {as : List en_V} {vs : List Value}, en_gs xs as vs → en_gs xs (as.drop n) (vs.drop n)
  | 0, _, _, h => h
  | n + 1, [], [], _ => trivial
  | n + 1, a :: as, v :: vs, h => en_gs_drop n h.2
  | _ + 1, [], _ :: _, h => h.elim
  | _ + 1, _ :: _, [], h => h.elim
/-! locals -/
noncomputable def en_lk (lv : en_L) (i : Nat) (c : en_V → Bool) : Bool := List.rec (motive := fun _ => Bool) false (fun q _ ih => bif Nat.beq q.1 i then c q.2 else ih) lv
theorem en_lk_ok {i : Nat} {c : en_V → Bool} : ∀ {lv : en_L} {lv' : sm_V}, en_gl xs lv lv' → en_lk lv i c = true → ∃ a v, sm_lk lv' i = some v ∧ en_g xs a v ∧ c a = true
  | [], _, _, h => by cases h
  | (j, a) :: r, (j', v) :: r', hg, h => by
    obtain ⟨⟨rfl, h1⟩, h2⟩ := hg
    have h : (bif Nat.beq j i then c a else en_lk r i c) = true := h
    cases e : Nat.beq j i with
    | true =>
      rw [e] at h
      have := en_beq e
      subst this
      exact ⟨a, v, by show (if j = j then some v else sm_lk r' j) = some v; rw [if_pos rfl], h1, h⟩
    | false =>
      rw [e] at h
      obtain ⟨a', v', q1, q2, q3⟩ := en_lk_ok h2 h
      exact ⟨a', v', by show (if j = i then some v else sm_lk r' i) = some v'; rw [if_neg (en_bne e)]; exact q1, q2, q3⟩
  | _ :: _, [], h, _ => h.elim
noncomputable def en_pick (live : List Nat) (lv : en_L) : (List en_V → Bool) → Bool := List.rec (motive := fun _ => (List en_V → Bool) → Bool) (fun c => c []) (fun i _ ih c => en_lk lv i (fun v => ih (fun vs => c (v :: vs)))) live
theorem en_pick_ok (hg : en_gl xs lv lv') : ∀ {live : List Nat} {c : List en_V → Bool}, en_pick live lv c = true → ∃ as vs, sm_pick live lv' = some vs ∧ en_gs xs as vs ∧ c as = true
  | [], c, h => ⟨[], [], rfl, trivial, h⟩
  | i :: r, c, h => by
    have h : en_lk lv i (fun v => en_pick r lv (fun vs => c (v :: vs))) = true := h
    obtain ⟨a, v, q1, q2, h⟩ := en_lk_ok hg h
    obtain ⟨as, vs, q3, q4, q5⟩ := en_pick_ok hg h
    exact ⟨a :: as, v :: vs, by simp only [sm_pick, q1, q3], ⟨q2, q4⟩, q5⟩
def en_f1 (i : Nat) (q : Nat × en_V) : Bool := !(Nat.beq q.1 i) && !(Nat.beq (Nat.succ q.1) i && Nat.beq (en_cat q.2) 2)
def en_f2 (i : Nat) (q : Nat × en_V) : Bool := !(Nat.beq q.1 i) && (!(Nat.beq q.1 (Nat.succ i)) && !(Nat.beq (Nat.succ q.1) i && Nat.beq (en_cat q.2) 2))
noncomputable def en_flt (f : Nat × en_V → Bool) (lv : en_L) : en_L := List.rec (motive := fun _ => en_L) [] (fun q _ ih => bif f q then q :: ih else ih) lv
theorem en_flt_eq (f : Nat × en_V → Bool) : ∀ lv : en_L, en_flt f lv = lv.filter f
  | [] => rfl
  | q :: r => by
    show (bif f q then q :: en_flt f r else en_flt f r) = _
    rw [en_flt_eq f r]
    cases e : f q with
    | true => rw [List.filter_cons_of_pos e]; rfl
    | false => rw [List.filter_cons_of_neg (by rw [e]; decide)]; rfl
noncomputable def en_s1 (lv : en_L) (i : Nat) (a : en_V) : en_L := (i, a) :: en_flt (en_f1 i) lv
noncomputable def en_s2 (lv : en_L) (i : Nat) (a : en_V) : en_L := (i, a) :: en_flt (en_f2 i) lv
theorem en_beq_eq (n m : Nat) : Nat.beq n m = (n == m) := by
  rw [Bool.eq_iff_iff, beq_iff_eq]
  exact ⟨en_beq, fun e => by rw [e]; exact Nat.beq_refl m⟩
theorem en_filter {f : Nat × en_V → Bool} {g : Nat × Value → Bool} (hfg : ∀ j a v, en_g xs a v → f (j, a) = g (j, v)) : ∀ {lv : en_L} {lv' : sm_V}, en_gl xs lv lv' → en_gl xs (lv.filter f) (lv'.filter g)
  | [], [], _ => trivial
  | (j, a) :: r, (j', v) :: r', hg => by
    obtain ⟨⟨rfl, h1⟩, h2⟩ := hg
    have e := hfg j a v h1
    cases q : f (j, a) with
    | true =>
      rw [List.filter_cons_of_pos q, List.filter_cons_of_pos (by rw [← e]; exact q)]
      exact ⟨⟨rfl, h1⟩, en_filter hfg h2⟩
    | false =>
      rw [List.filter_cons_of_neg (by rw [q]; decide), List.filter_cons_of_neg (by rw [← e, q]; decide)]
      exact en_filter hfg h2
  | [], _ :: _, h => h.elim
  | _ :: _, [], h => h.elim
theorem en_s1_ok {i : Nat} (hg : en_gl xs lv lv') (h : en_g xs a v) : en_gl xs (en_s1 lv i a) (sm_s1 lv' i v) := by
  unfold en_s1
  rw [en_flt_eq]
  refine ⟨⟨rfl, h⟩, en_filter (fun j a v q => ?_) hg⟩
  rw [en_cat_of q]
  simp only [en_f1, en_beq_eq, Nat.succ_eq_add_one]
theorem en_s2_ok {i : Nat} (hg : en_gl xs lv lv') (h : en_g xs a v) : en_gl xs (en_s2 lv i a) (sm_s2 lv' i v) := by
  unfold en_s2
  rw [en_flt_eq]
  refine ⟨⟨rfl, h⟩, en_filter (fun j a v q => ?_) hg⟩
  rw [en_cat_of q]
  simp only [en_f2, en_beq_eq, Nat.succ_eq_add_one]
noncomputable def en_args (i : Nat) (as : List en_V) : en_L := List.rec (motive := fun _ => Nat → en_L) (fun _ => []) (fun v _ ih i => (i, v) :: ih (bif Nat.beq (en_cat v) 2 then Nat.succ (Nat.succ i) else Nat.succ i)) as i
theorem en_args_ok : ∀ {as : List en_V} {vs : List Value} (i : Nat), en_gs xs as vs → en_gl xs (en_args i as) (lv_args i vs)
  | [], [], _, _ => trivial
  | a :: as, v :: vs, i, h => by
    refine ⟨⟨rfl, h.1⟩, ?_⟩
    have e : (bif Nat.beq (en_cat a) 2 then Nat.succ (Nat.succ i) else Nat.succ i) = (if v.category = 2 then i + 2 else i + 1) := by
      rw [en_cat_of h.1]
      cases q : Nat.beq (en_cat a) 2 with
      | true => rw [if_pos (en_beq q)]; rfl
      | false => rw [if_neg (en_bne q)]; rfl
    show en_gl xs (en_args (bif Nat.beq (en_cat a) 2 then Nat.succ (Nat.succ i) else Nat.succ i) as) (lv_args (if v.category = 2 then i + 2 else i + 1) vs)
    rw [e]
    exact en_args_ok _ h.2
  | [], _ :: _, _, h => h.elim
  | _ :: _, [], _, h => h.elim
noncomputable def en_zip (is : List Nat) : List en_V → en_L := List.rec (motive := fun _ => List en_V → en_L) (fun _ => []) (fun i _ ih vs => List.rec (motive := fun _ => en_L) [] (fun v r _ => (i, v) :: ih r) vs) is
theorem en_zip_ok : ∀ {is : List Nat} {as : List en_V} {vs : List Value}, en_gs xs as vs → en_gl xs (en_zip is as) (is.zip vs)
  | [], _, _, _ => by rw [List.zip_nil_left]; exact trivial
  | i :: is, [], [], _ => trivial
  | i :: is, a :: as, v :: vs, h => ⟨⟨rfl, h.1⟩, en_zip_ok h.2⟩
  | _ :: _, [], _ :: _, h => h.elim
  | _ :: _, _ :: _, [], h => h.elim
noncomputable def en_slots (as : List en_V) : Nat := List.rec (motive := fun _ => Nat) 0 (fun a _ ih => Nat.add (en_cat a) ih) as
theorem en_slots_ok : ∀ {as : List en_V} {vs : List Value}, en_gs xs as vs → (lg_sl vs).length = en_slots as
  | [], [], _ => rfl
  | a :: as, v :: vs, h => by
    have e1 : (lg_sl (v :: vs)).length = (if v.category = 2 then [Slot.val v, .second] else [.val v]).length + (lg_sl vs).length := by
      simp only [lg_sl, List.flatMap_cons, List.length_append]
    rw [e1, en_slots_ok h.2]
    show _ = en_cat a + en_slots as
    rw [← en_cat_of h.1]
    cases v <;> rfl
  | [], _ :: _, h => h.elim
  | _ :: _, [], h => h.elim
end EnV
end
section
/-! symbols with intervals; arithmetic; tests -/
def en_sat (ρ : List Int) (E : en_E) : Prop := E.length = ρ.length ∧ ∀ (k : Nat) (m : Int) (q : Int × Int), ρ[k]? = some m → E[k]? = some q → q.1 ≤ m ∧ m ≤ q.2
def en_iv (E : en_E) (a : en_V) : Int × Int := bif Nat.beq a.1 0 then (a.2, a.2) else match E[Nat.sub a.1 7]? with
  | some q => (q.1 + a.2, q.2 + a.2)
  | none => en_full
noncomputable def en_cap (q : Int × Int) : Int × Int := bif en_le (-2147483648) q.1 && en_le q.2 2147483647 then q else en_full
def en_new (E : en_E) (q : Int × Int) (c : en_E → en_V → Bool) : Bool := c (E ++ [q]) (Nat.add 7 E.length, 0)
noncomputable def en_sub (p q : Int × Int) : Bool := en_le q.1 p.1 && en_le p.2 q.2
section EnA
variable {ρ : List Int} {E : en_E} {a b : en_V} {n : Int}
theorem en_bif {p : Bool} {x y : Bool} (h : (bif p then x else y) = true) : (p = true ∧ x = true) ∨ (p = false ∧ y = true) := by
  cases p
  · exact Or.inr ⟨rfl, h⟩
  · exact Or.inl ⟨rfl, h⟩
theorem en_bif0 {p : Bool} {x : Bool} (h : (bif p then x else false) = true) : p = true ∧ x = true := by
  rcases en_bif h with q | ⟨-, q⟩
  · exact q
  · cases q
theorem en_and2 {p q : Bool} (h : (p && q) = true) : p = true ∧ q = true := Bool.and_eq_true_iff.mp h
theorem en_isI0 (h : a.1 = 0) : en_isI a.1 = true := by rw [h]; rfl
theorem en_isI7 (h : 7 ≤ a.1) : en_isI a.1 = true := by
  have : Nat.ble 7 a.1 = true := Nat.ble_eq_true_of_le h
  simp only [en_isI, this, Bool.or_true]
theorem en_crange {x : Int32} : -2147483648 ≤ x.toInt ∧ x.toInt ≤ 2147483647 := by
  have l1 := Int32.le_toInt x
  have l2 := Int32.toInt_lt x
  have e31 : (2 : Int) ^ 31 = 2147483648 := by decide
  rw [e31] at l1 l2
  omega
theorem en_ofI {x y : Int32} (h : x.toInt = y.toInt) : x = y := Int32.toInt_inj.mp h
theorem en_bmod {s r : Int} (h1 : -2147483648 ≤ r) (h2 : r ≤ 2147483647) (h : s = r ∨ s + 4294967296 = r ∨ s - 4294967296 = r) : s.bmod (2 ^ 32) = r := by
  have e : (2 ^ 32 : Nat) = 4294967296 := by decide
  rw [e, Int.bmod_def]
  split <;> omega
theorem en_iv_ok (hE : en_sat ρ E) (hg : en_gi ρ a n) (hr : -2147483648 ≤ n ∧ n ≤ 2147483647) : (en_iv E a).1 ≤ n ∧ n ≤ (en_iv E a).2 := by
  unfold en_iv
  rcases hg with ⟨q, rfl⟩ | ⟨q, m, h1, rfl⟩
  · have : Nat.beq a.1 0 = true := by rw [q]; rfl
    rw [this]
    exact ⟨Int.le_refl _, Int.le_refl _⟩
  · have : Nat.beq a.1 0 = false := by
      cases e : Nat.beq a.1 0 with
      | false => rfl
      | true => have := en_beq e; omega
    rw [this]
    have e' : Nat.sub a.1 7 = a.1 - 7 := rfl
    rw [e']
    show (match E[a.1 - 7]? with
      | some q => (q.1 + a.2, q.2 + a.2)
      | none => en_full).1 ≤ m + a.2 ∧ m + a.2 ≤ (match E[a.1 - 7]? with
      | some q => (q.1 + a.2, q.2 + a.2)
      | none => en_full).2
    cases e : E[a.1 - 7]? with
    | none => exact hr
    | some q =>
      have := hE.2 _ _ _ h1 e
      exact ⟨by show q.1 + a.2 ≤ m + a.2; omega, by show m + a.2 ≤ q.2 + a.2; omega⟩
theorem en_ivx {x : Int32} (hE : en_sat ρ E) (hg : en_gi ρ a x.toInt) : (en_iv E a).1 ≤ x.toInt ∧ x.toInt ≤ (en_iv E a).2 := en_iv_ok hE hg en_crange
theorem en_sub_of {p q : Int × Int} (h : en_sub p q = true) : q.1 ≤ p.1 ∧ p.2 ≤ q.2 := by
  obtain ⟨h1, h2⟩ := en_and2 h
  exact ⟨en_le_iff.mp h1, en_le_iff.mp h2⟩
theorem en_new_ok {q : Int × Int} {c : en_E → en_V → Bool} (hE : en_sat ρ E) (h : en_new E q c = true) (m : Int) (hm : q.1 ≤ m ∧ m ≤ q.2) : ∃ E' r, en_sat (ρ ++ [m]) E' ∧ en_gi (ρ ++ [m]) r m ∧ c E' r = true := by
  refine ⟨E ++ [q], (7 + E.length, 0), ⟨by simp [hE.1], fun k m' q' h1 h2 => ?_⟩, Or.inr ⟨by show 7 ≤ 7 + E.length; omega, m, ?_, by omega⟩, h⟩
  · rcases Nat.lt_or_ge k ρ.length with hk | hk
    · rw [List.getElem?_append_left hk] at h1
      rw [List.getElem?_append_left (by rw [hE.1]; exact hk)] at h2
      exact hE.2 k m' q' h1 h2
    · rw [List.getElem?_append_right hk] at h1
      rw [List.getElem?_append_right (by rw [hE.1]; exact hk), hE.1] at h2
      cases e : k - ρ.length with
      | zero =>
        rw [e] at h1 h2
        cases h1
        cases h2
        exact hm
      | succ i => rw [e] at h1; simp at h1
  · have e : ((7 + E.length, 0) : en_V).1 - 7 = ρ.length := by show 7 + E.length - 7 = _; rw [hE.1]; omega
    rw [e]
    simp
/-- an operation of two ints: what is known of its answer -/
def en_ivok (f : Int32 → Int32 → Int32) (g : Int × Int → Int × Int → Int × Int) : Prop := ∀ (p q : Int × Int) (x y : Int32), p.1 ≤ x.toInt → x.toInt ≤ p.2 → q.1 ≤ y.toInt → y.toInt ≤ q.2 → (g p q).1 ≤ (f x y).toInt ∧ (f x y).toInt ≤ (g p q).2
noncomputable def en_bin (f : Int32 → Int32 → Int32) (g : Int × Int → Int × Int → Int × Int) (E : en_E) (a b : en_V) (c : en_E → en_V → Bool) : Bool := bif Nat.beq a.1 0 && Nat.beq b.1 0 then c E (0, (f (Int32.ofInt a.2) (Int32.ofInt b.2)).toInt) else bif en_isI a.1 && en_isI b.1 then en_new E (g (en_iv E a) (en_iv E b)) c else false
def en_binok (bin : en_E → en_V → en_V → (en_E → en_V → Bool) → Bool) (f : Int32 → Int32 → Int32) : Prop := ∀ (ρ : List Int) (E : en_E) (a b : en_V) (v u : Value) (c : en_E → en_V → Bool), en_sat ρ E → bin E a b c = true → en_g ρ a v → en_g ρ b u → ∃ (x y : Int32) (r : en_V) (E' : en_E) (ys : List Int), v = .int x ∧ u = .int y ∧ en_sat (ρ ++ ys) E' ∧ en_g (ρ ++ ys) r (.int (f x y)) ∧ c E' r = true
theorem en_cI {x : Int32} (h : a.1 = 0) (hg : en_gi ρ a x.toInt) : x.toInt = a.2 := by
  rcases hg with ⟨-, q⟩ | ⟨q, -⟩
  · exact q
  · omega
theorem en_cI' {x : Int32} (h : a.1 = 0) (hg : en_gi ρ a x.toInt) : x = Int32.ofInt a.2 := by rw [← en_cI h hg, Int32.ofInt_toInt]
theorem en_bin_ok {f : Int32 → Int32 → Int32} {g : Int × Int → Int × Int → Int × Int} (hf : en_ivok f g) : en_binok (en_bin f g) f := by
  intro ρ E a b v u c hE h ha hb
  unfold en_bin at h
  rcases en_bif h with ⟨q, h⟩ | ⟨-, h⟩
  · obtain ⟨q1, q2⟩ := en_and2 q
    have q1 := en_beq q1
    have q2 := en_beq q2
    obtain ⟨x, rfl, gx⟩ := en_isI_of (en_isI0 q1) ha
    obtain ⟨y, rfl, gy⟩ := en_isI_of (en_isI0 q2) hb
    refine ⟨x, y, _, E, [], rfl, rfl, by rw [List.append_nil]; exact hE, ?_, h⟩
    rw [← en_cI' q1 gx, ← en_cI' q2 gy, List.append_nil]
    exact en_gi0 _
  · obtain ⟨q, h⟩ := en_bif0 h
    obtain ⟨q1, q2⟩ := en_and2 q
    obtain ⟨x, rfl, gx⟩ := en_isI_of q1 ha
    obtain ⟨y, rfl, gy⟩ := en_isI_of q2 hb
    have i1 := en_ivx hE gx
    have i2 := en_ivx hE gy
    obtain ⟨E', r, g1, g2, g3⟩ := en_new_ok hE h (f x y).toInt (hf _ _ x y i1.1 i1.2 i2.1 i2.2)
    exact ⟨x, y, r, E', _, rfl, rfl, g1, g2, g3⟩
theorem en_cap_of {q : Int × Int} {n : Int} (hr : -2147483648 ≤ n ∧ n ≤ 2147483647) (h : (-2147483648 ≤ q.1 ∧ q.2 ≤ 2147483647) → q.1 ≤ n ∧ n ≤ q.2) : (en_cap q).1 ≤ n ∧ n ≤ (en_cap q).2 := by
  unfold en_cap
  cases e : (en_le (-2147483648) q.1 && en_le q.2 2147483647) with
  | true =>
    obtain ⟨e1, e2⟩ := en_and2 e
    exact h ⟨en_le_iff.mp e1, en_le_iff.mp e2⟩
  | false => exact hr
/-! intervals of operations -/
noncomputable def en_gadd (p q : Int × Int) : Int × Int := en_cap (p.1 + q.1, p.2 + q.2)
theorem en_gadd_ok : en_ivok (fun x y => x + y) en_gadd := by
  intro p q x y h1 h2 h3 h4
  refine en_cap_of en_crange (fun ⟨c1, c2⟩ => ?_)
  simp only at c1 c2 ⊢
  rw [Int32.toInt_add, en_bmod (r := x.toInt + y.toInt) (by omega) (by omega) (Or.inl rfl)]
  omega
noncomputable def en_gsub (p q : Int × Int) : Int × Int := en_cap (p.1 - q.2, p.2 - q.1)
theorem en_gsub_ok : en_ivok (fun x y => x - y) en_gsub := by
  intro p q x y h1 h2 h3 h4
  refine en_cap_of en_crange (fun ⟨c1, c2⟩ => ?_)
  simp only at c1 c2 ⊢
  rw [Int32.toInt_sub, en_bmod (r := x.toInt - y.toInt) (by omega) (by omega) (Or.inl rfl)]
  omega
/-- products of numbers that aren't below 0 -/
noncomputable def en_gmul (p q : Int × Int) : Int × Int := bif en_le 0 p.1 && en_le 0 q.1 then en_cap (p.1 * q.1, p.2 * q.2) else en_full
theorem en_gmul_ok : en_ivok (fun x y => x * y) en_gmul := by
  intro p q x y h1 h2 h3 h4
  unfold en_gmul
  cases e : (en_le 0 p.1 && en_le 0 q.1) with
  | false => exact en_crange
  | true =>
    obtain ⟨e1, e2⟩ := en_and2 e
    have e1 := en_le_iff.mp e1
    have e2 := en_le_iff.mp e2
    refine en_cap_of en_crange (fun ⟨c1, c2⟩ => ?_)
    simp only at c1 c2 ⊢
    have m1 : p.1 * q.1 ≤ x.toInt * y.toInt := Int.mul_le_mul h1 h3 e2 (by omega)
    have m2 : x.toInt * y.toInt ≤ p.2 * q.2 := Int.mul_le_mul h2 h4 (by omega) (by omega)
    rw [Int32.toInt_mul, en_bmod (r := x.toInt * y.toInt) (by omega) (by omega) (Or.inl rfl)]
    exact ⟨m1, m2⟩
def en_gfull (_ _ : Int × Int) : Int × Int := en_full
theorem en_gfull_ok (f : Int32 → Int32 → Int32) : en_ivok f en_gfull := fun _ _ _ _ _ _ _ _ => en_crange
theorem en_bits {x : Int32} (h : 0 ≤ x.toInt) : x.toInt = (x.toBitVec.toNat : Int) := by
  have e : x.toInt = x.toBitVec.toInt := rfl
  rw [e] at h ⊢
  have hlt := x.toBitVec.isLt
  rw [BitVec.toInt_eq_toNat_cond] at h ⊢
  split
  · rfl
  · next c => rw [if_neg c] at h; omega
theorem en_bits2 {x : Int32} {m : Nat} (h : x.toBitVec.toNat ≤ m) (hm : m < 2147483648) : 0 ≤ x.toInt ∧ x.toInt ≤ m := by
  have e : x.toInt = x.toBitVec.toInt := rfl
  rw [e, BitVec.toInt_eq_toNat_of_lt (by omega)]
  omega
noncomputable def en_gand (p q : Int × Int) : Int × Int := bif en_le 0 p.1 then (0, p.2) else bif en_le 0 q.1 then (0, q.2) else en_full
theorem en_gand_ok : en_ivok (fun x y => x &&& y) en_gand := by
  intro p q x y h1 h2 h3 h4
  unfold en_gand
  have r1 := en_crange (x := x)
  have r2 := en_crange (x := y)
  cases e : en_le 0 p.1 with
  | true =>
    have e := en_le_iff.mp e
    have hx : 0 ≤ x.toInt := by omega
    have hb := en_bits hx
    have : (x &&& y).toBitVec.toNat ≤ x.toBitVec.toNat := by
      rw [Int32.toBitVec_and, BitVec.toNat_and]; exact Nat.and_le_left
    have h5 := en_bits2 this (by omega)
    show 0 ≤ (x &&& y).toInt ∧ (x &&& y).toInt ≤ p.2
    omega
  | false =>
    cases e2 : en_le 0 q.1 with
    | true =>
      have e2 := en_le_iff.mp e2
      have hy : 0 ≤ y.toInt := by omega
      have hb := en_bits hy
      have : (x &&& y).toBitVec.toNat ≤ y.toBitVec.toNat := by
        rw [Int32.toBitVec_and, BitVec.toNat_and]; exact Nat.and_le_right
      have h5 := en_bits2 this (by omega)
      show 0 ≤ (x &&& y).toInt ∧ (x &&& y).toInt ≤ q.2
      omega
    | false => exact en_crange
/-- of numbers below 1024 the or is below 1024 -/
noncomputable def en_gor (p q : Int × Int) : Int × Int := bif (en_le 0 p.1 && en_le 0 q.1) && (en_le p.2 1023 && en_le q.2 1023) then (0, 1023) else en_full
theorem en_gor_ok : en_ivok (fun x y => x ||| y) en_gor := by
  intro p q x y h1 h2 h3 h4
  unfold en_gor
  cases e : ((en_le 0 p.1 && en_le 0 q.1) && (en_le p.2 1023 && en_le q.2 1023)) with
  | false => exact en_crange
  | true =>
    obtain ⟨e1, e2⟩ := en_and2 e
    obtain ⟨e3, e4⟩ := en_and2 e1
    obtain ⟨e5, e6⟩ := en_and2 e2
    have e3 := en_le_iff.mp e3
    have e4 := en_le_iff.mp e4
    have e5 := en_le_iff.mp e5
    have e6 := en_le_iff.mp e6
    have b1 := en_bits (x := x) (by omega)
    have b2 := en_bits (x := y) (by omega)
    have : (x ||| y).toBitVec.toNat < 2 ^ 10 := by
      rw [Int32.toBitVec_or, BitVec.toNat_or]
      exact Nat.or_lt_two_pow (by show _ < 1024; omega) (by show _ < 1024; omega)
    have h5 := en_bits2 (m := 1023) (Nat.le_of_lt_succ this) (by decide)
    exact h5
/-- 1 moved up by at most 20 -/
noncomputable def en_gshl (p q : Int × Int) : Int × Int := bif (en_eq p.1 1 && en_eq p.2 1) && (en_le 0 q.1 && en_le q.2 20) then (1, (2 : Int) ^ q.2.toNat) else en_full
theorem en_shl1 : ∀ k : Nat, k ≤ 20 → ((1 : Int32) <<< (Int32.ofNat k &&& 31)).toInt = (2 : Int) ^ k := by decide
theorem en_gshl_ok : en_ivok (fun x y => x <<< (y &&& 31)) en_gshl := by
  intro p q x y h1 h2 h3 h4
  unfold en_gshl
  cases e : ((en_eq p.1 1 && en_eq p.2 1) && (en_le 0 q.1 && en_le q.2 20)) with
  | false => exact en_crange
  | true =>
    obtain ⟨e1, e2⟩ := en_and2 e
    obtain ⟨e3, e4⟩ := en_and2 e1
    obtain ⟨e5, e6⟩ := en_and2 e2
    have e3 := en_eq_iff.mp e3
    have e4 := en_eq_iff.mp e4
    have e5 := en_le_iff.mp e5
    have e6 := en_le_iff.mp e6
    have ex : x = 1 := en_ofI (by have : (1 : Int32).toInt = 1 := by decide
                                  rw [this]; omega)
    have ey : y = Int32.ofNat y.toInt.toNat := by
      apply en_ofI
      rw [Int32.toInt_ofNat', show Int32.size = 2 ^ 32 from rfl, en_bmod (r := y.toInt) (by omega) (by omega) (Or.inl (by omega))]
    subst ex
    rw [ey]
    show 1 ≤ ((1 : Int32) <<< (Int32.ofNat y.toInt.toNat &&& 31)).toInt ∧ _ ≤ (2 : Int) ^ q.2.toNat
    rw [en_shl1 _ (by omega)]
    have m1 : (1 : Int) ≤ 2 ^ y.toInt.toNat := by
      have := Nat.one_le_two_pow (n := y.toInt.toNat)
      have h : ((2 ^ y.toInt.toNat : Nat) : Int) = (2 : Int) ^ y.toInt.toNat := by simp
      omega
    have m2 : (2 : Int) ^ y.toInt.toNat ≤ 2 ^ q.2.toNat := by
      have := Nat.pow_le_pow_right (n := 2) (by decide) (show y.toInt.toNat ≤ q.2.toNat by omega)
      have h : ((2 ^ y.toInt.toNat : Nat) : Int) = (2 : Int) ^ y.toInt.toNat := by simp
      have h' : ((2 ^ q.2.toNat : Nat) : Int) = (2 : Int) ^ q.2.toNat := by simp
      omega
    exact ⟨m1, m2⟩
noncomputable def en_gmax (p q : Int × Int) : Int × Int := (bif en_le p.1 q.1 then q.1 else p.1, bif en_le p.2 q.2 then q.2 else p.2)
noncomputable def en_gmin (p q : Int × Int) : Int × Int := (bif en_le p.1 q.1 then p.1 else q.1, bif en_le p.2 q.2 then p.2 else q.2)
theorem en_selB {c : Bool} {x y : Int} : (bif c then x else y) = if c = true then x else y := by cases c <;> rfl
theorem en_gmax_ok : en_ivok (fun x y => if x < y then y else x) en_gmax := by
  intro p q x y h1 h2 h3 h4
  unfold en_gmax
  simp only [en_selB, en_le_iff]
  by_cases c : x < y
  · rw [if_pos c]; rw [Int32.lt_iff_toInt_lt] at c
    constructor <;> split <;> omega
  · rw [if_neg c]; rw [Int32.lt_iff_toInt_lt] at c
    constructor <;> split <;> omega
theorem en_gmin_ok : en_ivok (fun x y => if y < x then y else x) en_gmin := by
  intro p q x y h1 h2 h3 h4
  unfold en_gmin
  simp only [en_selB, en_le_iff]
  by_cases c : y < x
  · rw [if_pos c]; rw [Int32.lt_iff_toInt_lt] at c
    constructor <;> split <;> omega
  · rw [if_neg c]; rw [Int32.lt_iff_toInt_lt] at c
    constructor <;> split <;> omega
/-! tests: a value against another one; of a symbol the interval becomes less -/
noncomputable def en_cut (E : en_E) (a : en_V) (lo hi : Int) (K : en_E → Bool) : Bool :=
  bif en_le (bif en_le (en_iv E a).1 lo then lo else (en_iv E a).1) (bif en_le hi (en_iv E a).2 then hi else (en_iv E a).2) then (bif Nat.beq a.1 0 then K E else K (E.set (Nat.sub a.1 7) ((bif en_le (en_iv E a).1 lo then lo else (en_iv E a).1) - a.2, (bif en_le hi (en_iv E a).2 then hi else (en_iv E a).2) - a.2))) else true
theorem en_cut_ok {lo hi : Int} {K : en_E → Bool} (h : en_cut E a lo hi K = true) (hE : en_sat ρ E) (hg : en_gi ρ a n) (hr : -2147483648 ≤ n ∧ n ≤ 2147483647) (h1 : lo ≤ n) (h2 : n ≤ hi) : ∃ E', en_sat ρ E' ∧ K E' = true := by
  have i := en_iv_ok hE hg hr
  unfold en_cut at h
  have hl : (bif en_le (en_iv E a).1 lo then lo else (en_iv E a).1) ≤ n := by
    cases en_le (en_iv E a).1 lo
    · exact i.1
    · exact h1
  have hh : n ≤ (bif en_le hi (en_iv E a).2 then hi else (en_iv E a).2) := by
    cases en_le hi (en_iv E a).2
    · exact i.2
    · exact h2
  rcases en_bif h with ⟨-, h⟩ | ⟨q, -⟩
  · rcases en_bif h with ⟨-, h⟩ | ⟨q, h⟩
    · exact ⟨E, hE, h⟩
    · have q := en_bne q
      refine ⟨_, ?_, h⟩
      rcases hg with ⟨q', -⟩ | ⟨q7, m, k1, rfl⟩
      · exact absurd q' q
      · refine ⟨by rw [List.length_set]; exact hE.1, fun k m' r e1 e2 => ?_⟩
        rw [List.getElem?_set] at e2
        have e' : Nat.sub a.1 7 = a.1 - 7 := rfl
        rw [e'] at e2
        by_cases c : a.1 - 7 = k
        · rw [if_pos c] at e2
          subst c
          rw [k1] at e1
          cases e1
          split at e2
          · cases e2
            exact ⟨by show _ - a.2 ≤ m; omega, by show m ≤ _ - a.2; omega⟩
          · cases e2
        · rw [if_neg c] at e2
          exact hE.2 k m' r e1 e2
  · have := en_le_no q
    omega
/-! a symbol and a number -/
noncomputable def en_off (E : en_E) (a : en_V) (z : Int) (c : en_E → en_V → Bool) : Bool := bif en_le (-2147483648) ((en_iv E a).1 + z) && en_le ((en_iv E a).2 + z) 2147483647 then c E (a.1, a.2 + z) else en_new E en_full c
/-- a number from 10 on taken from a symbol: where it may go round, both ways -/
noncomputable def en_offm (E : en_E) (a : en_V) (z : Int) (c : en_E → en_V → Bool) : Bool := bif en_le 10 z && en_le ((en_iv E a).1 - z) (-2147483649) then en_new E (2147483648 - z, 2147483647) c && en_cut E a (-2147483648 + z) 2147483647 (fun E => c E (a.1, a.2 + -z)) else en_off E a (-z) c
noncomputable def en_add (E : en_E) (a b : en_V) (c : en_E → en_V → Bool) : Bool :=
  bif Nat.ble 7 a.1 && Nat.beq b.1 0 then en_off E a b.2 c
  else bif Nat.ble 7 b.1 && Nat.beq a.1 0 then en_off E b a.2 c else en_bin (fun x y => x + y) en_gadd E a b c
noncomputable def en_subv (E : en_E) (a b : en_V) (c : en_E → en_V → Bool) : Bool :=
  bif Nat.ble 7 a.1 && Nat.beq b.1 0 then en_offm E a b.2 c else en_bin (fun x y => x - y) en_gsub E a b c
theorem en_off_ok {z : Int} {x w : Int32} {c : en_E → en_V → Bool} (h : en_off E a z c = true) (h7 : 7 ≤ a.1) (hE : en_sat ρ E) (hg : en_gi ρ a x.toInt) (hw : w.toInt = (x.toInt + z).bmod (2 ^ 32)) : ∃ r E' ys, en_sat (ρ ++ ys) E' ∧ en_g (ρ ++ ys) r (.int w) ∧ c E' r = true := by
  unfold en_off at h
  have i := en_ivx hE hg
  rcases en_bif h with ⟨q, h⟩ | ⟨-, h⟩
  · obtain ⟨q1, q2⟩ := en_and2 q
    have q1 := en_le_iff.mp q1
    have q2 := en_le_iff.mp q2
    rw [en_bmod (r := x.toInt + z) (by omega) (by omega) (Or.inl rfl)] at hw
    refine ⟨_, E, [], by rw [List.append_nil]; exact hE, ?_, h⟩
    rw [List.append_nil]
    rcases hg with ⟨q, -⟩ | ⟨-, m, k1, k2⟩
    · omega
    · exact Or.inr ⟨h7, m, k1, by show w.toInt = m + (a.2 + z); omega⟩
  · obtain ⟨E', r, g1, g2, g3⟩ := en_new_ok hE h w.toInt en_crange
    exact ⟨r, E', _, g1, g2, g3⟩
theorem en_offm_ok {z : Int} {x w : Int32} {c : en_E → en_V → Bool} (h : en_offm E a z c = true) (h7 : 7 ≤ a.1) (hE : en_sat ρ E) (hg : en_gi ρ a x.toInt) (hz : z ≤ 2147483647) (hw : w.toInt = (x.toInt + -z).bmod (2 ^ 32)) : ∃ r E' ys, en_sat (ρ ++ ys) E' ∧ en_g (ρ ++ ys) r (.int w) ∧ c E' r = true := by
  unfold en_offm at h
  rcases en_bif h with ⟨q, h⟩ | ⟨-, h⟩
  · obtain ⟨q1, -⟩ := en_and2 q
    have q1 := en_le_iff.mp q1
    obtain ⟨h1, h2⟩ := en_and2 h
    have i := en_crange (x := x)
    by_cases o : x.toInt < -2147483648 + z
    · rw [en_bmod (r := x.toInt + -z + 4294967296) (by omega) (by omega) (Or.inr (Or.inl rfl))] at hw
      obtain ⟨E', r, g1, g2, g3⟩ := en_new_ok hE h1 w.toInt (by show 2147483648 - z ≤ w.toInt ∧ w.toInt ≤ 2147483647; omega)
      exact ⟨r, E', _, g1, g2, g3⟩
    · rw [en_bmod (r := x.toInt + -z) (by omega) (by omega) (Or.inl rfl)] at hw
      obtain ⟨E', g1, g2⟩ := en_cut_ok h2 hE hg i (by omega) i.2
      refine ⟨_, E', [], by rw [List.append_nil]; exact g1, ?_, g2⟩
      rw [List.append_nil]
      rcases hg with ⟨q, -⟩ | ⟨-, m, k1, k2⟩
      · omega
      · exact Or.inr ⟨h7, m, k1, by show w.toInt = m + (a.2 + -z); omega⟩
  · exact en_off_ok h h7 hE hg hw
theorem en_add_ok : en_binok en_add (fun x y => x + y) := by
  intro ρ E a b v u c hE h ha hb
  unfold en_add at h
  rcases en_bif h with ⟨q, h⟩ | ⟨-, h⟩
  · obtain ⟨q1, q2⟩ := en_and2 q
    have q1 := en_ble q1
    have q2 := en_beq q2
    obtain ⟨x, rfl, gx⟩ := en_isI_of (en_isI7 q1) ha
    obtain ⟨y, rfl, gy⟩ := en_isI_of (en_isI0 q2) hb
    obtain ⟨r, E', ys, g1, g2, g3⟩ := en_off_ok (w := x + y) h q1 hE gx (by rw [← en_cI q2 gy, Int32.toInt_add])
    exact ⟨x, y, r, E', ys, rfl, rfl, g1, g2, g3⟩
  · rcases en_bif h with ⟨q, h⟩ | ⟨-, h⟩
    · obtain ⟨q1, q2⟩ := en_and2 q
      have q1 := en_ble q1
      have q2 := en_beq q2
      obtain ⟨y, rfl, gy⟩ := en_isI_of (en_isI7 q1) hb
      obtain ⟨x, rfl, gx⟩ := en_isI_of (en_isI0 q2) ha
      obtain ⟨r, E', ys, g1, g2, g3⟩ := en_off_ok (w := x + y) h q1 hE gy (by rw [← en_cI q2 gx, Int32.toInt_add, Int.add_comm])
      exact ⟨x, y, r, E', ys, rfl, rfl, g1, g2, g3⟩
    · exact en_bin_ok en_gadd_ok ρ E a b v u c hE h ha hb
theorem en_subv_ok : en_binok en_subv (fun x y => x - y) := by
  intro ρ E a b v u c hE h ha hb
  unfold en_subv at h
  rcases en_bif h with ⟨q, h⟩ | ⟨-, h⟩
  · obtain ⟨q1, q2⟩ := en_and2 q
    have q1 := en_ble q1
    have q2 := en_beq q2
    obtain ⟨x, rfl, gx⟩ := en_isI_of (en_isI7 q1) ha
    obtain ⟨y, rfl, gy⟩ := en_isI_of (en_isI0 q2) hb
    obtain ⟨r, E', ys, g1, g2, g3⟩ := en_offm_ok (w := x - y) h q1 hE gx (by rw [← en_cI q2 gy]; exact en_crange.2) (by rw [← en_cI q2 gy, Int32.toInt_sub, Int.sub_eq_add_neg])
    exact ⟨x, y, r, E', ys, rfl, rfl, g1, g2, g3⟩
  · exact en_bin_ok en_gsub_ok ρ E a b v u c hE h ha hb
noncomputable def en_tlt (E : en_E) (a b : en_V) (kt kf : en_E → Bool) : Bool :=
  (en_cut E a (-2147483648) ((en_iv E b).2 - 1) (fun E => en_cut E b ((en_iv E a).1 + 1) 2147483647 kt)) && (en_cut E a (en_iv E b).1 2147483647 (fun E => en_cut E b (-2147483648) (en_iv E a).2 kf))
noncomputable def en_teq (E : en_E) (a b : en_V) (kt kf : en_E → Bool) : Bool :=
  bif Nat.beq a.1 b.1 && en_eq a.2 b.2 then kt E
  else (en_cut E a (en_iv E b).1 (en_iv E b).2 (fun E => en_cut E b (en_iv E a).1 (en_iv E a).2 kt)) && (bif en_eq (en_iv E b).1 (en_iv E b).2 then en_cut E a (bif en_eq (en_iv E a).1 (en_iv E b).1 then (en_iv E a).1 + 1 else (en_iv E a).1) (bif en_eq (en_iv E a).2 (en_iv E b).1 then (en_iv E a).2 - 1 else (en_iv E a).2) kf else kf E)
theorem en_tlt_ok {kt kf : en_E → Bool} {x y : Int32} (h : en_tlt E a b kt kf = true) (hE : en_sat ρ E) (ha : en_gi ρ a x.toInt) (hb : en_gi ρ b y.toInt) : ∃ E', en_sat ρ E' ∧ ((x.toInt < y.toInt ∧ kt E' = true) ∨ (¬ x.toInt < y.toInt ∧ kf E' = true)) := by
  obtain ⟨h1, h2⟩ := en_and2 h
  have ra := en_crange (x := x)
  have rb := en_crange (x := y)
  have ib := en_ivx hE hb
  by_cases c : x.toInt < y.toInt
  · obtain ⟨E1, s1, k1⟩ := en_cut_ok h1 hE ha ra ra.1 (by omega)
    have ia := en_ivx s1 ha
    obtain ⟨E2, s2, k2⟩ := en_cut_ok k1 s1 hb rb (by omega) rb.2
    exact ⟨E2, s2, Or.inl ⟨c, k2⟩⟩
  · obtain ⟨E1, s1, k1⟩ := en_cut_ok h2 hE ha ra (by omega) ra.2
    have ia := en_ivx s1 ha
    obtain ⟨E2, s2, k2⟩ := en_cut_ok k1 s1 hb rb rb.1 (by omega)
    exact ⟨E2, s2, Or.inr ⟨c, k2⟩⟩
theorem en_teq_ok {kt kf : en_E → Bool} {n m : Int} (h : en_teq E a b kt kf = true) (hE : en_sat ρ E) (ha : en_gi ρ a n) (hb : en_gi ρ b m) (ra : -2147483648 ≤ n ∧ n ≤ 2147483647) (rb : -2147483648 ≤ m ∧ m ≤ 2147483647) : ∃ E', en_sat ρ E' ∧ ((n = m ∧ kt E' = true) ∨ (¬ n = m ∧ kf E' = true)) := by
  unfold en_teq at h
  rcases en_bif h with ⟨q, h⟩ | ⟨-, h⟩
  · obtain ⟨q1, q2⟩ := en_and2 q
    have q1 := en_beq q1
    have q2 := en_eq_iff.mp q2
    refine ⟨E, hE, Or.inl ⟨?_, h⟩⟩
    rcases ha with ⟨c1, e1⟩ | ⟨c1, k1, e1, e2⟩
    · rcases hb with ⟨c2, e3⟩ | ⟨c2, k2, e3, e4⟩
      · omega
      · omega
    · rcases hb with ⟨c2, e3⟩ | ⟨c2, k2, e3, e4⟩
      · omega
      · rw [q1] at e1
        rw [e1] at e3
        cases e3
        omega
  · obtain ⟨h1, h2⟩ := en_and2 h
    have ia := en_iv_ok hE ha ra
    have ib := en_iv_ok hE hb rb
    by_cases c : n = m
    · obtain ⟨E1, s1, k1⟩ := en_cut_ok h1 hE ha ra (by omega) (by omega)
      have ia1 := en_iv_ok s1 ha ra
      obtain ⟨E2, s2, k2⟩ := en_cut_ok k1 s1 hb rb (by omega) (by omega)
      exact ⟨E2, s2, Or.inl ⟨c, k2⟩⟩
    · rcases en_bif h2 with ⟨q, h2⟩ | ⟨-, h2⟩
      · have q := en_eq_iff.mp q
        obtain ⟨E1, s1, k1⟩ := en_cut_ok h2 hE ha ra (by
          cases e : en_eq (en_iv E a).1 (en_iv E b).1 with
          | false => exact ia.1
          | true => have e := en_eq_iff.mp e; show (en_iv E a).1 + 1 ≤ n; omega) (by
          cases e : en_eq (en_iv E a).2 (en_iv E b).1 with
          | false => exact ia.2
          | true => have e := en_eq_iff.mp e; show n ≤ (en_iv E a).2 - 1; omega)
        exact ⟨E1, s1, Or.inr ⟨c, k1⟩⟩
      · exact ⟨E, hE, Or.inr ⟨c, h2⟩⟩
end EnA
end
section
/-! what is known of the cells; instructions -/
abbrev en_Fd : Type := Nat × Int × Int
abbrev en_D : Type := Nat × Nat × List en_Fd
abbrev en_Tb : Type := Nat × Lean.RArray en_D × List (Nat × List Nat)
abbrev en_S : Type := List (Nat × Nat × en_V × en_V)
abbrev en_W : Type := List (Nat × List Nat)
noncomputable def en_cell (tb : en_Tb) (p : Nat) : Option en_D := bif Nat.blt p tb.1 then some (en_tg tb.2.1 p) else none
/-- the interval of an int of a cell -/
noncomputable def en_fiv (f : Option en_Fd) : Option (Int × Int) := match f with
  | some (0, a, b) => some (a, b)
  | _ => none
noncomputable def en_int (tb : en_Tb) (p j : Nat) : Option (Int × Int) := match en_cell tb p with
  | some d => bif Nat.beq d.1 0 then en_fiv d.2.2[j]? else bif Nat.blt j d.2.1 then en_fiv d.2.2[0]? else none
  | none => none
/-- what a reference may be -/
noncomputable def en_refs (tb : en_Tb) (p j : Nat) : List Nat := match en_cell tb p with
  | some d => bif Nat.beq d.1 0 then (match d.2.2[j]? with
    | some (1, a, _) => [a.toNat]
    | some (2, a, b) => [a.toNat, b.toNat]
    | _ => []) else []
  | none => []
def en_mem (tb : en_Tb) (X : sm_W → Prop) (w : sm_W) : Prop := (∀ p d, en_cell tb p = some d → w.1[p]? = some (d.1, d.2.1)) ∧ (∀ p j q, en_int tb p j = some q → q.1 ≤ (w.2.1 p j).toInt ∧ (w.2.1 p j).toInt ≤ q.2) ∧ (∀ p j, en_refs tb p j ≠ [] → ∃ r, r ∈ en_refs tb p j ∧ w.2.2.2 p j = some r) ∧ w.1.length ≤ 1000 ∧ X w
def en_e1 (ρ : List Int) (w : sm_W) (e : Nat × Nat × en_V × en_V) : Prop := (e.1 = 0 → ∃ n : Nat, en_gi ρ e.2.2.1 n ∧ en_gi ρ e.2.2.2 (w.2.1 e.2.1 n).toInt) ∧ (e.1 = 1 → ∃ n q : Nat, e.2.2.1 = (0, (n : Int)) ∧ e.2.2.2 = (2, (q : Int)) ∧ w.2.2.2 e.2.1 n = some q)
def en_st (ρ : List Int) (w : sm_W) (S : en_S) : Prop := ∀ e, e ∈ S → en_e1 ρ w e
def en_wok (W : en_W) (p j : Nat) : Bool := W.any (fun q => Nat.beq q.1 p && (match q.2 with
  | [] => true
  | l => l.any (fun i => Nat.beq i j)))
def en_wall (W : en_W) (p : Nat) : Bool := W.any (fun q => Nat.beq q.1 p && (match q.2 with
  | [] => true
  | _ => false))
/-- what the engine may not write: it belongs to what is known beside the intervals -/
def en_fix (tb : en_Tb) (p j : Nat) : Bool := en_wok tb.2.2 p j
def en_fixc (tb : en_Tb) (p : Nat) : Bool := tb.2.2.any (fun q => Nat.beq q.1 p)
theorem en_fixc_ok {tb : en_Tb} {p : Nat} (h : en_fixc tb p = false) (j : Nat) : en_fix tb p j = false := by
  cases e : en_fix tb p j with
  | false => rfl
  | true =>
    exfalso
    obtain ⟨q, h1, h2⟩ := List.any_eq_true.mp e
    have : en_fixc tb p = true := List.any_eq_true.mpr ⟨q, h1, (Bool.and_eq_true_iff.mp h2).1⟩
    rw [this] at h
    cases h
def en_Xok (tb : en_Tb) (X : sm_W → Prop) : Prop := (∀ (lay : List (Nat × Nat)) (m : sm_Y) (p j : Nat) (x : Int32), en_fix tb p j = false → X (lay, m) → X (lay, (sm_up m.1 p j x, m.2))) ∧ (∀ (lay : List (Nat × Nat)) (m : sm_Y) (p j : Nat) (r : Option Nat), en_fix tb p j = false → X (lay, m) → X (lay, (m.1, m.2.1, sm_up m.2.2 p j r))) ∧ (∀ (lay : List (Nat × Nat)) (m : sm_Y) (p j : Nat) (y : Int64), en_fix tb p j = false → X (lay, m) → X (lay, (m.1, sm_up m.2.1 p j y, m.2.2)))
def en_fr (W : en_W) (w w' : sm_W) : Prop := w'.1 = w.1 ∧ ∀ p j, en_wok W p j = false → w'.2.1 p j = w.2.1 p j ∧ w'.2.2.2 p j = w.2.2.2 p j
def en_veq (a b : en_V) : Bool := Nat.beq a.1 b.1 && decide (a.2 = b.2)
def en_find : en_S → Nat → Nat → en_V → Option en_V
  | [], _, _, _ => none
  | e :: r, s, p, i => bif (Nat.beq e.1 s && Nat.beq e.2.1 p) && en_veq e.2.2.1 i then some e.2.2.2 else en_find r s p i
def en_keepI (p : Nat) (i : en_V) (e : Nat × Nat × en_V × en_V) : Bool := Nat.beq e.1 1 || (!(Nat.beq e.2.1 p) || ((Nat.beq i.1 0 && Nat.beq e.2.2.1.1 0) && !(decide (i.2 = e.2.2.1.2))))
def en_keepR (p : Nat) (j : Nat) (e : Nat × Nat × en_V × en_V) : Bool := Nat.beq e.1 0 || (!(Nat.beq e.2.1 p) || !(decide (e.2.2.1 = (0, (j : Int)))))
section EnM
variable {tb : en_Tb} {X : sm_W → Prop} {W : en_W} {ρ : List Int} {E : en_E} {S : en_S} {w w0 w' : sm_W} {p j : Nat} {a : en_V}
theorem en_fr_rf : en_fr W w w := ⟨rfl, fun _ _ _ => ⟨rfl, rfl⟩⟩
theorem en_fr_tr {w1 w2 : sm_W} (h1 : en_fr W w w1) (h2 : en_fr W w1 w2) : en_fr W w w2 := ⟨h2.1.trans h1.1, fun p j h => ⟨(h2.2 p j h).1.trans (h1.2 p j h).1, (h2.2 p j h).2.trans (h1.2 p j h).2⟩⟩
theorem en_st_app (ys : List Int) (h : en_st ρ w S) : en_st (ρ ++ ys) w S := by
  intro e he
  obtain ⟨h1, h2⟩ := h e he
  refine ⟨fun q => ?_, h2⟩
  obtain ⟨n, g1, g2⟩ := h1 q
  exact ⟨n, en_gi_app ys g1, en_gi_app ys g2⟩
theorem en_veq_of {a b : en_V} (h : en_veq a b = true) : a = b := by
  obtain ⟨h1, h2⟩ := en_and2 h
  exact Prod.ext (en_beq h1) (of_decide_eq_true h2)
theorem en_find_ok {s : Nat} {i v : en_V} : ∀ {S : en_S}, en_find S s p i = some v → (s, p, i, v) ∈ S
  | [], h => by cases h
  | e :: r, h => by
    unfold en_find at h
    cases q : ((Nat.beq e.1 s && Nat.beq e.2.1 p) && en_veq e.2.2.1 i) with
    | true =>
      rw [q] at h
      cases h
      obtain ⟨q1, q2⟩ := en_and2 q
      obtain ⟨q3, q4⟩ := en_and2 q1
      have e1 := en_beq q3
      have e2 := en_beq q4
      have e3 := en_veq_of q2
      have : (s, p, i, e.2.2.2) = e := by
        obtain ⟨a1, a2, a3, a4⟩ := e
        simp only at e1 e2 e3
        rw [e1, e2, e3]
      rw [this]
      exact List.mem_cons_self
    | false =>
      rw [q] at h
      exact List.mem_cons_of_mem _ (en_find_ok h)
theorem en_gi_inj {n m : Int} (h1 : en_gi ρ a n) (h2 : en_gi ρ a m) : n = m := by
  rcases h1 with ⟨q1, e1⟩ | ⟨q1, k1, e1, f1⟩
  · rcases h2 with ⟨q2, e2⟩ | ⟨q2, k2, e2, f2⟩
    · omega
    · omega
  · rcases h2 with ⟨q2, e2⟩ | ⟨q2, k2, e2, f2⟩
    · omega
    · rw [e1] at e2
      cases e2
      omega
theorem en_up_eq {α : Type} (f : Nat → Nat → α) (p j : Nat) (v : α) : sm_up f p j v p j = v := by simp [sm_up]
theorem en_up_ne {α : Type} (f : Nat → Nat → α) (p j : Nat) (v : α) {p' j' : Nat} (h : ¬ (p' = p ∧ j' = j)) : sm_up f p j v p' j' = f p' j' := by
  unfold sm_up
  by_cases c : p' = p
  · subst c
    rw [if_pos rfl]
    by_cases c2 : j' = j
    · exact absurd ⟨rfl, c2⟩ h
    · simp only [if_neg c2]
  · rw [if_neg c]
/-- an int is written -/
theorem en_wrI (hX : en_Xok tb X) {lay : List (Nat × Nat)} {m : sm_Y} {x : Int32} {i v : en_V} {q : Int × Int} (hE : en_sat ρ E) (hm : en_mem tb X (lay, m)) (hS : en_st ρ (lay, m) S) (hf : en_fr W w0 (lay, m)) (hi : en_gi ρ i j) (hv : en_gi ρ v x.toInt) (hq : en_int tb p j = some q) (hs : en_sub (en_iv E v) q = true) (hw : en_wok W p j = true) (hfx : en_fix tb p j = false) :
    en_mem tb X (lay, (sm_up m.1 p j x, m.2)) ∧ en_st ρ (lay, (sm_up m.1 p j x, m.2)) ((0, p, i, v) :: S.filter (en_keepI p i)) ∧ en_fr W w0 (lay, (sm_up m.1 p j x, m.2)) := by
  have hx := en_ivx hE hv
  have hs := en_sub_of hs
  refine ⟨⟨hm.1, fun p' j' q' e => ?_, hm.2.2.1, hm.2.2.2.1, hX.1 _ _ _ _ _ hfx hm.2.2.2.2⟩, fun e he => ?_, ⟨hf.1, fun p' j' h => ?_⟩⟩
  · show q'.1 ≤ (sm_up m.1 p j x p' j').toInt ∧ (sm_up m.1 p j x p' j').toInt ≤ q'.2
    by_cases c : p' = p ∧ j' = j
    · obtain ⟨rfl, rfl⟩ := c
      rw [hq] at e
      cases e
      rw [en_up_eq]
      omega
    · rw [en_up_ne _ _ _ _ c]
      exact hm.2.1 p' j' q' e
  · rcases List.mem_cons.mp he with rfl | he
    · refine ⟨fun _ => ⟨j, hi, ?_⟩, fun q => (by cases q)⟩
      show en_gi ρ v (sm_up m.1 p j x p j).toInt
      rw [en_up_eq]
      exact hv
    · obtain ⟨he, hk⟩ := List.mem_filter.mp he
      obtain ⟨h1, h2⟩ := hS e he
      refine ⟨fun q => ?_, h2⟩
      obtain ⟨n, g1, g2⟩ := h1 q
      refine ⟨n, g1, ?_⟩
      show en_gi ρ e.2.2.2 (sm_up m.1 p j x e.2.1 n).toInt
      rw [en_up_ne]
      · exact g2
      · rintro ⟨c1, c2⟩
        rcases Bool.or_eq_true_iff.mp hk with hk | hk
        · have := en_beq hk; omega
        · rcases Bool.or_eq_true_iff.mp hk with hk | hk
          · rw [c1] at hk
            have : Nat.beq p p = true := Nat.beq_refl p
            rw [this] at hk
            cases hk
          · obtain ⟨k1, k2⟩ := en_and2 hk
            obtain ⟨k3, k4⟩ := en_and2 k1
            have k3 := en_beq k3
            have k4 := en_beq k4
            have k2 : ¬ i.2 = e.2.2.1.2 := by
              intro c
              rw [decide_eq_true c] at k2
              cases k2
            subst c2
            rcases hi with ⟨-, f1⟩ | ⟨f1, -⟩
            · rcases g1 with ⟨-, f2⟩ | ⟨f2, -⟩
              · exact k2 (f1.symm.trans f2)
              · omega
            · omega
  · have := hf.2 p' j' h
    refine ⟨?_, this.2⟩
    show sm_up m.1 p j x p' j' = w0.2.1 p' j'
    rw [en_up_ne]
    · exact this.1
    · rintro ⟨rfl, rfl⟩
      rw [hw] at h
      cases h
/-- a reference is written -/
theorem en_wrR (hX : en_Xok tb X) {lay : List (Nat × Nat)} {m : sm_Y} {r : Nat} (hm : en_mem tb X (lay, m)) (hS : en_st ρ (lay, m) S) (hf : en_fr W w0 (lay, m)) (hr : r ∈ en_refs tb p j) (hw : en_wok W p j = true) (hfx : en_fix tb p j = false) :
    en_mem tb X (lay, (m.1, m.2.1, sm_up m.2.2 p j (some r))) ∧ en_st ρ (lay, (m.1, m.2.1, sm_up m.2.2 p j (some r))) ((1, p, (0, (j : Int)), (2, (r : Int))) :: S.filter (en_keepR p j)) ∧ en_fr W w0 (lay, (m.1, m.2.1, sm_up m.2.2 p j (some r))) := by
  refine ⟨⟨hm.1, hm.2.1, fun p' j' h => ?_, hm.2.2.2.1, hX.2.1 _ _ _ _ _ hfx hm.2.2.2.2⟩, fun e he => ?_, ⟨hf.1, fun p' j' h => ?_⟩⟩
  · show ∃ r', r' ∈ en_refs tb p' j' ∧ sm_up m.2.2 p j (some r) p' j' = some r'
    by_cases c : p' = p ∧ j' = j
    · obtain ⟨rfl, rfl⟩ := c
      exact ⟨r, hr, en_up_eq _ _ _ _⟩
    · rw [en_up_ne _ _ _ _ c]
      exact hm.2.2.1 p' j' h
  · rcases List.mem_cons.mp he with rfl | he
    · exact ⟨fun q => (by cases q), fun _ => ⟨j, r, rfl, rfl, en_up_eq _ _ _ _⟩⟩
    · obtain ⟨he, hk⟩ := List.mem_filter.mp he
      obtain ⟨h1, h2⟩ := hS e he
      refine ⟨h1, fun q => ?_⟩
      obtain ⟨n, r', g1, g2, g3⟩ := h2 q
      refine ⟨n, r', g1, g2, ?_⟩
      show sm_up m.2.2 p j (some r) e.2.1 n = some r'
      rw [en_up_ne]
      · exact g3
      · rintro ⟨c1, c2⟩
        subst c2
        rcases Bool.or_eq_true_iff.mp hk with hk | hk
        · have := en_beq hk; omega
        · rcases Bool.or_eq_true_iff.mp hk with hk | hk
          · rw [c1] at hk
            have : Nat.beq p p = true := Nat.beq_refl p
            rw [this] at hk
            cases hk
          · rw [decide_eq_true g1] at hk
            cases hk
  · have := hf.2 p' j' h
    refine ⟨this.1, ?_⟩
    show sm_up m.2.2 p j (some r) p' j' = w0.2.2.2 p' j'
    rw [en_up_ne]
    · exact this.2
    · rintro ⟨rfl, rfl⟩
      rw [hw] at h
      cases h
end EnM
/-! the relation, and the simple instructions -/
/-- where a region began: its cells, its symbols -/
abbrev en_A : Type := sm_W × List Int
def en_R (tb : en_Tb) (X : sm_W → Prop) (W : en_W) (w0 : en_A) (ρ : List Int) (E : en_E) (S : en_S) (lv : en_L) (st : List en_V) (lv' : sm_V) (st' : List Value) (w : sm_W) : Prop := en_sat ρ E ∧ en_mem tb X w ∧ en_st ρ w S ∧ en_gl ρ lv lv' ∧ en_gs ρ st st' ∧ en_fr W w0.1 w ∧ ∃ ys, ρ = w0.2 ++ ys
abbrev en_K1 : Type := en_L → List en_V → en_S → en_E → Bool
def en_ok (tb : en_Tb) (X : sm_W → Prop) (W : en_W) (w0 : en_A) (lay : List (Nat × Nat)) (o : sm_O) (k : en_K1) : Prop := ∃ q, o = some q ∧ ∃ (ρ : List Int) (E : en_E) (S : en_S) (lv : en_L) (st : List en_V), en_R tb X W w0 ρ E S lv st q.1 q.2.1 (lay, q.2.2) ∧ k lv st S E = true
section EnI
variable {tb : en_Tb} {X : sm_W → Prop} {W : en_W} {w0 : en_A} {ρ : List Int} {E : en_E} {S : en_S} {lv : en_L} {st : List en_V} {lv' : sm_V} {st' : List Value} {lay : List (Nat × Nat)} {m : sm_Y} {k : en_K1}
theorem en_R_app (ys : List Int) {E' : en_E} {w : sm_W} (hE : en_sat (ρ ++ ys) E') (h : en_R tb X W w0 ρ E S lv st lv' st' w) : en_R tb X W w0 (ρ ++ ys) E' S lv st lv' st' w := by
  obtain ⟨h1, h2, h3, h4, h5, h6, zs, h7⟩ := h
  exact ⟨hE, h2, en_st_app ys h3, en_gl_app ys h4, en_gs_app' ys h5, h6, zs ++ ys, by rw [h7, List.append_assoc]⟩
theorem en_R_st {w : sm_W} {s : List en_V} {s' : List Value} (h : en_R tb X W w0 ρ E S lv st lv' st' w) (hs : en_gs ρ s s') : en_R tb X W w0 ρ E S lv s lv' s' w := ⟨h.1, h.2.1, h.2.2.1, h.2.2.2.1, hs, h.2.2.2.2.2⟩
theorem en_okp {o : Option (List Value)} {s' : List Value} {s : List en_V} (e : o = some s') (hR : en_R tb X W w0 ρ E S lv st lv' st' (lay, m)) (hs : en_gs ρ s s') (h : k lv s S E = true) : en_ok tb X W w0 lay (sm_p lv' m o) k := ⟨(lv', s', m), by rw [e]; rfl, ρ, E, S, lv, s, en_R_st hR hs, h⟩
theorem en_two {P : List en_V → Prop} (h0 : P []) (h1 : ∀ a, P [a]) (h2 : ∀ a b r, P (a :: b :: r)) : ∀ st, P st
  | [] => h0
  | [a] => h1 a
  | a :: b :: r => h2 a b r
theorem en_three {P : List en_V → Prop} (h0 : P []) (h1 : ∀ a, P [a]) (h2 : ∀ a b, P [a, b]) (h3 : ∀ a b c r, P (a :: b :: c :: r)) : ∀ st, P st
  | [] => h0
  | [a] => h1 a
  | [a, b] => h2 a b
  | a :: b :: c :: r => h3 a b c r
theorem ei_push {v : Value} {a : en_V} (hR : en_R tb X W w0 ρ E S lv st lv' st' (lay, m)) (hg : en_g ρ a v) (h : k lv (a :: st) S E = true) : en_ok tb X W w0 lay (some (lv', v :: st', m)) k := ⟨_, rfl, ρ, E, S, lv, a :: st, en_R_st hR ⟨hg, hR.2.2.2.2.1⟩, h⟩
/-- a new symbol for an int that is any of an interval -/
theorem ei_fresh {o : Option (List Value)} {x : Int32} {s : List en_V} {s' : List Value} {q : Int × Int} (e : o = some (.int x :: s')) (hR : en_R tb X W w0 ρ E S lv st lv' st' (lay, m)) (hs : en_gs ρ s s') (hx : q.1 ≤ x.toInt ∧ x.toInt ≤ q.2) (h : en_new E q (fun E v => k lv (v :: s) S E) = true) : en_ok tb X W w0 lay (sm_p lv' m o) k := by
  obtain ⟨E', r, g1, g2, g3⟩ := en_new_ok hR.1 h x.toInt hx
  exact en_okp (s := r :: s) e (en_R_app [x.toInt] g1 hR) ⟨g2, en_gs_app' _ hs⟩ g3
noncomputable def ei_ldi (j : Nat) (lv : en_L) (st : List en_V) (S : en_S) (E : en_E) (k : en_K1) : Bool := en_lk lv j (fun a => bif en_isI a.1 then k lv (a :: st) S E else false)
theorem ei_ldi_ok {j : Nat} (hR : en_R tb X W w0 ρ E S lv st lv' st' (lay, m)) (h : ei_ldi j lv st S E k = true) : en_ok tb X W w0 lay (sm_p lv' m (sm_ldi lv' j st')) k := by
  replace h := en_lk_ok hR.2.2.2.1 h
  obtain ⟨a, v, e1, g, h⟩ := h
  replace h := en_bif0 h; obtain ⟨h1, h⟩ := h
  obtain ⟨x, rfl, gx⟩ := en_isI_of h1 g
  exact en_okp (s' := .int x :: st') (s := a :: st) (by simp only [sm_ldi, e1]) hR ⟨g, hR.2.2.2.2.1⟩ h
noncomputable def ei_ldl (j : Nat) (lv : en_L) (st : List en_V) (S : en_S) (E : en_E) (k : en_K1) : Bool := en_lk lv j (fun a => bif Nat.beq a.1 5 then k lv (a :: st) S E else false)
theorem ei_ldl_ok {j : Nat} (hR : en_R tb X W w0 ρ E S lv st lv' st' (lay, m)) (h : ei_ldl j lv st S E k = true) : en_ok tb X W w0 lay (sm_p lv' m (sm_ldl lv' j st')) k := by
  replace h := en_lk_ok hR.2.2.2.1 h
  obtain ⟨a, v, e1, g, h⟩ := h
  replace h := en_bif0 h; obtain ⟨h1, h⟩ := h
  obtain ⟨x, rfl⟩ := en_long_of (en_beq h1) g
  exact en_okp (s' := .long x :: st') (s := a :: st) (by simp only [sm_ldl, e1]) hR ⟨g, hR.2.2.2.2.1⟩ h
noncomputable def ei_lda (j : Nat) (lv : en_L) (st : List en_V) (S : en_S) (E : en_E) (k : en_K1) : Bool := en_lk lv j (fun a => bif Nat.beq a.1 2 || Nat.beq a.1 1 then k lv (a :: st) S E else false)
theorem ei_lda_ok {j : Nat} (hR : en_R tb X W w0 ρ E S lv st lv' st' (lay, m)) (h : ei_lda j lv st S E k = true) : en_ok tb X W w0 lay (sm_p lv' m (sm_lda lv' j st')) k := by
  replace h := en_lk_ok hR.2.2.2.1 h
  obtain ⟨a, v, e1, g, h⟩ := h
  replace h := en_bif0 h; obtain ⟨h1, h⟩ := h
  rcases Bool.or_eq_true_iff.mp h1 with h1 | h1
  · obtain ⟨p, rfl, -⟩ := en_ref_of (en_beq h1) g
    exact en_okp (s' := .ref p :: st') (s := a :: st) (by simp only [sm_lda, e1]) hR ⟨g, hR.2.2.2.2.1⟩ h
  · have := en_null_of (en_beq h1) g
    subst this
    exact en_okp (s' := .null :: st') (s := a :: st) (by simp only [sm_lda, e1]) hR ⟨g, hR.2.2.2.2.1⟩ h
theorem en_R_lv {w : sm_W} {l : en_L} {l' : sm_V} {s : List en_V} {s' : List Value} (h : en_R tb X W w0 ρ E S lv st lv' st' w) (hl : en_gl ρ l l') (hs : en_gs ρ s s') : en_R tb X W w0 ρ E S l s l' s' w := ⟨h.1, h.2.1, h.2.2.1, hl, hs, h.2.2.2.2.2⟩
noncomputable def ei_sti (j nL : Nat) (lv : en_L) (st : List en_V) (S : en_S) (E : en_E) (k : en_K1) : Bool := match st with
  | a :: r => bif en_isI a.1 && Nat.blt j nL then k (en_s1 lv j a) r S E else false
  | [] => false
theorem ei_sti_ok {j nL : Nat} (hR : en_R tb X W w0 ρ E S lv st lv' st' (lay, m)) (h : ei_sti j nL lv st S E k = true) : en_ok tb X W w0 lay (sm_sti lv' j nL st' m) k := by
  cases st with
  | nil => cases h
  | cons a r =>
    obtain ⟨v, r', e, g, hs⟩ := en_gs_cons hR.2.2.2.2.1
    subst e
    replace h := en_bif0 h; obtain ⟨h1, h⟩ := h
    obtain ⟨h1, h2⟩ := en_and2 h1
    obtain ⟨x, rfl, gx⟩ := en_isI_of h1 g
    exact ⟨(sm_s1 lv' j (.int x), r', m), by simp only [sm_sti]; rw [if_pos (en_blt h2)], ρ, E, S, en_s1 lv j a, r, en_R_lv hR (en_s1_ok hR.2.2.2.1 g) hs, h⟩
noncomputable def ei_stl (j nL : Nat) (lv : en_L) (st : List en_V) (S : en_S) (E : en_E) (k : en_K1) : Bool := match st with
  | a :: r => bif Nat.beq a.1 5 && Nat.blt (Nat.succ j) nL then k (en_s2 lv j a) r S E else false
  | [] => false
theorem ei_stl_ok {j nL : Nat} (hR : en_R tb X W w0 ρ E S lv st lv' st' (lay, m)) (h : ei_stl j nL lv st S E k = true) : en_ok tb X W w0 lay (sm_stl lv' j nL st' m) k := by
  cases st with
  | nil => cases h
  | cons a r =>
    obtain ⟨v, r', e, g, hs⟩ := en_gs_cons hR.2.2.2.2.1
    subst e
    replace h := en_bif0 h; obtain ⟨h1, h⟩ := h
    obtain ⟨h1, h2⟩ := en_and2 h1
    obtain ⟨x, rfl⟩ := en_long_of (en_beq h1) g
    exact ⟨(sm_s2 lv' j (.long x), r', m), by simp only [sm_stl]; rw [if_pos (en_blt h2)], ρ, E, S, en_s2 lv j a, r, en_R_lv hR (en_s2_ok hR.2.2.2.1 g) hs, h⟩
noncomputable def ei_sta (j nL : Nat) (lv : en_L) (st : List en_V) (S : en_S) (E : en_E) (k : en_K1) : Bool := match st with
  | a :: r => bif (Nat.beq a.1 2 || Nat.beq a.1 1) && Nat.blt j nL then k (en_s1 lv j a) r S E else false
  | [] => false
theorem ei_sta_ok {j nL : Nat} (hR : en_R tb X W w0 ρ E S lv st lv' st' (lay, m)) (h : ei_sta j nL lv st S E k = true) : en_ok tb X W w0 lay (sm_sta lv' j nL st' m) k := by
  cases st with
  | nil => cases h
  | cons a r =>
    obtain ⟨v, r', e, g, hs⟩ := en_gs_cons hR.2.2.2.2.1
    subst e
    replace h := en_bif0 h; obtain ⟨h1, h⟩ := h
    obtain ⟨h1, h2⟩ := en_and2 h1
    rcases Bool.or_eq_true_iff.mp h1 with h1 | h1
    · obtain ⟨p, rfl, -⟩ := en_ref_of (en_beq h1) g
      exact ⟨(sm_s1 lv' j (.ref p), r', m), by simp only [sm_sta]; rw [if_pos (en_blt h2)], ρ, E, S, en_s1 lv j a, r, en_R_lv hR (en_s1_ok hR.2.2.2.1 g) hs, h⟩
    · have := en_null_of (en_beq h1) g
      subst this
      exact ⟨(sm_s1 lv' j .null, r', m), by simp only [sm_sta]; rw [if_pos (en_blt h2)], ρ, E, S, en_s1 lv j a, r, en_R_lv hR (en_s1_ok hR.2.2.2.1 g) hs, h⟩
noncomputable def ei_inc (j : Nat) (n : Int) (nL : Nat) (lv : en_L) (st : List en_V) (S : en_S) (E : en_E) (k : en_K1) : Bool := en_lk lv j (fun a => bif Nat.blt j nL then en_add E a (0, (Int32.ofInt n).toInt) (fun E v => k (en_s1 lv j v) st S E) else false)
theorem ei_inc_ok {j nL : Nat} {n : Int} (hR : en_R tb X W w0 ρ E S lv st lv' st' (lay, m)) (h : ei_inc j n nL lv st S E k = true) : en_ok tb X W w0 lay (sm_inc lv' j n nL st' m) k := by
  replace h := en_lk_ok hR.2.2.2.1 h
  obtain ⟨a, v, e1, g, h⟩ := h
  replace h := en_bif0 h; obtain ⟨h1, h⟩ := h
  obtain ⟨x, y, r, E', ys, rfl, e2, g0, g1, g2⟩ := en_add_ok _ _ _ _ _ _ _ hR.1 h g (show en_g ρ (0, (Int32.ofInt n).toInt) (.int (Int32.ofInt n)) from en_gi0 _)
  cases e2
  have hR' := en_R_app ys g0 hR
  exact ⟨(sm_s1 lv' j (.int (x + Int32.ofInt n)), st', m), by simp only [sm_inc, e1]; rw [if_pos (en_blt h1)], ρ ++ ys, E', S, en_s1 lv j r, st, en_R_lv hR' (en_s1_ok hR'.2.2.2.1 g1) hR'.2.2.2.2.1, g2⟩
noncomputable def ei_ii (bin : en_E → en_V → en_V → (en_E → en_V → Bool) → Bool) (lv : en_L) (st : List en_V) (S : en_S) (E : en_E) (k : en_K1) : Bool := match st with
  | b :: a :: r => bin E a b (fun E v => k lv (v :: r) S E)
  | _ => false
theorem ei_ii_ok {bin : en_E → en_V → en_V → (en_E → en_V → Bool) → Bool} {f : Int32 → Int32 → Int32} (hb : en_binok bin f) (hR : en_R tb X W w0 ρ E S lv st lv' st' (lay, m)) (h : ei_ii bin lv st S E k = true) : en_ok tb X W w0 lay (sm_p lv' m (sm_ii f st')) k := by
  revert hR h
  refine en_two (P := fun st => en_R tb X W w0 ρ E S lv st lv' st' (lay, m) → ei_ii bin lv st S E k = true → _) (fun _ h => by cases h) (fun _ _ h => by cases h) (fun b a r hR h => ?_) st
  obtain ⟨u, r1, e, gb, hs⟩ := en_gs_cons hR.2.2.2.2.1
  subst e
  replace hs := en_gs_cons hs; obtain ⟨v, r2, rfl, ga, hs⟩ := hs
  obtain ⟨x, y, z, E', ys, rfl, rfl, g0, g1, g2⟩ := hb _ _ _ _ _ _ _ hR.1 h ga gb
  exact en_okp (s' := .int (f x y) :: r2) (s := z :: r) rfl (en_R_app ys g0 hR) ⟨g1, en_gs_app' ys hs⟩ g2
/-- a divisor above 0 -/
noncomputable def en_gdiv (p : Int × Int) (c : Int) : Int × Int := bif en_le 0 p.1 then (0, p.2 / c) else en_full
noncomputable def ei_div (lv : en_L) (st : List en_V) (S : en_S) (E : en_E) (k : en_K1) : Bool := match st with
  | b :: a :: r => bif (en_isI b.1 && en_le 1 (en_iv E b).1) && en_isI a.1 then en_new E (en_gdiv (en_iv E a) (en_iv E b).1) (fun E v => k lv (v :: r) S E) else false
  | _ => false
theorem en_div_ok {p : Int × Int} {c : Int} {x y : Int32} (h1 : p.1 ≤ x.toInt) (h2 : x.toInt ≤ p.2) (hc : 1 ≤ c) (hy : c ≤ y.toInt) : (en_gdiv p c).1 ≤ (x / y).toInt ∧ (x / y).toInt ≤ (en_gdiv p c).2 := by
  unfold en_gdiv
  cases e : en_le 0 p.1 with
  | false => exact en_crange
  | true =>
    have e := en_le_iff.mp e
    have r := en_crange (x := x)
    have hx : 0 ≤ x.toInt := by omega
    have q0 : x.toInt.tdiv y.toInt = x.toInt / y.toInt := Int.tdiv_eq_ediv_of_nonneg hx
    have q1 : 0 ≤ x.toInt / y.toInt := Int.ediv_nonneg hx (by omega)
    have q2 : x.toInt / y.toInt ≤ x.toInt := Int.ediv_le_self _ hx
    have q3 : x.toInt / y.toInt * y.toInt ≤ x.toInt := Int.ediv_mul_le _ (by omega)
    have q4 : x.toInt / y.toInt * c ≤ x.toInt / y.toInt * y.toInt := Int.mul_le_mul_of_nonneg_left hy q1
    have q5 : x.toInt / y.toInt ≤ p.2 / c := Int.le_ediv_of_mul_le (by omega) (by omega)
    rw [Int32.toInt_div, q0, en_bmod (r := x.toInt / y.toInt) (by omega) (by omega) (Or.inl rfl)]
    exact ⟨q1, q5⟩
theorem ei_div_ok (hR : en_R tb X W w0 ρ E S lv st lv' st' (lay, m)) (h : ei_div lv st S E k = true) : en_ok tb X W w0 lay (sm_p lv' m (sm_iq (fun x y => x / y) st')) k := by
  revert hR h
  refine en_two (P := fun st => en_R tb X W w0 ρ E S lv st lv' st' (lay, m) → ei_div lv st S E k = true → _) (fun _ h => by cases h) (fun _ _ h => by cases h) (fun b a r hR h => ?_) st
  obtain ⟨u, r1, e, gb, hs⟩ := en_gs_cons hR.2.2.2.2.1
  subst e
  replace hs := en_gs_cons hs; obtain ⟨v, r2, rfl, ga, hs⟩ := hs
  replace h := en_bif0 h; obtain ⟨h1, h⟩ := h
  obtain ⟨h1, h3⟩ := en_and2 h1
  obtain ⟨h1, h2⟩ := en_and2 h1
  have h2 := en_le_iff.mp h2
  obtain ⟨y, rfl, gy⟩ := en_isI_of h1 gb
  obtain ⟨x, rfl, gx⟩ := en_isI_of h3 ga
  have i := en_ivx hR.1 gx
  have iy := en_ivx hR.1 gy
  refine ei_fresh (x := x / y) (s := r) (s' := r2) ?_ hR hs (en_div_ok i.1 i.2 h2 iy.1) h
  simp only [sm_iq]
  rw [if_neg]
  intro c
  subst c
  have e0 : (0 : Int32).toInt = 0 := by decide
  omega
end EnI
end
