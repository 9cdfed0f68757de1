-- tables of the abstract machine: classes, methods, links; printed by a program of mine out of the Statement's tables
def mm_cns : List String := [RX0, RX1, RX2, RX3, RX4, RX5, RX6, RX7, RX8, RX9, RX10, RX11, RJ6, RJ9, RJ7, RL]
def mm_cn (c : Nat) : String := mm_cns.getD c ""
/-- own class, name, code, locals, answer, parameters, kind (0 of an object, 1 static, 2 constructor, 3 the law) -/
abbrev mm_MT : Type := Nat × MethodName × ByteArray × Nat × Option FieldType × Nat × Nat
def mm_mt_0 : List mm_MT := [(0, yX0_init, cX0_init, 1, none, 0, 2), (0, yX0_becomeEmpty, cX0_becomeEmpty, 3, none, 1, 0), (0, yX0_copyFrom, cX0_copyFrom, 3, none, 1, 0), (0, yX0_becomeChoice, cX0_becomeChoice, 7, none, 3, 0), (0, yX0_becomePart, cX0_becomePart, 6, none, 3, 0), (0, yX0_has, cX0_has, 2, some .boolean, 1, 0), (0, yX0_put, cX0_put, 3, none, 2, 0), (0, yX0_setAt, cX0_setAt, 4, some .int, 1, 0), (0, yX0_union, cX0_union, 3, some .int, 0, 0), (0, yX0_areKeptBy, cX0_areKeptBy, 3, some .boolean, 1, 0), (0, yX0_meeting, cX0_meeting, 5, some .int, 2, 0), (0, yX0_around, cX0_around, 4, some .int, 1, 0), (0, yX0_shareOn, cX0_shareOn, 6, some .int, 2, 0), (0, yX0_strengthOn, cX0_strengthOn, 3, some .int, 1, 0), (0, yX0_turn, cX0_turn, 6, none, 1, 0), (1, yX1_init, cX1_init, 1, none, 0, 2), (1, yX1_load, cX1_load, 5, none, 3, 0), (1, yX1_loadRow, cX1_loadRow, 6, none, 4, 0), (1, yX1_countSet, cX1_countSet, 4, none, 2, 0), (1, yX1_numberAt, cX1_numberAt, 4, some .int, 2, 0), (1, yX1_solve, cX1_solve, 5, none, 2, 0), (1, yX1_searchSolutions, cX1_searchSolutions, 3, none, 2, 0), (1, yX1_change, cX1_change, 6, none, 3, 0), (1, yX1_canSolve, cX1_canSolve, 2, some .boolean, 0, 0), (1, yX1_noteSolution, cX1_noteSolution, 2, none, 1, 0), (1, yX1_earlySolution, cX1_earlySolution, 2, some .int, 1, 0), (1, yX1_findFewest, cX1_findFewest, 1, none, 0, 0), (1, yX1_searchCovers, cX1_searchCovers, 4, none, 3, 0), (1, yX1_covers, cX1_covers, 3, some .boolean, 1, 0), (2, yX2_init, cX2_init, 1, none, 0, 2), (2, yX2_orderOf, cX2_orderOf, 5, some .int, 1, 0), (2, yX2_stillness, cX2_stillness, 2, some .int, 0, 1), (2, yX2_followedBy, cX2_followedBy, 4, some .int, 2, 1), (2, yX2_enter, cX2_enter, 4, none, 1, 0), (2, yX2_append, cX2_append, 3, none, 2, 0), (3, yX3_init, cX3_init, 1, none, 0, 2), (3, yX3_play, cX3_play, 7, none, 5, 0), (3, yX3_drawOrbits, cX3_drawOrbits, 3, none, 1, 0), (3, yX3_drawBelowTwo, cX3_drawBelowTwo, 1, some .int, 0, 0), (3, yX3_countSets, cX3_countSets, 5, none, 2, 0)]
def mm_mt_1 : List mm_MT := [(3, yX3_countSet, cX3_countSet, 3, none, 1, 0), (3, yX3_isEven, cX3_isEven, 3, some .boolean, 1, 0), (4, yX4_init, cX4_init, 1, none, 0, 2), (4, yX4_areAlike, cX4_areAlike, 4, some .boolean, 3, 0), (4, yX4_selvesOf, cX4_selvesOf, 9, some .int, 2, 0), (4, yX4_canPlace, cX4_canPlace, 8, some .boolean, 5, 0), (4, yX4_fits, cX4_fits, 8, some .boolean, 4, 0), (5, yX5_init, cX5_init, 1, none, 0, 2), (5, yX5_find, cX5_find, 4, none, 1, 0), (5, yX5_spread, cX5_spread, 8, none, 3, 0), (5, yX5_enter, cX5_enter, 4, some .int, 3, 0), (5, yX5_amountOf, cX5_amountOf, 2, some .int, 1, 0), (5, yX5_isOrbit, cX5_isOrbit, 3, some .boolean, 2, 0), (5, yX5_numberOf, cX5_numberOf, 2, some .int, 1, 0), (5, yX5_holds, cX5_holds, 4, some .boolean, 3, 0), (5, yX5_setAt, cX5_setAt, 6, some .int, 3, 0), (5, yX5_greatestOf, cX5_greatestOf, 4, some .int, 2, 0), (5, yX5_setsIn, cX5_setsIn, 3, some .int, 2, 0), (5, yX5_setsAround, cX5_setsAround, 6, some .int, 3, 0), (6, yX6_init, cX6_init, 2, none, 0, 2), (6, yX6_restart, cX6_restart, 2, none, 1, 0), (6, yX6_copyFrom, cX6_copyFrom, 5, none, 1, 0), (6, yX6_isPoint, cX6_isPoint, 2, some .boolean, 1, 0), (6, yX6_isSize, cX6_isSize, 2, some .boolean, 1, 0), (6, yX6_isSet, cX6_isSet, 2, some .boolean, 1, 0), (6, yX6_whole, cX6_whole, 1, some .int, 0, 0), (6, yX6_wayAt, cX6_wayAt, 2, some (.object "OrbitDesigns$Way"), 1, 0), (6, yX6_spareWay, cX6_spareWay, 1, some (.object "OrbitDesigns$Way"), 0, 0), (6, yX6_removeWay, cX6_removeWay, 5, none, 1, 0), (6, yX6_designAt, cX6_designAt, 2, some (.object "OrbitDesigns$Blocks"), 1, 0), (6, yX6_spareDesign, cX6_spareDesign, 1, some (.object "OrbitDesigns$Blocks"), 0, 0), (7, yX7_init, cX7_init, 1, none, 0, 2), (7, yX7_become, cX7_become, 3, none, 2, 0), (7, yX7_isPlace, cX7_isPlace, 2, some .boolean, 1, 0), (7, yX7_itemAt, cX7_itemAt, 2, some .long, 1, 0), (7, yX7_put, cX7_put, 4, none, 2, 0), (7, yX7_cut, cX7_cut, 3, some .long, 1, 0), (7, yX7_hasPlaces, cX7_hasPlaces, 3, some .boolean, 2, 0), (7, yX7_copyItems, cX7_copyItems, 5, none, 4, 0), (8, yX8_init, cX8_init, 1, none, 0, 2)]
def mm_mt_2 : List mm_MT := [(8, yX8_append, cX8_append, 2, some .boolean, 1, 0), (8, yX8_signAt, cX8_signAt, 2, some .int, 1, 0), (8, yX8_digitAt, cX8_digitAt, 3, some .int, 1, 0), (8, yX8_digitsFrom, cX8_digitsFrom, 4, some .int, 2, 0), (8, yX8_numberIn, cX8_numberIn, 5, some .int, 2, 0), (8, yX8_fault, cX8_fault, 7, some .int, 0, 0), (8, yX8_leastDigits, cX8_leastDigits, 1, some .int, 1, 1), (8, yX8_mostDigits, cX8_mostDigits, 1, some .int, 1, 1), (9, yX9_init, cX9_init, 1, none, 0, 2), (9, yX9_copyFrom, cX9_copyFrom, 2, none, 1, 0), (9, yX9_becomeKind, cX9_becomeKind, 5, none, 3, 0), (9, yX9_targetByKind, cX9_targetByKind, 3, some .int, 2, 0), (9, yX9_swapped, cX9_swapped, 3, some .int, 3, 1), (9, yX9_becomeByHand, cX9_becomeByHand, 5, none, 2, 0), (9, yX9_pointFor, cX9_pointFor, 2, some .int, 1, 0), (9, yX9_setFor, cX9_setFor, 4, some .int, 1, 0), (9, yX9_period, cX9_period, 2, some .int, 0, 0), (9, yX9_isDoneAfter, cX9_isDoneAfter, 5, some .boolean, 1, 0), (10, yX10_init, cX10_init, 2, none, 0, 2), (10, yX10_points, cX10_points, 3, some .int, 1, 0), (10, yX10_way, cX10_way, 4, some .int, 2, 0), (10, yX10_hand, cX10_hand, 3, some .int, 1, 0), (10, yX10_drop, cX10_drop, 2, some .int, 1, 0), (10, yX10_wayOf, cX10_wayOf, 4, some .int, 2, 0), (10, yX10_takes, cX10_takes, 4, some .int, 2, 0), (10, yX10_moves, cX10_moves, 4, some .int, 2, 0), (10, yX10_order, cX10_order, 1, some .int, 0, 0), (10, yX10_orbits, cX10_orbits, 2, some .int, 1, 0), (10, yX10_orbit, cX10_orbit, 4, some .int, 3, 0), (10, yX10_member, cX10_member, 4, some .int, 3, 0), (10, yX10_orbitOf, cX10_orbitOf, 2, some .int, 1, 0), (10, yX10_table, cX10_table, 5, some .int, 4, 0), (10, yX10_solved, cX10_solved, 5, some .int, 4, 0), (10, yX10_solution, cX10_solution, 5, some .int, 4, 0), (10, yX10_cover, cX10_cover, 4, some .int, 3, 0), (10, yX10_choose, cX10_choose, 3, some .int, 2, 0), (10, yX10_block, cX10_block, 2, some .int, 1, 0), (10, yX10_blockOf, cX10_blockOf, 2, some .int, 1, 0), (10, yX10_blocks, cX10_blocks, 2, some .int, 1, 0), (10, yX10_share, cX10_share, 2, some .int, 1, 0)]
def mm_mt_3 : List mm_MT := [(10, yX10_meets, cX10_meets, 3, some .int, 2, 0), (10, yX10_turned, cX10_turned, 1, some .int, 0, 0), (10, yX10_parted, cX10_parted, 3, some .int, 2, 0), (10, yX10_keep, cX10_keep, 2, some .int, 0, 0), (10, yX10_design, cX10_design, 4, some .int, 2, 0), (10, yX10_alike, cX10_alike, 5, some .int, 2, 0), (10, yX10_selves, cX10_selves, 3, some .int, 1, 0), (10, yX10_unlike, cX10_unlike, 6, some .int, 3, 0), (10, yX10_lots, cX10_lots, 5, some .int, 4, 0), (10, yX10_feed, cX10_feed, 2, some .int, 1, 0), (10, yX10_read, cX10_read, 3, some .int, 0, 0), (10, yX10_judge, cX10_judge, 5, some .int, 2, 0), (10, yX10_image, cX10_image, 1, some .int, 0, 0), (10, yX10_undo, cX10_undo, 1, some .int, 0, 0), (10, yX10_count, cX10_count, 2, some .int, 1, 0), (10, yX10_tape, cX10_tape, 5, some .int, 3, 0), (10, yX10_item, cX10_item, 6, some .int, 3, 0), (10, yX10_peek, cX10_peek, 4, some .long, 2, 0), (10, yX10_shift, cX10_shift, 8, some .int, 5, 0), (10, yX10_areSizes, cX10_areSizes, 3, some .boolean, 2, 0), (10, yX10_isAim, cX10_isAim, 1, some .boolean, 1, 1), (10, yX10_hasBitsFrom, cX10_hasBitsFrom, 2, some .boolean, 2, 1), (10, yX10_haveDivisorInCommon, cX10_haveDivisorInCommon, 3, some .boolean, 2, 1), (10, yX10_isArrangement, cX10_isArrangement, 6, some .boolean, 2, 1), (10, yX10_loadChoices, cX10_loadChoices, 3, some .boolean, 2, 0), (10, yX10_isLikeAnEarlierSolution, cX10_isLikeAnEarlierSolution, 4, some .boolean, 2, 0), (10, yX10_doClauses, cX10_doClauses, 5, some .int, 0, 0), (10, yX10_doClause, cX10_doClause, 4, some .boolean, 2, 0), (10, yX10_doBlockClause, cX10_doBlockClause, 6, some .boolean, 2, 0), (10, yX10_tapeAt, cX10_tapeAt, 2, some (.object "OrbitDesigns$Tape"), 1, 0), (10, yX10_modulo, cX10_modulo, 2, some .int, 2, 1), (11, yX11_init, cX11_init, 1, none, 0, 2), (11, yX11_in, cX11_in, 6, some .boolean, 3, 1), (11, yX11_starts, cX11_starts, 3, none, 1, 0), (11, yX11_size, cX11_size, 3, some .int, 1, 1), (11, yX11_whole, cX11_whole, 1, some .int, 0, 0), (11, yX11_isSet, cX11_isSet, 2, some .boolean, 1, 0), (11, yX11_isPoint, cX11_isPoint, 2, some .boolean, 1, 0), (11, yX11_isWay, cX11_isWay, 2, some .boolean, 1, 0), (11, yX11_points, cX11_points, 3, some .int, 1, 0)]
def mm_mt_4 : List mm_MT := [(11, yX11_common, cX11_common, 2, some .int, 2, 1), (11, yX11_goes, cX11_goes, 7, some .int, 3, 0), (11, yX11_way, cX11_way, 5, some .int, 2, 0), (11, yX11_hand, cX11_hand, 6, some .int, 1, 0), (11, yX11_drop, cX11_drop, 4, some .int, 1, 0), (11, yX11_to, cX11_to, 3, some .int, 2, 0), (11, yX11_moved, cX11_moved, 5, some .int, 2, 0), (11, yX11_timesOf, cX11_timesOf, 6, some .int, 1, 0), (11, yX11_holds, cX11_holds, 3, some .boolean, 1, 0), (11, yX11_wayOf, cX11_wayOf, 3, some .int, 2, 0), (11, yX11_takes, cX11_takes, 3, some .int, 2, 0), (11, yX11_moves, cX11_moves, 3, some .int, 2, 0), (11, yX11_order, cX11_order, 6, some .int, 0, 0), (11, yX11_finds, cX11_finds, 7, none, 0, 0), (11, yX11_isSize, cX11_isSize, 2, some .boolean, 1, 0), (11, yX11_orbits, cX11_orbits, 2, some .int, 1, 0), (11, yX11_isIn, cX11_isIn, 4, some .boolean, 3, 0), (11, yX11_least, cX11_least, 4, some .int, 2, 0), (11, yX11_orbit, cX11_orbit, 7, some .int, 3, 0), (11, yX11_member, cX11_member, 6, some .int, 3, 0), (11, yX11_orbitOf, cX11_orbitOf, 2, some .int, 1, 0), (11, yX11_areSizes, cX11_areSizes, 3, some .boolean, 2, 0), (11, yX11_tables, cX11_tables, 6, none, 2, 0), (11, yX11_table, cX11_table, 5, some .int, 4, 0), (11, yX11_sum, cX11_sum, 6, some .int, 3, 0), (11, yX11_solves, cX11_solves, 6, some .boolean, 4, 0), (11, yX11_nth, cX11_nth, 7, some .int, 4, 0), (11, yX11_solved, cX11_solved, 5, some .int, 4, 0), (11, yX11_solution, cX11_solution, 5, some .int, 4, 0), (11, yX11_covers, cX11_covers, 5, some .boolean, 3, 0), (11, yX11_cover, cX11_cover, 9, some .int, 3, 0), (11, yX11_many, cX11_many, 3, some .int, 1, 1), (11, yX11_choose, cX11_choose, 4, some .int, 2, 0), (11, yX11_block, cX11_block, 2, some .int, 1, 0), (11, yX11_blockOf, cX11_blockOf, 4, some .int, 1, 0), (11, yX11_shareOf, cX11_shareOf, 7, some .int, 3, 1), (11, yX11_strengthOf, cX11_strengthOf, 4, some .int, 3, 1), (11, yX11_blocks, cX11_blocks, 4, some .int, 1, 0), (11, yX11_share, cX11_share, 2, some .int, 1, 0), (11, yX11_meets, cX11_meets, 5, some .int, 2, 0)]
def mm_mt_5 : List mm_MT := [(11, yX11_turned, cX11_turned, 2, some .int, 0, 0), (11, yX11_parted, cX11_parted, 5, some .int, 2, 0), (11, yX11_keep, cX11_keep, 3, some .int, 0, 0), (11, yX11_isDesign, cX11_isDesign, 2, some .boolean, 1, 0), (11, yX11_design, cX11_design, 3, some .int, 2, 0), (11, yX11_lined, cX11_lined, 4, some .int, 1, 0), (11, yX11_waysFrom, cX11_waysFrom, 8, some .int, 5, 0), (11, yX11_areAlike, cX11_areAlike, 3, some .boolean, 2, 0), (11, yX11_alike, cX11_alike, 3, some .int, 2, 0), (11, yX11_selves, cX11_selves, 2, some .int, 1, 0), (11, yX11_unlike, cX11_unlike, 10, some .int, 3, 0), (11, yX11_lots, cX11_lots, 12, some .int, 4, 0), (11, yX11_feed, cX11_feed, 2, some .int, 1, 0), (11, yX11_here, cX11_here, 1, some .int, 0, 0), (11, yX11_hasClause, cX11_hasClause, 4, some .boolean, 0, 0), (11, yX11_isDone, cX11_isDone, 2, some .boolean, 1, 0), (11, yX11_read, cX11_read, 6, some .int, 0, 0), (11, yX11_isTape, cX11_isTape, 1, some .boolean, 1, 1), (11, yX11_judge, cX11_judge, 5, some .int, 2, 0), (11, yX11_tape, cX11_tape, 5, some .int, 3, 0), (11, yX11_item, cX11_item, 5, some .int, 3, 0), (11, yX11_peek, cX11_peek, 3, some .long, 2, 0), (11, yX11_shift, cX11_shift, 7, some .int, 5, 0), (11, yX11_copies, cX11_copies, 6, none, 4, 1), (11, yX11_image, cX11_image, 1, some .int, 0, 0), (11, yX11_undo, cX11_undo, 1, some .int, 0, 0), (11, yX11_count, cX11_count, 2, some .int, 1, 0), (12, yJ6_bitCount_0f7a4, cJ6_bitCount_0f7a4, 1, some .int, 1, 1), (13, yJ9_max_7cf53, cJ9_max_7cf53, 2, some .int, 2, 8), (13, yJ9_min_7cf53, cJ9_min_7cf53, 2, some .int, 2, 8), (14, yJ7_fill_d0a16, cJ7_fill_d0a16, 5, none, 2, 1), (14, yJ7_fill_53178, cJ7_fill_53178, 4, none, 2, 1), (15, yL_law, cL_law, 4, some .boolean, 1, 3)]
def mm_mt : List mm_MT := mm_mt_0 ++ (mm_mt_1 ++ (mm_mt_2 ++ (mm_mt_3 ++ (mm_mt_4 ++ (mm_mt_5)))))
def mm_m (k : Nat) : mm_MT := mm_mt.getD k (99, ⟨"", "", ""⟩, ByteArray.empty, 0, none, 0, 9)
def mm_o (k : Nat) := (mm_m k).1
def mm_y (k : Nat) := (mm_m k).2.1
def mm_b (k : Nat) := (mm_m k).2.2.1
def mm_nL (k : Nat) := (mm_m k).2.2.2.1
def mm_rt (k : Nat) := (mm_m k).2.2.2.2.1
def mm_np (k : Nat) := (mm_m k).2.2.2.2.2.1
def mm_kd (k : Nat) := (mm_m k).2.2.2.2.2.2
theorem mb_0 : mm_b 0 = cX0_init := rfl
theorem mb_1 : mm_b 1 = cX0_becomeEmpty := rfl
theorem mb_2 : mm_b 2 = cX0_copyFrom := rfl
theorem mb_3 : mm_b 3 = cX0_becomeChoice := rfl
theorem mb_4 : mm_b 4 = cX0_becomePart := rfl
theorem mb_5 : mm_b 5 = cX0_has := rfl
theorem mb_6 : mm_b 6 = cX0_put := rfl
theorem mb_7 : mm_b 7 = cX0_setAt := rfl
theorem mb_8 : mm_b 8 = cX0_union := rfl
theorem mb_9 : mm_b 9 = cX0_areKeptBy := rfl
theorem mb_10 : mm_b 10 = cX0_meeting := rfl
theorem mb_11 : mm_b 11 = cX0_around := rfl
theorem mb_12 : mm_b 12 = cX0_shareOn := rfl
theorem mb_13 : mm_b 13 = cX0_strengthOn := rfl
theorem mb_14 : mm_b 14 = cX0_turn := rfl
theorem mb_15 : mm_b 15 = cX1_init := rfl
theorem mb_16 : mm_b 16 = cX1_load := rfl
theorem mb_17 : mm_b 17 = cX1_loadRow := rfl
theorem mb_18 : mm_b 18 = cX1_countSet := rfl
theorem mb_19 : mm_b 19 = cX1_numberAt := rfl
theorem mb_20 : mm_b 20 = cX1_solve := rfl
theorem mb_21 : mm_b 21 = cX1_searchSolutions := rfl
theorem mb_22 : mm_b 22 = cX1_change := rfl
theorem mb_23 : mm_b 23 = cX1_canSolve := rfl
theorem mb_24 : mm_b 24 = cX1_noteSolution := rfl
theorem mb_25 : mm_b 25 = cX1_earlySolution := rfl
theorem mb_26 : mm_b 26 = cX1_findFewest := rfl
theorem mb_27 : mm_b 27 = cX1_searchCovers := rfl
theorem mb_28 : mm_b 28 = cX1_covers := rfl
theorem mb_29 : mm_b 29 = cX2_init := rfl
theorem mb_30 : mm_b 30 = cX2_orderOf := rfl
theorem mb_31 : mm_b 31 = cX2_stillness := rfl
theorem mb_32 : mm_b 32 = cX2_followedBy := rfl
theorem mb_33 : mm_b 33 = cX2_enter := rfl
theorem mb_34 : mm_b 34 = cX2_append := rfl
theorem mb_35 : mm_b 35 = cX3_init := rfl
theorem mb_36 : mm_b 36 = cX3_play := rfl
theorem mb_37 : mm_b 37 = cX3_drawOrbits := rfl
theorem mb_38 : mm_b 38 = cX3_drawBelowTwo := rfl
theorem mb_39 : mm_b 39 = cX3_countSets := rfl
theorem mb_40 : mm_b 40 = cX3_countSet := rfl
theorem mb_41 : mm_b 41 = cX3_isEven := rfl
theorem mb_42 : mm_b 42 = cX4_init := rfl
theorem mb_43 : mm_b 43 = cX4_areAlike := rfl
theorem mb_44 : mm_b 44 = cX4_selvesOf := rfl
theorem mb_45 : mm_b 45 = cX4_canPlace := rfl
theorem mb_46 : mm_b 46 = cX4_fits := rfl
theorem mb_47 : mm_b 47 = cX5_init := rfl
theorem mb_48 : mm_b 48 = cX5_find := rfl
theorem mb_49 : mm_b 49 = cX5_spread := rfl
theorem mb_50 : mm_b 50 = cX5_enter := rfl
theorem mb_51 : mm_b 51 = cX5_amountOf := rfl
theorem mb_52 : mm_b 52 = cX5_isOrbit := rfl
theorem mb_53 : mm_b 53 = cX5_numberOf := rfl
theorem mb_54 : mm_b 54 = cX5_holds := rfl
theorem mb_55 : mm_b 55 = cX5_setAt := rfl
theorem mb_56 : mm_b 56 = cX5_greatestOf := rfl
theorem mb_57 : mm_b 57 = cX5_setsIn := rfl
theorem mb_58 : mm_b 58 = cX5_setsAround := rfl
theorem mb_59 : mm_b 59 = cX6_init := rfl
theorem mb_60 : mm_b 60 = cX6_restart := rfl
theorem mb_61 : mm_b 61 = cX6_copyFrom := rfl
theorem mb_62 : mm_b 62 = cX6_isPoint := rfl
theorem mb_63 : mm_b 63 = cX6_isSize := rfl
theorem mb_64 : mm_b 64 = cX6_isSet := rfl
theorem mb_65 : mm_b 65 = cX6_whole := rfl
theorem mb_66 : mm_b 66 = cX6_wayAt := rfl
theorem mb_67 : mm_b 67 = cX6_spareWay := rfl
theorem mb_68 : mm_b 68 = cX6_removeWay := rfl
theorem mb_69 : mm_b 69 = cX6_designAt := rfl
theorem mb_70 : mm_b 70 = cX6_spareDesign := rfl
theorem mb_71 : mm_b 71 = cX7_init := rfl
theorem mb_72 : mm_b 72 = cX7_become := rfl
theorem mb_73 : mm_b 73 = cX7_isPlace := rfl
theorem mb_74 : mm_b 74 = cX7_itemAt := rfl
theorem mb_75 : mm_b 75 = cX7_put := rfl
theorem mb_76 : mm_b 76 = cX7_cut := rfl
theorem mb_77 : mm_b 77 = cX7_hasPlaces := rfl
theorem mb_78 : mm_b 78 = cX7_copyItems := rfl
theorem mb_79 : mm_b 79 = cX8_init := rfl
theorem mb_80 : mm_b 80 = cX8_append := rfl
theorem mb_81 : mm_b 81 = cX8_signAt := rfl
theorem mb_82 : mm_b 82 = cX8_digitAt := rfl
theorem mb_83 : mm_b 83 = cX8_digitsFrom := rfl
theorem mb_84 : mm_b 84 = cX8_numberIn := rfl
theorem mb_85 : mm_b 85 = cX8_fault := rfl
theorem mb_86 : mm_b 86 = cX8_leastDigits := rfl
theorem mb_87 : mm_b 87 = cX8_mostDigits := rfl
theorem mb_88 : mm_b 88 = cX9_init := rfl
theorem mb_89 : mm_b 89 = cX9_copyFrom := rfl
theorem mb_90 : mm_b 90 = cX9_becomeKind := rfl
theorem mb_91 : mm_b 91 = cX9_targetByKind := rfl
theorem mb_92 : mm_b 92 = cX9_swapped := rfl
theorem mb_93 : mm_b 93 = cX9_becomeByHand := rfl
theorem mb_94 : mm_b 94 = cX9_pointFor := rfl
theorem mb_95 : mm_b 95 = cX9_setFor := rfl
theorem mb_96 : mm_b 96 = cX9_period := rfl
theorem mb_97 : mm_b 97 = cX9_isDoneAfter := rfl
theorem mb_98 : mm_b 98 = cX10_init := rfl
theorem mb_99 : mm_b 99 = cX10_points := rfl
theorem mb_100 : mm_b 100 = cX10_way := rfl
theorem mb_101 : mm_b 101 = cX10_hand := rfl
theorem mb_102 : mm_b 102 = cX10_drop := rfl
theorem mb_103 : mm_b 103 = cX10_wayOf := rfl
theorem mb_104 : mm_b 104 = cX10_takes := rfl
theorem mb_105 : mm_b 105 = cX10_moves := rfl
theorem mb_106 : mm_b 106 = cX10_order := rfl
theorem mb_107 : mm_b 107 = cX10_orbits := rfl
theorem mb_108 : mm_b 108 = cX10_orbit := rfl
theorem mb_109 : mm_b 109 = cX10_member := rfl
theorem mb_110 : mm_b 110 = cX10_orbitOf := rfl
theorem mb_111 : mm_b 111 = cX10_table := rfl
theorem mb_112 : mm_b 112 = cX10_solved := rfl
theorem mb_113 : mm_b 113 = cX10_solution := rfl
theorem mb_114 : mm_b 114 = cX10_cover := rfl
theorem mb_115 : mm_b 115 = cX10_choose := rfl
theorem mb_116 : mm_b 116 = cX10_block := rfl
theorem mb_117 : mm_b 117 = cX10_blockOf := rfl
theorem mb_118 : mm_b 118 = cX10_blocks := rfl
theorem mb_119 : mm_b 119 = cX10_share := rfl
theorem mb_120 : mm_b 120 = cX10_meets := rfl
theorem mb_121 : mm_b 121 = cX10_turned := rfl
theorem mb_122 : mm_b 122 = cX10_parted := rfl
theorem mb_123 : mm_b 123 = cX10_keep := rfl
theorem mb_124 : mm_b 124 = cX10_design := rfl
theorem mb_125 : mm_b 125 = cX10_alike := rfl
theorem mb_126 : mm_b 126 = cX10_selves := rfl
theorem mb_127 : mm_b 127 = cX10_unlike := rfl
theorem mb_128 : mm_b 128 = cX10_lots := rfl
theorem mb_129 : mm_b 129 = cX10_feed := rfl
theorem mb_130 : mm_b 130 = cX10_read := rfl
theorem mb_131 : mm_b 131 = cX10_judge := rfl
theorem mb_132 : mm_b 132 = cX10_image := rfl
theorem mb_133 : mm_b 133 = cX10_undo := rfl
theorem mb_134 : mm_b 134 = cX10_count := rfl
theorem mb_135 : mm_b 135 = cX10_tape := rfl
theorem mb_136 : mm_b 136 = cX10_item := rfl
theorem mb_137 : mm_b 137 = cX10_peek := rfl
theorem mb_138 : mm_b 138 = cX10_shift := rfl
theorem mb_139 : mm_b 139 = cX10_areSizes := rfl
theorem mb_140 : mm_b 140 = cX10_isAim := rfl
theorem mb_141 : mm_b 141 = cX10_hasBitsFrom := rfl
theorem mb_142 : mm_b 142 = cX10_haveDivisorInCommon := rfl
theorem mb_143 : mm_b 143 = cX10_isArrangement := rfl
theorem mb_144 : mm_b 144 = cX10_loadChoices := rfl
theorem mb_145 : mm_b 145 = cX10_isLikeAnEarlierSolution := rfl
theorem mb_146 : mm_b 146 = cX10_doClauses := rfl
theorem mb_147 : mm_b 147 = cX10_doClause := rfl
theorem mb_148 : mm_b 148 = cX10_doBlockClause := rfl
theorem mb_149 : mm_b 149 = cX10_tapeAt := rfl
theorem mb_150 : mm_b 150 = cX10_modulo := rfl
theorem mb_151 : mm_b 151 = cX11_init := rfl
theorem mb_152 : mm_b 152 = cX11_in := rfl
theorem mb_153 : mm_b 153 = cX11_starts := rfl
theorem mb_154 : mm_b 154 = cX11_size := rfl
theorem mb_155 : mm_b 155 = cX11_whole := rfl
theorem mb_156 : mm_b 156 = cX11_isSet := rfl
theorem mb_157 : mm_b 157 = cX11_isPoint := rfl
theorem mb_158 : mm_b 158 = cX11_isWay := rfl
theorem mb_159 : mm_b 159 = cX11_points := rfl
theorem mb_160 : mm_b 160 = cX11_common := rfl
theorem mb_161 : mm_b 161 = cX11_goes := rfl
theorem mb_162 : mm_b 162 = cX11_way := rfl
theorem mb_163 : mm_b 163 = cX11_hand := rfl
theorem mb_164 : mm_b 164 = cX11_drop := rfl
theorem mb_165 : mm_b 165 = cX11_to := rfl
theorem mb_166 : mm_b 166 = cX11_moved := rfl
theorem mb_167 : mm_b 167 = cX11_timesOf := rfl
theorem mb_168 : mm_b 168 = cX11_holds := rfl
theorem mb_169 : mm_b 169 = cX11_wayOf := rfl
theorem mb_170 : mm_b 170 = cX11_takes := rfl
theorem mb_171 : mm_b 171 = cX11_moves := rfl
theorem mb_172 : mm_b 172 = cX11_order := rfl
theorem mb_173 : mm_b 173 = cX11_finds := rfl
theorem mb_174 : mm_b 174 = cX11_isSize := rfl
theorem mb_175 : mm_b 175 = cX11_orbits := rfl
theorem mb_176 : mm_b 176 = cX11_isIn := rfl
theorem mb_177 : mm_b 177 = cX11_least := rfl
theorem mb_178 : mm_b 178 = cX11_orbit := rfl
theorem mb_179 : mm_b 179 = cX11_member := rfl
theorem mb_180 : mm_b 180 = cX11_orbitOf := rfl
theorem mb_181 : mm_b 181 = cX11_areSizes := rfl
theorem mb_182 : mm_b 182 = cX11_tables := rfl
theorem mb_183 : mm_b 183 = cX11_table := rfl
theorem mb_184 : mm_b 184 = cX11_sum := rfl
theorem mb_185 : mm_b 185 = cX11_solves := rfl
theorem mb_186 : mm_b 186 = cX11_nth := rfl
theorem mb_187 : mm_b 187 = cX11_solved := rfl
theorem mb_188 : mm_b 188 = cX11_solution := rfl
theorem mb_189 : mm_b 189 = cX11_covers := rfl
theorem mb_190 : mm_b 190 = cX11_cover := rfl
theorem mb_191 : mm_b 191 = cX11_many := rfl
theorem mb_192 : mm_b 192 = cX11_choose := rfl
theorem mb_193 : mm_b 193 = cX11_block := rfl
theorem mb_194 : mm_b 194 = cX11_blockOf := rfl
theorem mb_195 : mm_b 195 = cX11_shareOf := rfl
theorem mb_196 : mm_b 196 = cX11_strengthOf := rfl
theorem mb_197 : mm_b 197 = cX11_blocks := rfl
theorem mb_198 : mm_b 198 = cX11_share := rfl
theorem mb_199 : mm_b 199 = cX11_meets := rfl
theorem mb_200 : mm_b 200 = cX11_turned := rfl
theorem mb_201 : mm_b 201 = cX11_parted := rfl
theorem mb_202 : mm_b 202 = cX11_keep := rfl
theorem mb_203 : mm_b 203 = cX11_isDesign := rfl
theorem mb_204 : mm_b 204 = cX11_design := rfl
theorem mb_205 : mm_b 205 = cX11_lined := rfl
theorem mb_206 : mm_b 206 = cX11_waysFrom := rfl
theorem mb_207 : mm_b 207 = cX11_areAlike := rfl
theorem mb_208 : mm_b 208 = cX11_alike := rfl
theorem mb_209 : mm_b 209 = cX11_selves := rfl
theorem mb_210 : mm_b 210 = cX11_unlike := rfl
theorem mb_211 : mm_b 211 = cX11_lots := rfl
theorem mb_212 : mm_b 212 = cX11_feed := rfl
theorem mb_213 : mm_b 213 = cX11_here := rfl
theorem mb_214 : mm_b 214 = cX11_hasClause := rfl
theorem mb_215 : mm_b 215 = cX11_isDone := rfl
theorem mb_216 : mm_b 216 = cX11_read := rfl
theorem mb_217 : mm_b 217 = cX11_isTape := rfl
theorem mb_218 : mm_b 218 = cX11_judge := rfl
theorem mb_219 : mm_b 219 = cX11_tape := rfl
theorem mb_220 : mm_b 220 = cX11_item := rfl
theorem mb_221 : mm_b 221 = cX11_peek := rfl
theorem mb_222 : mm_b 222 = cX11_shift := rfl
theorem mb_223 : mm_b 223 = cX11_copies := rfl
theorem mb_224 : mm_b 224 = cX11_image := rfl
theorem mb_225 : mm_b 225 = cX11_undo := rfl
theorem mb_226 : mm_b 226 = cX11_count := rfl
theorem mb_227 : mm_b 227 = cJ6_bitCount_0f7a4 := rfl
theorem mb_228 : mm_b 228 = cJ9_max_7cf53 := rfl
theorem mb_229 : mm_b 229 = cJ9_min_7cf53 := rfl
theorem mb_230 : mm_b 230 = cJ7_fill_d0a16 := rfl
theorem mb_231 : mm_b 231 = cJ7_fill_53178 := rfl
theorem mb_232 : mm_b 232 = cL_law := rfl
abbrev kX0_init : Nat := 0
abbrev kX0_becomeEmpty : Nat := 1
abbrev kX0_copyFrom : Nat := 2
abbrev kX0_becomeChoice : Nat := 3
abbrev kX0_becomePart : Nat := 4
abbrev kX0_has : Nat := 5
abbrev kX0_put : Nat := 6
abbrev kX0_setAt : Nat := 7
abbrev kX0_union : Nat := 8
abbrev kX0_areKeptBy : Nat := 9
abbrev kX0_meeting : Nat := 10
abbrev kX0_around : Nat := 11
abbrev kX0_shareOn : Nat := 12
abbrev kX0_strengthOn : Nat := 13
abbrev kX0_turn : Nat := 14
abbrev kX1_init : Nat := 15
abbrev kX1_load : Nat := 16
abbrev kX1_loadRow : Nat := 17
abbrev kX1_countSet : Nat := 18
abbrev kX1_numberAt : Nat := 19
abbrev kX1_solve : Nat := 20
abbrev kX1_searchSolutions : Nat := 21
abbrev kX1_change : Nat := 22
abbrev kX1_canSolve : Nat := 23
abbrev kX1_noteSolution : Nat := 24
abbrev kX1_earlySolution : Nat := 25
abbrev kX1_findFewest : Nat := 26
abbrev kX1_searchCovers : Nat := 27
abbrev kX1_covers : Nat := 28
abbrev kX2_init : Nat := 29
abbrev kX2_orderOf : Nat := 30
abbrev kX2_stillness : Nat := 31
abbrev kX2_followedBy : Nat := 32
abbrev kX2_enter : Nat := 33
abbrev kX2_append : Nat := 34
abbrev kX3_init : Nat := 35
abbrev kX3_play : Nat := 36
abbrev kX3_drawOrbits : Nat := 37
abbrev kX3_drawBelowTwo : Nat := 38
abbrev kX3_countSets : Nat := 39
abbrev kX3_countSet : Nat := 40
abbrev kX3_isEven : Nat := 41
abbrev kX4_init : Nat := 42
abbrev kX4_areAlike : Nat := 43
abbrev kX4_selvesOf : Nat := 44
abbrev kX4_canPlace : Nat := 45
abbrev kX4_fits : Nat := 46
abbrev kX5_init : Nat := 47
abbrev kX5_find : Nat := 48
abbrev kX5_spread : Nat := 49
abbrev kX5_enter : Nat := 50
abbrev kX5_amountOf : Nat := 51
abbrev kX5_isOrbit : Nat := 52
abbrev kX5_numberOf : Nat := 53
abbrev kX5_holds : Nat := 54
abbrev kX5_setAt : Nat := 55
abbrev kX5_greatestOf : Nat := 56
abbrev kX5_setsIn : Nat := 57
abbrev kX5_setsAround : Nat := 58
abbrev kX6_init : Nat := 59
abbrev kX6_restart : Nat := 60
abbrev kX6_copyFrom : Nat := 61
abbrev kX6_isPoint : Nat := 62
abbrev kX6_isSize : Nat := 63
abbrev kX6_isSet : Nat := 64
abbrev kX6_whole : Nat := 65
abbrev kX6_wayAt : Nat := 66
abbrev kX6_spareWay : Nat := 67
abbrev kX6_removeWay : Nat := 68
abbrev kX6_designAt : Nat := 69
abbrev kX6_spareDesign : Nat := 70
abbrev kX7_init : Nat := 71
abbrev kX7_become : Nat := 72
abbrev kX7_isPlace : Nat := 73
abbrev kX7_itemAt : Nat := 74
abbrev kX7_put : Nat := 75
abbrev kX7_cut : Nat := 76
abbrev kX7_hasPlaces : Nat := 77
abbrev kX7_copyItems : Nat := 78
abbrev kX8_init : Nat := 79
abbrev kX8_append : Nat := 80
abbrev kX8_signAt : Nat := 81
abbrev kX8_digitAt : Nat := 82
abbrev kX8_digitsFrom : Nat := 83
abbrev kX8_numberIn : Nat := 84
abbrev kX8_fault : Nat := 85
abbrev kX8_leastDigits : Nat := 86
abbrev kX8_mostDigits : Nat := 87
abbrev kX9_init : Nat := 88
abbrev kX9_copyFrom : Nat := 89
abbrev kX9_becomeKind : Nat := 90
abbrev kX9_targetByKind : Nat := 91
abbrev kX9_swapped : Nat := 92
abbrev kX9_becomeByHand : Nat := 93
abbrev kX9_pointFor : Nat := 94
abbrev kX9_setFor : Nat := 95
abbrev kX9_period : Nat := 96
abbrev kX9_isDoneAfter : Nat := 97
abbrev kX10_init : Nat := 98
abbrev kX10_points : Nat := 99
abbrev kX10_way : Nat := 100
abbrev kX10_hand : Nat := 101
abbrev kX10_drop : Nat := 102
abbrev kX10_wayOf : Nat := 103
abbrev kX10_takes : Nat := 104
abbrev kX10_moves : Nat := 105
abbrev kX10_order : Nat := 106
abbrev kX10_orbits : Nat := 107
abbrev kX10_orbit : Nat := 108
abbrev kX10_member : Nat := 109
abbrev kX10_orbitOf : Nat := 110
abbrev kX10_table : Nat := 111
abbrev kX10_solved : Nat := 112
abbrev kX10_solution : Nat := 113
abbrev kX10_cover : Nat := 114
abbrev kX10_choose : Nat := 115
abbrev kX10_block : Nat := 116
abbrev kX10_blockOf : Nat := 117
abbrev kX10_blocks : Nat := 118
abbrev kX10_share : Nat := 119
abbrev kX10_meets : Nat := 120
abbrev kX10_turned : Nat := 121
abbrev kX10_parted : Nat := 122
abbrev kX10_keep : Nat := 123
abbrev kX10_design : Nat := 124
abbrev kX10_alike : Nat := 125
abbrev kX10_selves : Nat := 126
abbrev kX10_unlike : Nat := 127
abbrev kX10_lots : Nat := 128
abbrev kX10_feed : Nat := 129
abbrev kX10_read : Nat := 130
abbrev kX10_judge : Nat := 131
abbrev kX10_image : Nat := 132
abbrev kX10_undo : Nat := 133
abbrev kX10_count : Nat := 134
abbrev kX10_tape : Nat := 135
abbrev kX10_item : Nat := 136
abbrev kX10_peek : Nat := 137
abbrev kX10_shift : Nat := 138
abbrev kX10_areSizes : Nat := 139
abbrev kX10_isAim : Nat := 140
abbrev kX10_hasBitsFrom : Nat := 141
abbrev kX10_haveDivisorInCommon : Nat := 142
abbrev kX10_isArrangement : Nat := 143
abbrev kX10_loadChoices : Nat := 144
abbrev kX10_isLikeAnEarlierSolution : Nat := 145
abbrev kX10_doClauses : Nat := 146
abbrev kX10_doClause : Nat := 147
abbrev kX10_doBlockClause : Nat := 148
abbrev kX10_tapeAt : Nat := 149
abbrev kX10_modulo : Nat := 150
abbrev kX11_init : Nat := 151
abbrev kX11_in : Nat := 152
abbrev kX11_starts : Nat := 153
abbrev kX11_size : Nat := 154
abbrev kX11_whole : Nat := 155
abbrev kX11_isSet : Nat := 156
abbrev kX11_isPoint : Nat := 157
abbrev kX11_isWay : Nat := 158
abbrev kX11_points : Nat := 159
abbrev kX11_common : Nat := 160
abbrev kX11_goes : Nat := 161
abbrev kX11_way : Nat := 162
abbrev kX11_hand : Nat := 163
abbrev kX11_drop : Nat := 164
abbrev kX11_to : Nat := 165
abbrev kX11_moved : Nat := 166
abbrev kX11_timesOf : Nat := 167
abbrev kX11_holds : Nat := 168
abbrev kX11_wayOf : Nat := 169
abbrev kX11_takes : Nat := 170
abbrev kX11_moves : Nat := 171
abbrev kX11_order : Nat := 172
abbrev kX11_finds : Nat := 173
abbrev kX11_isSize : Nat := 174
abbrev kX11_orbits : Nat := 175
abbrev kX11_isIn : Nat := 176
abbrev kX11_least : Nat := 177
abbrev kX11_orbit : Nat := 178
abbrev kX11_member : Nat := 179
abbrev kX11_orbitOf : Nat := 180
abbrev kX11_areSizes : Nat := 181
abbrev kX11_tables : Nat := 182
abbrev kX11_table : Nat := 183
abbrev kX11_sum : Nat := 184
abbrev kX11_solves : Nat := 185
abbrev kX11_nth : Nat := 186
abbrev kX11_solved : Nat := 187
abbrev kX11_solution : Nat := 188
abbrev kX11_covers : Nat := 189
abbrev kX11_cover : Nat := 190
abbrev kX11_many : Nat := 191
abbrev kX11_choose : Nat := 192
abbrev kX11_block : Nat := 193
abbrev kX11_blockOf : Nat := 194
abbrev kX11_shareOf : Nat := 195
abbrev kX11_strengthOf : Nat := 196
abbrev kX11_blocks : Nat := 197
abbrev kX11_share : Nat := 198
abbrev kX11_meets : Nat := 199
abbrev kX11_turned : Nat := 200
abbrev kX11_parted : Nat := 201
abbrev kX11_keep : Nat := 202
abbrev kX11_isDesign : Nat := 203
abbrev kX11_design : Nat := 204
abbrev kX11_lined : Nat := 205
abbrev kX11_waysFrom : Nat := 206
abbrev kX11_areAlike : Nat := 207
abbrev kX11_alike : Nat := 208
abbrev kX11_selves : Nat := 209
abbrev kX11_unlike : Nat := 210
abbrev kX11_lots : Nat := 211
abbrev kX11_feed : Nat := 212
abbrev kX11_here : Nat := 213
abbrev kX11_hasClause : Nat := 214
abbrev kX11_isDone : Nat := 215
abbrev kX11_read : Nat := 216
abbrev kX11_isTape : Nat := 217
abbrev kX11_judge : Nat := 218
abbrev kX11_tape : Nat := 219
abbrev kX11_item : Nat := 220
abbrev kX11_peek : Nat := 221
abbrev kX11_shift : Nat := 222
abbrev kX11_copies : Nat := 223
abbrev kX11_image : Nat := 224
abbrev kX11_undo : Nat := 225
abbrev kX11_count : Nat := 226
abbrev kJ6_bitCount_0f7a4 : Nat := 227
abbrev kJ9_max_7cf53 : Nat := 228
abbrev kJ9_min_7cf53 : Nat := 229
abbrev kJ7_fill_d0a16 : Nat := 230
abbrev kJ7_fill_53178 : Nat := 231
abbrev kL_law : Nat := 232
/-- of a class's fields: kind (0 int, 1 boolean, 2 reference), final -/
def mm_ft : List (List (Nat × Bool)) := [[(0, false), (0, false), (2, true)], [(2, true), (2, true), (2, true), (2, true), (2, true), (2, true), (0, false), (0, false), (0, false), (0, false), (0, false), (0, false)], [(2, true), (2, true), (0, false)], [(2, true), (2, true), (0, false), (0, false), (0, false)], [(2, true)], [(2, true), (2, true), (2, true)], [(0, false), (0, false), (0, false), (2, true), (2, true), (2, true)], [(0, false), (0, false), (2, true)], [(0, false), (2, true)], [(0, false), (0, false), (2, true)], [(2, true), (2, true), (1, false), (2, true), (2, true), (2, true), (2, true), (2, true), (2, true), (2, true), (2, true), (2, true)], [(2, true), (2, true), (2, true), (2, true), (1, false), (2, true), (2, true), (2, true), (2, true), (2, true), (2, true), (2, true), (2, true), (2, true), (2, true), (2, true), (0, false), (0, false), (0, false), (0, false), (0, false), (2, true), (2, true), (2, true), (2, true)]]
def mm_fk (c k : Nat) : Nat := (((mm_ft.getD c []).getD k (9, true))).1
def mm_ff (c k : Nat) : Bool := (((mm_ft.getD c []).getD k (9, true))).2
def mm_fn (c : Nat) : Nat := (mm_ft.getD c []).length
/-- field links: own class, entry; class, place; the word's place in tables_1 -/
def mm_fl : List (Nat × Nat × Nat × Nat × Nat) := [(0, 9, 0, 0, 37), (0, 15, 0, 1, 39), (0, 18, 0, 2, 41), (1, 9, 1, 0, 168), (1, 15, 1, 1, 169), (1, 18, 1, 2, 170), (1, 21, 1, 3, 171), (1, 24, 1, 4, 172), (1, 27, 1, 5, 173), (1, 42, 1, 6, 174), (1, 46, 1, 7, 175), (1, 78, 1, 8, 176), (1, 81, 1, 9, 177), (1, 84, 1, 11, 181), (1, 106, 1, 10, 179), (2, 9, 2, 0, 152), (2, 15, 2, 1, 153), (2, 24, 2, 2, 154), (2, 36, 6, 1, 74), (3, 9, 3, 0, 224), (3, 15, 3, 1, 225), (3, 19, 3, 2, 226), (3, 23, 3, 3, 227), (3, 26, 3, 4, 229), (4, 9, 4, 0, 214), (5, 9, 5, 0, 136), (5, 15, 5, 1, 137), (5, 18, 5, 2, 138), (5, 47, 6, 1, 75), (6, 9, 6, 0, 71), (6, 15, 6, 1, 73), (6, 18, 6, 2, 77), (6, 24, 6, 3, 79), (6, 30, 6, 4, 81), (6, 35, 6, 5, 82), (7, 9, 7, 0, 117), (7, 15, 7, 1, 119), (7, 18, 7, 2, 121), (8, 9, 8, 0, 102), (8, 15, 8, 1, 104), (9, 9, 9, 2, 61), (9, 15, 9, 0, 57), (9, 19, 9, 1, 59), (10, 12, 10, 0, 244), (10, 18, 10, 1, 245), (10, 21, 10, 2, 246), (10, 28, 10, 3, 247), (10, 34, 10, 4, 248), (10, 42, 10, 5, 249), (10, 49, 10, 6, 250), (10, 56, 10, 7, 251), (10, 63, 10, 8, 252), (10, 70, 10, 9, 253), (10, 77, 10, 10, 254), (10, 81, 10, 11, 255), (10, 84, 6, 0, 72), (10, 106, 6, 1, 76), (10, 123, 9, 0, 58), (10, 126, 9, 1, 60), (10, 129, 6, 3, 80), (10, 200, 1, 9, 178), (10, 203, 1, 11, 182), (10, 209, 1, 10, 180), (10, 219, 0, 1, 40), (10, 227, 0, 0, 38), (10, 269, 6, 2, 78), (10, 291, 3, 3, 228), (10, 294, 3, 4, 230), (10, 300, 8, 0, 103), (10, 313, 7, 0, 118), (10, 316, 7, 1, 120), (11, 11, 11, 0, 919), (11, 15, 11, 1, 920), (11, 20, 11, 2, 921), (11, 23, 11, 3, 922), (11, 26, 11, 5, 924), (11, 29, 11, 6, 925), (11, 32, 11, 7, 926), (11, 35, 11, 8, 927), (11, 38, 11, 9, 928), (11, 43, 11, 10, 929), (11, 46, 11, 11, 930), (11, 49, 11, 12, 931), (11, 53, 11, 13, 932), (11, 56, 11, 14, 933), (11, 59, 11, 15, 934), (11, 62, 11, 21, 940), (11, 65, 11, 22, 941), (11, 70, 11, 23, 942), (11, 73, 11, 24, 943), (11, 202, 11, 16, 935), (11, 206, 11, 17, 936), (11, 212, 11, 18, 937), (11, 215, 11, 19, 938), (11, 218, 11, 20, 939), (11, 260, 11, 4, 923)]
def mm_lf (o i : Nat) : Option (Nat × Nat) := (mm_fl.find? (fun e => e.1 == o && e.2.1 == i)).map (fun e => (e.2.2.1, e.2.2.2.1))
/-- method links: own class, entry; method, kind (0 of an object, 1 static, 2 constructor, 3 static of a nest mate, 4 arraycopy, 5 Object(), 6 max, 7 min); the word's place -/
def mm_mlk : List (Nat × Nat × Nat × Nat × Nat) := [(0, 3, 0, 5, 36), (0, 22, 5, 0, 367), (0, 26, 1, 0, 601), (0, 30, 53, 0, 602), (0, 36, 227, 1, 603), (0, 41, 6, 0, 604), (0, 45, 95, 0, 363), (0, 50, 11, 0, 635), (0, 53, 12, 0, 631), (1, 3, 0, 5, 167), (1, 30, 51, 0, 528), (1, 36, 0, 7, 529), (1, 49, 231, 1, 532), (1, 55, 57, 0, 533), (1, 58, 55, 0, 534), (1, 62, 17, 0, 535), (1, 66, 227, 1, 539), (1, 71, 53, 0, 540), (1, 74, 18, 0, 541), (1, 87, 19, 0, 549), (1, 90, 21, 0, 553), (1, 93, 24, 0, 557), (1, 97, 22, 0, 561), (1, 101, 23, 0, 565), (1, 109, 27, 0, 582), (1, 112, 28, 0, 586), (2, 3, 0, 5, 151), (2, 18, 231, 1, 413), (2, 28, 31, 1, 416), (2, 32, 33, 0, 419), (2, 41, 66, 0, 428), (2, 45, 32, 1, 429), (2, 49, 94, 0, 432), (2, 56, 34, 0, 424), (3, 3, 0, 5, 223), (3, 29, 51, 0, 737), (3, 35, 37, 0, 738), (3, 39, 39, 0, 749), (3, 43, 41, 0, 760), (3, 47, 38, 0, 742), (3, 56, 231, 1, 753), (3, 62, 53, 0, 754), (3, 65, 227, 1, 755), (3, 68, 40, 0, 756), (4, 3, 0, 5, 213), (4, 15, 45, 0, 700), (4, 19, 46, 0, 704), (4, 23, 5, 0, 708), (5, 3, 0, 5, 135), (5, 21, 231, 1, 445), (5, 27, 65, 0, 446), (5, 33, 227, 1, 447), (5, 39, 49, 0, 448), (5, 43, 50, 0, 452), (5, 51, 66, 0, 456), (5, 55, 95, 0, 457), (5, 60, 51, 0, 470), (5, 63, 53, 0, 479), (5, 66, 54, 0, 475), (5, 70, 58, 0, 487), (6, 3, 0, 5, 30), (6, 23, 0, 2, 33), (6, 34, 88, 2, 53), (6, 39, 1, 0, 289), (6, 43, 2, 0, 847), (6, 47, 66, 0, 347), (6, 51, 89, 0, 348), (6, 54, 69, 0, 848), (6, 58, 65, 0, 400), (7, 3, 0, 5, 116), (7, 22, 0, 7, 865), (7, 28, 0, 6, 866), (7, 31, 230, 1, 869), (7, 37, 73, 0, 834), (7, 43, 76, 0, 880), (7, 47, 77, 0, 901), (7, 51, 0, 4, 902), (8, 3, 0, 5, 101), (8, 19, 81, 0, 780), (8, 23, 82, 0, 791), (8, 26, 87, 1, 784), (8, 29, 83, 0, 787), (8, 33, 86, 1, 795), (9, 3, 0, 5, 56), (9, 22, 0, 4, 352), (9, 28, 91, 0, 308), (9, 32, 150, 3, 312), (9, 35, 92, 1, 315), (9, 39, 97, 0, 375), (9, 43, 94, 0, 379), (10, 3, 0, 5, 22), (10, 11, 59, 2, 27), (10, 27, 79, 2, 98), (10, 38, 71, 2, 113), (10, 41, 47, 2, 132), (10, 48, 29, 2, 148), (10, 55, 15, 2, 164), (10, 62, 42, 2, 210), (10, 69, 35, 2, 220), (10, 76, 0, 2, 243), (10, 88, 60, 0, 285), (10, 92, 142, 1, 297), (10, 96, 67, 0, 300), (10, 100, 90, 0, 304), (10, 109, 143, 1, 322), (10, 112, 93, 0, 331), (10, 116, 66, 0, 339), (10, 120, 68, 0, 343), (10, 132, 9, 0, 359), (10, 136, 96, 0, 371), (10, 140, 62, 0, 387), (10, 144, 94, 0, 391), (10, 148, 64, 0, 396), (10, 151, 95, 0, 404), (10, 154, 30, 0, 409), (10, 158, 63, 0, 437), (10, 161, 48, 0, 441), (10, 165, 51, 0, 458), (10, 168, 52, 0, 466), (10, 171, 55, 0, 471), (10, 175, 57, 0, 483), (10, 179, 56, 0, 491), (10, 182, 53, 0, 503), (10, 185, 139, 0, 508), (10, 188, 58, 0, 512), (10, 191, 140, 1, 517), (10, 194, 144, 0, 520), (10, 197, 20, 0, 545), (10, 206, 26, 0, 577), (10, 212, 141, 1, 594), (10, 215, 3, 0, 597), (10, 222, 227, 1, 325), (10, 230, 5, 0, 612), (10, 233, 6, 0, 613), (10, 237, 7, 0, 618), (10, 239, 65, 0, 626), (10, 242, 13, 0, 627), (10, 245, 8, 0, 639), (10, 248, 12, 0, 647), (10, 251, 10, 0, 652), (10, 254, 14, 0, 660), (10, 257, 4, 0, 668), (10, 261, 70, 0, 676), (10, 265, 2, 0, 680), (10, 272, 69, 0, 688), (10, 276, 43, 0, 696), (10, 280, 44, 0, 713), (10, 284, 145, 0, 721), (10, 287, 36, 0, 733), (10, 297, 80, 0, 768), (10, 303, 85, 0, 776), (10, 306, 146, 0, 798), (10, 309, 149, 0, 826), (10, 317, 74, 0, 830), (10, 321, 61, 0, 843), (10, 323, 72, 0, 861), (10, 326, 75, 0, 876), (10, 331, 77, 0, 893), (10, 334, 78, 0, 897), (10, 338, 16, 0, 524), (10, 341, 25, 0, 725), (10, 344, 83, 0, 802), (10, 347, 147, 0, 803), (10, 350, 84, 0, 807), (10, 353, 81, 0, 811), (10, 356, 99, 0, 812), (10, 359, 100, 0, 813), (10, 362, 101, 0, 814), (10, 365, 115, 0, 815), (10, 368, 148, 0, 816), (10, 371, 82, 0, 820), (10, 374, 116, 0, 821), (11, 3, 0, 5, 908), (11, 77, 153, 0, 915), (11, 81, 155, 0, 1041), (11, 85, 152, 1, 1001), (11, 93, 160, 1, 1010), (11, 101, 161, 0, 1013), (11, 105, 157, 0, 1021), (11, 109, 158, 0, 1029), (11, 112, 165, 0, 1049), (11, 115, 166, 0, 1045), (11, 118, 168, 0, 1037), (11, 121, 167, 0, 1053), (11, 125, 156, 0, 1065), (11, 128, 154, 1, 1085), (11, 131, 174, 0, 1077), (11, 134, 173, 0, 1081), (11, 137, 176, 0, 1093), (11, 143, 177, 0, 1097), (11, 146, 181, 0, 1113), (11, 150, 182, 0, 1117), (11, 154, 184, 0, 1134), (11, 157, 185, 0, 1130), (11, 163, 186, 0, 1126), (11, 167, 189, 0, 1146), (11, 170, 191, 1, 1154), (11, 174, 195, 1, 1172), (11, 178, 196, 1, 1169), (11, 181, 203, 0, 1199), (11, 184, 205, 0, 1215), (11, 187, 206, 0, 1211), (11, 191, 207, 0, 1207), (11, 209, 213, 0, 1244), (11, 225, 159, 0, 1258), (11, 228, 162, 0, 1259), (11, 231, 163, 0, 1260), (11, 234, 192, 0, 1261), (11, 237, 193, 0, 1262), (11, 240, 214, 0, 1248), (11, 244, 215, 0, 1254), (11, 249, 217, 1, 1267), (11, 256, 223, 1, 1293), (15, 9, 98, 2, 19), (15, 12, 151, 2, 905), (15, 13, 99, 0, 281), (15, 17, 159, 0, 995), (15, 18, 100, 0, 293), (15, 22, 162, 0, 1004), (15, 23, 101, 0, 318), (15, 26, 163, 0, 1017), (15, 27, 102, 0, 335), (15, 30, 164, 0, 1025), (15, 31, 103, 0, 355), (15, 34, 169, 0, 1033), (15, 35, 104, 0, 383), (15, 38, 170, 0, 1057), (15, 39, 105, 0, 392), (15, 42, 171, 0, 1061), (15, 43, 106, 0, 405), (15, 47, 172, 0, 1069), (15, 48, 107, 0, 433), (15, 51, 175, 0, 1073), (15, 52, 108, 0, 462), (15, 56, 178, 0, 1088), (15, 57, 109, 0, 495), (15, 60, 179, 0, 1101), (15, 61, 110, 0, 499), (15, 64, 180, 0, 1105), (15, 65, 111, 0, 504), (15, 69, 183, 0, 1109), (15, 70, 112, 0, 513), (15, 73, 187, 0, 1121), (15, 74, 113, 0, 569), (15, 77, 188, 0, 1138), (15, 78, 114, 0, 573), (15, 81, 190, 0, 1142), (15, 82, 115, 0, 590), (15, 85, 192, 0, 1150), (15, 86, 116, 0, 608), (15, 89, 193, 0, 1157), (15, 90, 117, 0, 614), (15, 93, 194, 0, 1161), (15, 94, 118, 0, 622), (15, 97, 197, 0, 1165), (15, 98, 119, 0, 643), (15, 101, 198, 0, 1175), (15, 102, 120, 0, 648), (15, 105, 199, 0, 1179), (15, 106, 121, 0, 656), (15, 109, 200, 0, 1183), (15, 110, 122, 0, 664), (15, 113, 201, 0, 1187), (15, 114, 123, 0, 672), (15, 117, 202, 0, 1191), (15, 118, 124, 0, 684), (15, 121, 204, 0, 1195), (15, 122, 125, 0, 692), (15, 125, 208, 0, 1203), (15, 126, 126, 0, 709), (15, 129, 209, 0, 1219), (15, 130, 127, 0, 717), (15, 133, 210, 0, 1223), (15, 134, 128, 0, 729), (15, 137, 211, 0, 1227), (15, 138, 129, 0, 764), (15, 141, 212, 0, 1235), (15, 142, 130, 0, 772), (15, 145, 216, 0, 1240), (15, 146, 131, 0, 822), (15, 149, 218, 0, 1263), (15, 150, 132, 0, 839), (15, 153, 224, 0, 1289), (15, 154, 133, 0, 849), (15, 157, 225, 0, 1296), (15, 158, 134, 0, 853), (15, 161, 226, 0, 1300), (15, 162, 135, 0, 857), (15, 165, 219, 0, 1271), (15, 168, 136, 0, 872), (15, 172, 220, 0, 1276), (15, 173, 137, 0, 884), (15, 177, 221, 0, 1280), (15, 178, 138, 0, 889), (15, 182, 222, 0, 1285)]
def mm_lm (o i : Nat) : Option (Nat × Nat) := (mm_mlk.find? (fun e => e.1 == o && e.2.1 == i)).map (fun e => (e.2.2.1, e.2.2.2.1))
/-- class links: own class, entry; class, or kind of an array of arrays; the word's place -/
def mm_cll : List (Nat × Nat × Nat × Nat) := [(6, 21, 0, 31), (6, 28, 9, 50), (10, 9, 6, 25), (10, 25, 8, 96), (10, 32, 7, 110), (10, 39, 5, 130), (10, 46, 2, 146), (10, 53, 1, 162), (10, 60, 4, 208), (10, 67, 3, 218), (10, 74, 0, 242), (11, 18, 107, 909), (11, 41, 106, 911), (11, 68, 108, 913), (15, 7, 10, 17), (15, 10, 11, 903)]
def mm_lc (o i : Nat) : Option Nat := (mm_cll.find? (fun e => e.1 == o && e.2.1 == i)).map (fun e => e.2.2.1)
def mm_kil : List (Nat × Nat × Int × Nat) := [(1, 105, 2147483647, 581), (2, 55, -1640531535, 423), (3, 51, 1103515245, 746), (3, 54, 2147483647, 747), (3, 55, 65536, 748), (11, 197, 1103515245, 1232), (11, 198, 2147483647, 1233), (11, 199, 65536, 1234), (12, 265, 1431655765, 328), (12, 266, 858993459, 329), (12, 267, 252645135, 330)]
def mm_ki (o i : Nat) : Option Int32 := (mm_kil.find? (fun e => e.1 == o && e.2.1 == i)).map (fun e => Int32.ofInt e.2.2.1)
def mm_kll : List (Nat × Nat × Int × Nat) := [(10, 329, -9223372036854775808, 888), (7, 41, -9223372036854775808, 838), (15, 166, 4294967295, 1304), (11, 89, 3, 999), (11, 91, 8, 1000), (11, 97, 4, 1008), (11, 99, 9, 1009), (11, 141, 2, 1092), (11, 161, 70, 1125), (11, 195, 20, 1231), (11, 200, 127, 1239), (11, 221, 48, 1252), (11, 223, 57, 1253), (11, 247, 5, 1270), (11, 252, -1, 1275), (11, 254, -9223372036854775808, 1284)]
def mm_kl (o i : Nat) : Option Int64 := (mm_kll.find? (fun e => e.1 == o && e.2.1 == i)).map (fun e => Int64.ofInt e.2.2.1)
/-- a method's words in lw_tbl: code; instanceMethod or static; selects (0: none); initialized -/
def mm_mw : List (Nat × Nat × Nat × Nat) := [(95, 94, 0, 63), (352, 350, 351, 63), (743, 741, 742, 63), (660, 658, 659, 63), (731, 729, 730, 63), (430, 428, 429, 63), (667, 665, 666, 63), (681, 679, 680, 63), (702, 700, 701, 63), (422, 420, 421, 63), (715, 713, 714, 63), (698, 697, 18, 63), (694, 692, 693, 63), (690, 688, 689, 63), (723, 721, 722, 63), (226, 225, 0, 69), (587, 585, 586, 69), (598, 597, 9, 69), (604, 603, 10, 69), (612, 611, 11, 69), (608, 606, 607, 69), (616, 615, 12, 69), (624, 623, 14, 69), (628, 627, 15, 69), (620, 619, 13, 69), (788, 786, 787, 69), (640, 638, 639, 69), (645, 644, 16, 69), (649, 648, 17, 69), (210, 209, 0, 68), (472, 470, 471, 68), (478, 477, 0, 68), (491, 490, 0, 68), (482, 481, 2, 68), (487, 486, 3, 68), (282, 281, 0, 71), (796, 794, 795, 71), (801, 800, 22, 71), (805, 804, 23, 71), (812, 811, 24, 71), (819, 818, 25, 71), (823, 822, 26, 71), (272, 271, 0, 70), (759, 757, 758, 70), (776, 774, 775, 70), (763, 762, 19, 70), (767, 766, 20, 70), (194, 193, 0, 67), (504, 502, 503, 67), (511, 510, 4, 67), (515, 514, 5, 67), (521, 519, 520, 67), (529, 527, 528, 67), (542, 540, 541, 67), (538, 537, 6, 67), (534, 532, 533, 67), (554, 552, 553, 67), (546, 544, 545, 67), (550, 548, 549, 67), (89, 88, 0, 62), (348, 346, 347, 62), (906, 904, 905, 62), (450, 448, 449, 62), (500, 498, 499, 62), (459, 457, 458, 62), (463, 461, 462, 62), (402, 400, 401, 62), (363, 361, 362, 62), (406, 404, 405, 62), (751, 749, 750, 62), (739, 737, 738, 62), (175, 174, 0, 66), (924, 922, 923, 66), (897, 896, 31, 66), (893, 891, 892, 66), (939, 937, 938, 66), (943, 942, 32, 66), (956, 954, 955, 66), (960, 958, 959, 66), (160, 159, 0, 65), (831, 829, 830, 65), (843, 841, 842, 65), (854, 852, 853, 65), (850, 848, 849, 65), (870, 868, 869, 65), (839, 837, 838, 65), (857, 856, 0, 65), (846, 845, 0, 65), (115, 114, 0, 64), (411, 409, 410, 64), (367, 365, 366, 64), (371, 370, 0, 64), (377, 376, 0, 64), (394, 392, 393, 64), (442, 440, 441, 64), (426, 424, 425, 64), (434, 432, 433, 64), (438, 437, 1, 64), (81, 80, 0, 61), (344, 342, 343, 61), (356, 354, 355, 61), (381, 379, 380, 61), (398, 396, 397, 61), (418, 416, 417, 61), (446, 444, 445, 61), (455, 453, 454, 61), (468, 466, 467, 61), (496, 494, 495, 61), (525, 523, 524, 61), (558, 556, 557, 61), (562, 560, 561, 61), (567, 565, 566, 61), (576, 574, 575, 61), (632, 630, 631, 61), (636, 634, 635, 61), (653, 651, 652, 61), (671, 669, 670, 61), (677, 675, 676, 61), (685, 683, 684, 61), (706, 704, 705, 61), (711, 709, 710, 61), (719, 717, 718, 61), (727, 725, 726, 61), (735, 733, 734, 61), (747, 745, 746, 61), (755, 753, 754, 61), (772, 770, 771, 61), (780, 778, 779, 61), (792, 790, 791, 61), (827, 825, 826, 61), (835, 833, 834, 61), (885, 883, 884, 61), (902, 900, 901, 61), (912, 910, 911, 61), (916, 914, 915, 61), (920, 918, 919, 61), (935, 933, 934, 61), (947, 945, 946, 61), (952, 950, 951, 61), (571, 570, 7, 61), (579, 578, 0, 61), (656, 655, 0, 61), (359, 358, 0, 61), (384, 383, 0, 61), (583, 582, 8, 61), (784, 783, 21, 61), (861, 860, 27, 61), (866, 865, 28, 61), (879, 878, 29, 61), (889, 888, 30, 61), (374, 373, 0, 61), (967, 966, 0, 72), (1063, 1062, 0, 72), (978, 977, 33, 72), (1147, 1146, 0, 72), (1104, 1103, 38, 72), (1128, 1127, 42, 72), (1084, 1083, 35, 72), (1092, 1091, 36, 72), (1058, 1056, 1057, 72), (1072, 1071, 0, 72), (1076, 1075, 34, 72), (1067, 1065, 1066, 72), (1080, 1078, 1079, 72), (1088, 1086, 1087, 72), (1112, 1111, 40, 72), (1108, 1107, 39, 72), (1116, 1115, 41, 72), (1100, 1099, 37, 72), (1096, 1094, 1095, 72), (1120, 1118, 1119, 72), (1124, 1122, 1123, 72), (1132, 1130, 1131, 72), (1144, 1143, 44, 72), (1140, 1139, 43, 72), (1136, 1134, 1135, 72), (1156, 1155, 45, 72), (1160, 1159, 46, 72), (1151, 1149, 1150, 72), (1164, 1162, 1163, 72), (1168, 1166, 1167, 72), (1176, 1175, 47, 72), (1180, 1179, 48, 72), (1172, 1170, 1171, 72), (1197, 1196, 51, 72), (1193, 1192, 50, 72), (1189, 1188, 49, 72), (1184, 1182, 1183, 72), (1201, 1199, 1200, 72), (1209, 1208, 52, 72), (1205, 1203, 1204, 72), (1216, 1215, 0, 72), (1213, 1211, 1212, 72), (1220, 1218, 1219, 72), (1224, 1222, 1223, 72), (1234, 1233, 0, 72), (1231, 1230, 0, 72), (1228, 1226, 1227, 72), (1238, 1236, 1237, 72), (1242, 1240, 1241, 72), (1246, 1244, 1245, 72), (1250, 1248, 1249, 72), (1254, 1252, 1253, 72), (1262, 1261, 53, 72), (1258, 1256, 1257, 72), (1278, 1277, 56, 72), (1274, 1273, 55, 72), (1270, 1269, 54, 72), (1266, 1264, 1265, 72), (1282, 1280, 1281, 72), (1286, 1284, 1285, 72), (1290, 1288, 1289, 72), (1298, 1296, 1297, 72), (1307, 1306, 57, 72), (1311, 1310, 58, 72), (1317, 1316, 59, 72), (1303, 1301, 1302, 72), (1329, 1328, 0, 72), (1326, 1324, 1325, 72), (1334, 1332, 1333, 72), (1339, 1337, 1338, 72), (1343, 1341, 1342, 72), (1348, 1346, 1347, 72), (1355, 1354, 0, 72), (1352, 1350, 1351, 72), (1359, 1357, 1358, 72), (1363, 1361, 1362, 72), (387, 386, 0, 73), (928, 927, 0, 76), (591, 590, 0, 76), (931, 930, 0, 75), (475, 474, 0, 75), (0, 0, 0, 0)]
/-- classes that are made: class, fields; places of instantiable and initialized -/
def mm_in : List (Nat × Nat × Nat × Nat) := [(0, 3, 92, 63), (1, 12, 223, 69), (2, 3, 207, 68), (3, 5, 279, 71), (4, 1, 269, 70), (5, 3, 191, 67), (6, 6, 86, 62), (7, 3, 172, 66), (8, 2, 157, 65), (9, 3, 112, 64), (10, 12, 78, 61), (11, 25, 964, 72)]
