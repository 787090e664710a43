set_option maxRecDepth 10000 in
def mT : List ri_MT := [(yX0_init, cX0_init, 1, none),
  (yX0_begin, cX0_begin, 2, none),
  (yX0_copyFrom, cX0_copyFrom, 2, none),
  (yX0_letGo, cX0_letGo, 1, none),
  (yX0_segment, cX0_segment, 1, (some .int)),
  (yX0_waitFor, cX0_waitFor, 2, none),
  (yX0_waitLonger, cX0_waitLonger, 2, none),
  (yX1_init, cX1_init, 1, none),
  (yX1_add, cX1_add, 2, none),
  (yX1_addStep, cX1_addStep, 3, none),
  (yX1_argumentOf, cX1_argumentOf, 2, (some .int)),
  (yX1_clear, cX1_clear, 1, none),
  (yX1_firstStep, cX1_firstStep, 2, (some .int)),
  (yX1_numberOn, cX1_numberOn, 2, (some .int)),
  (yX1_opOf, cX1_opOf, 2, (some .int)),
  (yX1_stepsEnd, cX1_stepsEnd, 2, (some .int)),
  (yX2_init, cX2_init, 1, none),
  (yX2_cell, cX2_cell, 3, (some .int)),
  (yX2_clear, cX2_clear, 1, none),
  (yX2_copyFrom, cX2_copyFrom, 2, none),
  (yX2_keep, cX2_keep, 7, (some .int)),
  (yX3_init, cX3_init, 1, none),
  (yX3_carOfStrand, cX3_carOfStrand, 5, (some .int)),
  (yX3_drawPower, cX3_drawPower, 7, none),
  (yX3_drawTimetable, cX3_drawTimetable, 6, none),
  (yX3_followCoast, cX3_followCoast, 8, none),
  (yX3_gapNow, cX3_gapNow, 6, (some .int)),
  (yX3_leastGapIfWaits, cX3_leastGapIfWaits, 9, (some .int)),
  (yX3_leastSpeedToRope, cX3_leastSpeedToRope, 4, (some .int)),
  (yX3_ticksTillWorn, cX3_ticksTillWorn, 6, (some .int)),
  (yX3_topSpeed, cX3_topSpeed, 7, (some .int)),
  (yX4_init, cX4_init, 1, none),
  (yX4_advance, cX4_advance, 1, none),
  (yX4_isDigit, cX4_isDigit, 2, (some .boolean)),
  (yX4_isLetter, cX4_isLetter, 2, (some .boolean)),
  (yX4_open, cX4_open, 3, none),
  (yX4_readNumber, cX4_readNumber, 2, none),
  (yX4_readWord, cX4_readWord, 1, none),
  (yX4_wordNumber, cX4_wordNumber, 7, (some .int)),
  (yX5_init, cX5_init, 1, none),
  (yX5_counts, cX5_counts, 3, (some .boolean)),
  (yX5_falseOnes, cX5_falseOnes, 4, (some .int)),
  (yX5_firstFalse, cX5_firstFalse, 3, (some .int)),
  (yX5_forget, cX5_forget, 1, none),
  (yX5_isFalse, cX5_isFalse, 3, (some .boolean)),
  (yX5_latestBelow, cX5_latestBelow, 7, (some .int)),
  (yX5_speedOf, cX5_speedOf, 5, (some .int)),
  (yX5_takeBack, cX5_takeBack, 2, (some .boolean)),
  (yX5_tell, cX5_tell, 4, (some .int)),
  (yX6_init, cX6_init, 1, none),
  (yX6_ask, cX6_ask, 5, (some .int)),
  (yX6_bringBack, cX6_bringBack, 3, none),
  (yX6_countBumps, cX6_countBumps, 5, none),
  (yX6_cutRope, cX6_cutRope, 4, none),
  (yX6_dipRopes, cX6_dipRopes, 2, none),
  (yX6_gripsOn, cX6_gripsOn, 4, (some .int)),
  (yX6_joined, cX6_joined, 3, (some .int)),
  (yX6_longestDone, cX6_longestDone, 4, (some .int)),
  (yX6_missGrip, cX6_missGrip, 4, none),
  (yX6_moveStrand, cX6_moveStrand, 5, none),
  (yX6_note, cX6_note, 5, (some .int)),
  (yX6_obeyMarks, cX6_obeyMarks, 4, none),
  (yX6_ride, cX6_ride, 4, none),
  (yX6_step, cX6_step, 7, none),
  (yX6_tenthsToNearest, cX6_tenthsToNearest, 7, (some .int)),
  (yX6_tick, cX6_tick, 5, none),
  (yX6_turnTable, cX6_turnTable, 1, none),
  (yX6_unitValue, cX6_unitValue, 4, (some .int)),
  (yX6_valueOf, cX6_valueOf, 10, (some .int)),
  (yX6_waitOn, cX6_waitOn, 3, none),
  (yX6_wearSplices, cX6_wearSplices, 3, none),
  (yX7_init, cX7_init, 2, none),
  (yX7_brakesHold, cX7_brakesHold, 3, (some .boolean)),
  (yX7_clear, cX7_clear, 2, none),
  (yX7_coasted, cX7_coasted, 4, (some .int)),
  (yX7_grade, cX7_grade, 2, (some .int)),
  (yX7_hasCar, cX7_hasCar, 2, (some .boolean)),
  (yX7_hasPlace, cX7_hasPlace, 3, (some .boolean)),
  (yX7_hasRope, cX7_hasRope, 2, (some .boolean)),
  (yX7_hasSplice, cX7_hasSplice, 2, (some .boolean)),
  (yX7_isSegment, cX7_isSegment, 1, (some .boolean)),
  (yX7_layGrade, cX7_layGrade, 5, none),
  (yX7_layRope, cX7_layRope, 3, none),
  (yX7_mark, cX7_mark, 3, (some .int)),
  (yX7_placeAfter, cX7_placeAfter, 5, (some .int)),
  (yX7_pull, cX7_pull, 3, (some .int)),
  (yX7_ropeOn, cX7_ropeOn, 2, (some .int)),
  (yX7_segmentOfPlace, cX7_segmentOfPlace, 4, (some .int)),
  (yX7_setMark, cX7_setMark, 4, none),
  (yX8_init, cX8_init, 1, none),
  (yX8_goOn, cX8_goOn, 1, none),
  (yX8_hasLine, cX8_hasLine, 1, (some .boolean)),
  (yX8_indexOfName, cX8_indexOfName, 4, (some .int)),
  (yX8_isName, cX8_isName, 1, (some .boolean)),
  (yX8_isSign, cX8_isSign, 2, (some .boolean)),
  (yX8_isWord, cX8_isWord, 2, (some .boolean)),
  (yX8_mayBegin, cX8_mayBegin, 2, (some .boolean)),
  (yX8_number, cX8_number, 3, (some .int)),
  (yX8_open, cX8_open, 4, none),
  (yX8_readBoth, cX8_readBoth, 3, none),
  (yX8_readCar, cX8_readCar, 4, none),
  (yX8_readCross, cX8_readCross, 2, none),
  (yX8_readEither, cX8_readEither, 3, none),
  (yX8_readGrade, cX8_readGrade, 6, none),
  (yX8_readLine, cX8_readLine, 2, none),
  (yX8_readMark, cX8_readMark, 4, none),
  (yX8_readOne, cX8_readOne, 2, none),
  (yX8_readRelation, cX8_readRelation, 3, none),
  (yX8_readRope, cX8_readRope, 4, none),
  (yX8_readSetting, cX8_readSetting, 2, none),
  (yX8_readSplice, cX8_readSplice, 6, none),
  (yX8_readSum, cX8_readSum, 4, none),
  (yX8_readTerm, cX8_readTerm, 3, none),
  (yX8_readUnit, cX8_readUnit, 3, none),
  (yX8_readValueWord, cX8_readValueWord, 1, none),
  (yX8_relationHere, cX8_relationHere, 1, (some .int)),
  (yX8_skipSign, cX8_skipSign, 2, (some .boolean)),
  (yX8_skipWord, cX8_skipWord, 2, (some .boolean)),
  (yX8_takeAfter, cX8_takeAfter, 4, (some .int)),
  (yX8_takeNewName, cX8_takeNewName, 3, none),
  (yX8_takeNumber, cX8_takeNumber, 4, (some .int)),
  (yX8_takeRopeName, cX8_takeRopeName, 2, (some .int)),
  (yX8_takeSign, cX8_takeSign, 2, none),
  (yX8_takeWord, cX8_takeWord, 2, none),
  (yX8_wrong, cX8_wrong, 3, none),
  (yX8_wrongHere, cX8_wrongHere, 2, none),
  (yX9_init, cX9_init, 1, none),
  (yX10_init, cX10_init, 2, none),
  (yX10_begin, cX10_begin, 3, none),
  (yX10_copyFrom, cX10_copyFrom, 3, none),
  (yX10_dips, cX10_dips, 3, (some .boolean)),
  (yX10_load, cX10_load, 6, (some .int)),
  (yX10_notDone, cX10_notDone, 4, (some .int)),
  (yX11_init, cX11_init, 2, none),
  (yX11_about, cX11_about, 2, (some .int)),
  (yX11_asks, cX11_asks, 4, (some .int)),
  (yX11_back, cX11_back, 2, (some .int)),
  (yX11_car, cX11_car, 4, (some .int)),
  (yX11_carsAheadInOrder, cX11_carsAheadInOrder, 7, (some .int)),
  (yX11_coasts, cX11_coasts, 4, (some .int)),
  (yX11_cost, cX11_cost, 5, (some .int)),
  (yX11_count, cX11_count, 2, (some .int)),
  (yX11_due, cX11_due, 2, (some .int)),
  (yX11_end, cX11_end, 2, (some .int)),
  (yX11_event, cX11_event, 3, (some .int)),
  (yX11_fault, cX11_fault, 2, (some .int)),
  (yX11_feed, cX11_feed, 6, (some .int)),
  (yX11_free, cX11_free, 2, (some .boolean)),
  (yX11_halt, cX11_halt, 5, (some .int)),
  (yX11_head, cX11_head, 2, (some .int)),
  (yX11_image, cX11_image, 2, (some .int)),
  (yX11_isAhead, cX11_isAhead, 1, (some .boolean)),
  (yX11_judge, cX11_judge, 3, (some .int)),
  (yX11_later, cX11_later, 2, (some .int)),
  (yX11_log, cX11_log, 4, (some .int)),
  (yX11_logged, cX11_logged, 3, (some .int)),
  (yX11_need, cX11_need, 2, (some .int)),
  (yX11_order, cX11_order, 3, (some .int)),
  (yX11_power, cX11_power, 3, (some .int)),
  (yX11_putBytes, cX11_putBytes, 3, none),
  (yX11_rolls, cX11_rolls, 4, (some .int)),
  (yX11_rope, cX11_rope, 3, (some .int)),
  (yX11_run, cX11_run, 3, (some .int)),
  (yX11_runaway, cX11_runaway, 3, (some .int)),
  (yX11_speed, cX11_speed, 2, (some .int)),
  (yX11_splice, cX11_splice, 3, (some .int)),
  (yX11_spread, cX11_spread, 7, (some .int)),
  (yX11_strand, cX11_strand, 3, (some .boolean)),
  (yX11_strandNow, cX11_strandNow, 2, (some .int)),
  (yX11_street, cX11_street, 4, (some .int)),
  (yX11_takes, cX11_takes, 1, (some .int)),
  (yX11_trips, cX11_trips, 2, (some .int)),
  (yX11_untell, cX11_untell, 2, (some .boolean)),
  (yX11_where, cX11_where, 5, (some .int)),
  (yX12_init, cX12_init, 2, none),
  (yX12_about, cX12_about, 2, (some .int)),
  (yX12_after, cX12_after, 5, (some .int)),
  (yX12_amount, cX12_amount, 3, (some .int)),
  (yX12_asks, cX12_asks, 4, (some .int)),
  (yX12_back, cX12_back, 2, (some .int)),
  (yX12_begin, cX12_begin, 2, none),
  (yX12_behindUnit, cX12_behindUnit, 2, (some .boolean)),
  (yX12_bring, cX12_bring, 5, none),
  (yX12_bringEvents, cX12_bringEvents, 4, none),
  (yX12_car, cX12_car, 3, (some .int)),
  (yX12_carMany, cX12_carMany, 1, (some .int)),
  (yX12_clearBank, cX12_clearBank, 2, none),
  (yX12_coast, cX12_coast, 7, none),
  (yX12_coasting, cX12_coasting, 5, (some .int)),
  (yX12_coasts, cX12_coasts, 4, (some .int)),
  (yX12_comes, cX12_comes, 5, (some .int)),
  (yX12_comesBack, cX12_comesBack, 3, none),
  (yX12_cost, cX12_cost, 6, (some .int)),
  (yX12_count, cX12_count, 2, (some .int)),
  (yX12_counts, cX12_counts, 3, (some .boolean)),
  (yX12_crossAt, cX12_crossAt, 3, (some .int)),
  (yX12_cutRope, cX12_cutRope, 5, none),
  (yX12_due, cX12_due, 4, (some .int)),
  (yX12_e, cX12_e, 2, none),
  (yX12_emit, cX12_emit, 3, none),
  (yX12_end, cX12_end, 2, (some .int)),
  (yX12_event, cX12_event, 3, (some .int)),
  (yX12_event0, cX12_event0, 5, (some .int)),
  (yX12_fails, cX12_fails, 3, none),
  (yX12_fault, cX12_fault, 2, (some .int)),
  (yX12_feed, cX12_feed, 8, (some .int)),
  (yX12_findFalse, cX12_findFalse, 3, none),
  (yX12_free, cX12_free, 2, (some .boolean)),
  (yX12_fresh, cX12_fresh, 6, (some .long)),
  (yX12_goOn, cX12_goOn, 3, none),
  (yX12_goes, cX12_goes, 3, none),
  (yX12_going, cX12_going, 3, (some .int)),
  (yX12_gradeAt, cX12_gradeAt, 2, (some .int)),
  (yX12_grippers, cX12_grippers, 4, (some .int)),
  (yX12_gripsOn, cX12_gripsOn, 6, none),
  (yX12_halt, cX12_halt, 4, (some .int)),
  (yX12_has, cX12_has, 3, (some .boolean)),
  (yX12_head, cX12_head, 3, (some .int)),
  (yX12_headOf, cX12_headOf, 7, (some .int)),
  (yX12_holdBack, cX12_holdBack, 6, none),
  (yX12_image, cX12_image, 2, (some .int)),
  (yX12_is, cX12_is, 2, (some .boolean)),
  (yX12_isCar, cX12_isCar, 2, (some .boolean)),
  (yX12_isCompared, cX12_isCompared, 2, (some .boolean)),
  (yX12_isDigit, cX12_isDigit, 1, (some .boolean)),
  (yX12_isGood, cX12_isGood, 1, (some .boolean)),
  (yX12_isGrownFull, cX12_isGrownFull, 1, (some .boolean)),
  (yX12_isIn, cX12_isIn, 3, (some .boolean)),
  (yX12_isKept, cX12_isKept, 4, (some .boolean)),
  (yX12_isLetter, cX12_isLetter, 1, (some .boolean)),
  (yX12_isPlace, cX12_isPlace, 3, (some .boolean)),
  (yX12_isRope, cX12_isRope, 2, (some .boolean)),
  (yX12_isSegment, cX12_isSegment, 1, (some .boolean)),
  (yX12_isSign, cX12_isSign, 1, (some .boolean)),
  (yX12_isWord, cX12_isWord, 3, (some .boolean)),
  (yX12_isWornBy, cX12_isWornBy, 2, (some .boolean)),
  (yX12_judge, cX12_judge, 6, (some .int)),
  (yX12_keep, cX12_keep, 5, none),
  (yX12_keepEvents, cX12_keepEvents, 4, none),
  (yX12_later, cX12_later, 2, (some .int)),
  (yX12_latest, cX12_latest, 6, (some .int)),
  (yX12_latestOf, cX12_latestOf, 4, (some .int)),
  (yX12_loadOf, cX12_loadOf, 4, (some .int)),
  (yX12_log, cX12_log, 4, (some .int)),
  (yX12_logged, cX12_logged, 5, (some .int)),
  (yX12_markHere, cX12_markHere, 1, (some .int)),
  (yX12_moveSplice, cX12_moveSplice, 3, none),
  (yX12_moveStrand, cX12_moveStrand, 4, none),
  (yX12_must, cX12_must, 2, none),
  (yX12_nearest, cX12_nearest, 6, (some .int)),
  (yX12_need, cX12_need, 3, (some .int)),
  (yX12_numeral, cX12_numeral, 4, (some .int)),
  (yX12_on, cX12_on, 2, (some .int)),
  (yX12_order, cX12_order, 7, (some .int)),
  (yX12_power, cX12_power, 8, (some .int)),
  (yX12_pushE, cX12_pushE, 3, none),
  (yX12_rankHere, cX12_rankHere, 1, (some .int)),
  (yX12_readCar, cX12_readCar, 2, none),
  (yX12_readCross, cX12_readCross, 3, none),
  (yX12_readGrade, cX12_readGrade, 5, none),
  (yX12_readGrown, cX12_readGrown, 3, none),
  (yX12_readLine, cX12_readLine, 10, none),
  (yX12_readMark, cX12_readMark, 4, none),
  (yX12_readMarks, cX12_readMarks, 3, none),
  (yX12_readRope, cX12_readRope, 6, none),
  (yX12_readSplice, cX12_readSplice, 3, none),
  (yX12_rolls, cX12_rolls, 3, (some .int)),
  (yX12_rope, cX12_rope, 3, (some .int)),
  (yX12_ropeAt, cX12_ropeAt, 2, (some .int)),
  (yX12_ropeHere, cX12_ropeHere, 2, (some .int)),
  (yX12_run, cX12_run, 3, (some .int)),
  (yX12_runaway, cX12_runaway, 8, (some .int)),
  (yX12_segmentOf, cX12_segmentOf, 5, (some .int)),
  (yX12_sign, cX12_sign, 2, (some .int)),
  (yX12_signOf, cX12_signOf, 1, (some .int)),
  (yX12_signed, cX12_signed, 5, (some .int)),
  (yX12_sizeOf, cX12_sizeOf, 1, (some .int)),
  (yX12_speed, cX12_speed, 2, (some .int)),
  (yX12_splice, cX12_splice, 4, (some .int)),
  (yX12_spread, cX12_spread, 7, (some .int)),
  (yX12_strand, cX12_strand, 3, (some .boolean)),
  (yX12_strandNow, cX12_strandNow, 2, (some .int)),
  (yX12_strandOn, cX12_strandOn, 1, (some .int)),
  (yX12_street, cX12_street, 2, (some .int)),
  (yX12_takes, cX12_takes, 3, (some .int)),
  (yX12_tick, cX12_tick, 4, none),
  (yX12_trips, cX12_trips, 2, (some .int)),
  (yX12_turns, cX12_turns, 2, none),
  (yX12_two, cX12_two, 3, (some .int)),
  (yX12_unit, cX12_unit, 6, (some .boolean)),
  (yX12_untell, cX12_untell, 2, (some .boolean)),
  (yX12_waitsOn, cX12_waitsOn, 4, none),
  (yX12_weight, cX12_weight, 2, (some .int)),
  (yX12_where, cX12_where, 6, (some .int)),
  (yX12_wordHere, cX12_wordHere, 1, (some .int)),
  (yX12_wrong, cX12_wrong, 1, none),
  (yJ6_signum_0f7a4, cJ6_signum_0f7a4, 1, (some .int)),
  (yJ7_fill_53178, cJ7_fill_53178, 4, none)]
set_option maxRecDepth 10000 in
theorem mT_0 : mT[0]? = some (yX0_init, cX0_init, 1, none) := rfl
theorem yk_0 : ri_yOK yX0_init 0 := ⟨by decide +kernel, by decide +kernel, by decide +kernel⟩
set_option maxRecDepth 10000 in
theorem mT_1 : mT[1]? = some (yX0_begin, cX0_begin, 2, none) := rfl
theorem yk_1 : ri_yOK yX0_begin 1 := ⟨by decide +kernel, by decide +kernel, by decide +kernel⟩
set_option maxRecDepth 10000 in
theorem mT_2 : mT[2]? = some (yX0_copyFrom, cX0_copyFrom, 2, none) := rfl
theorem yk_2 : ri_yOK yX0_copyFrom 1 := ⟨by decide +kernel, by decide +kernel, by decide +kernel⟩
set_option maxRecDepth 10000 in
theorem mT_3 : mT[3]? = some (yX0_letGo, cX0_letGo, 1, none) := rfl
theorem yk_3 : ri_yOK yX0_letGo 0 := ⟨by decide +kernel, by decide +kernel, by decide +kernel⟩
set_option maxRecDepth 10000 in
theorem mT_4 : mT[4]? = some (yX0_segment, cX0_segment, 1, (some .int)) := rfl
theorem yk_4 : ri_yOK yX0_segment 0 := ⟨by decide +kernel, by decide +kernel, by decide +kernel⟩
set_option maxRecDepth 10000 in
theorem mT_5 : mT[5]? = some (yX0_waitFor, cX0_waitFor, 2, none) := rfl
theorem yk_5 : ri_yOK yX0_waitFor 1 := ⟨by decide +kernel, by decide +kernel, by decide +kernel⟩
set_option maxRecDepth 10000 in
theorem mT_6 : mT[6]? = some (yX0_waitLonger, cX0_waitLonger, 2, none) := rfl
theorem yk_6 : ri_yOK yX0_waitLonger 1 := ⟨by decide +kernel, by decide +kernel, by decide +kernel⟩
set_option maxRecDepth 10000 in
theorem mT_7 : mT[7]? = some (yX1_init, cX1_init, 1, none) := rfl
theorem yk_7 : ri_yOK yX1_init 0 := ⟨by decide +kernel, by decide +kernel, by decide +kernel⟩
set_option maxRecDepth 10000 in
theorem mT_8 : mT[8]? = some (yX1_add, cX1_add, 2, none) := rfl
theorem yk_8 : ri_yOK yX1_add 1 := ⟨by decide +kernel, by decide +kernel, by decide +kernel⟩
set_option maxRecDepth 10000 in
theorem mT_9 : mT[9]? = some (yX1_addStep, cX1_addStep, 3, none) := rfl
theorem yk_9 : ri_yOK yX1_addStep 2 := ⟨by decide +kernel, by decide +kernel, by decide +kernel⟩
set_option maxRecDepth 10000 in
theorem mT_10 : mT[10]? = some (yX1_argumentOf, cX1_argumentOf, 2, (some .int)) := rfl
theorem yk_10 : ri_yOK yX1_argumentOf 1 := ⟨by decide +kernel, by decide +kernel, by decide +kernel⟩
set_option maxRecDepth 10000 in
theorem mT_11 : mT[11]? = some (yX1_clear, cX1_clear, 1, none) := rfl
theorem yk_11 : ri_yOK yX1_clear 0 := ⟨by decide +kernel, by decide +kernel, by decide +kernel⟩
set_option maxRecDepth 10000 in
theorem mT_12 : mT[12]? = some (yX1_firstStep, cX1_firstStep, 2, (some .int)) := rfl
theorem yk_12 : ri_yOK yX1_firstStep 1 := ⟨by decide +kernel, by decide +kernel, by decide +kernel⟩
set_option maxRecDepth 10000 in
theorem mT_13 : mT[13]? = some (yX1_numberOn, cX1_numberOn, 2, (some .int)) := rfl
theorem yk_13 : ri_yOK yX1_numberOn 1 := ⟨by decide +kernel, by decide +kernel, by decide +kernel⟩
set_option maxRecDepth 10000 in
theorem mT_14 : mT[14]? = some (yX1_opOf, cX1_opOf, 2, (some .int)) := rfl
theorem yk_14 : ri_yOK yX1_opOf 1 := ⟨by decide +kernel, by decide +kernel, by decide +kernel⟩
set_option maxRecDepth 10000 in
theorem mT_15 : mT[15]? = some (yX1_stepsEnd, cX1_stepsEnd, 2, (some .int)) := rfl
theorem yk_15 : ri_yOK yX1_stepsEnd 1 := ⟨by decide +kernel, by decide +kernel, by decide +kernel⟩
set_option maxRecDepth 10000 in
theorem mT_16 : mT[16]? = some (yX2_init, cX2_init, 1, none) := rfl
theorem yk_16 : ri_yOK yX2_init 0 := ⟨by decide +kernel, by decide +kernel, by decide +kernel⟩
set_option maxRecDepth 10000 in
theorem mT_17 : mT[17]? = some (yX2_cell, cX2_cell, 3, (some .int)) := rfl
theorem yk_17 : ri_yOK yX2_cell 2 := ⟨by decide +kernel, by decide +kernel, by decide +kernel⟩
set_option maxRecDepth 10000 in
theorem mT_18 : mT[18]? = some (yX2_clear, cX2_clear, 1, none) := rfl
theorem yk_18 : ri_yOK yX2_clear 0 := ⟨by decide +kernel, by decide +kernel, by decide +kernel⟩
set_option maxRecDepth 10000 in
theorem mT_19 : mT[19]? = some (yX2_copyFrom, cX2_copyFrom, 2, none) := rfl
theorem yk_19 : ri_yOK yX2_copyFrom 1 := ⟨by decide +kernel, by decide +kernel, by decide +kernel⟩
set_option maxRecDepth 10000 in
theorem mT_20 : mT[20]? = some (yX2_keep, cX2_keep, 7, (some .int)) := rfl
theorem yk_20 : ri_yOK yX2_keep 5 := ⟨by decide +kernel, by decide +kernel, by decide +kernel⟩
set_option maxRecDepth 10000 in
theorem mT_21 : mT[21]? = some (yX3_init, cX3_init, 1, none) := rfl
theorem yk_21 : ri_yOK yX3_init 0 := ⟨by decide +kernel, by decide +kernel, by decide +kernel⟩
set_option maxRecDepth 10000 in
theorem mT_22 : mT[22]? = some (yX3_carOfStrand, cX3_carOfStrand, 5, (some .int)) := rfl
theorem yk_22 : ri_yOK yX3_carOfStrand 2 := ⟨by decide +kernel, by decide +kernel, by decide +kernel⟩
set_option maxRecDepth 10000 in
theorem mT_23 : mT[23]? = some (yX3_drawPower, cX3_drawPower, 7, none) := rfl
theorem yk_23 : ri_yOK yX3_drawPower 3 := ⟨by decide +kernel, by decide +kernel, by decide +kernel⟩
set_option maxRecDepth 10000 in
theorem mT_24 : mT[24]? = some (yX3_drawTimetable, cX3_drawTimetable, 6, none) := rfl
theorem yk_24 : ri_yOK yX3_drawTimetable 2 := ⟨by decide +kernel, by decide +kernel, by decide +kernel⟩
set_option maxRecDepth 10000 in
theorem mT_25 : mT[25]? = some (yX3_followCoast, cX3_followCoast, 8, none) := rfl
theorem yk_25 : ri_yOK yX3_followCoast 3 := ⟨by decide +kernel, by decide +kernel, by decide +kernel⟩
set_option maxRecDepth 10000 in
theorem mT_26 : mT[26]? = some (yX3_gapNow, cX3_gapNow, 6, (some .int)) := rfl
theorem yk_26 : ri_yOK yX3_gapNow 1 := ⟨by decide +kernel, by decide +kernel, by decide +kernel⟩
set_option maxRecDepth 10000 in
theorem mT_27 : mT[27]? = some (yX3_leastGapIfWaits, cX3_leastGapIfWaits, 9, (some .int)) := rfl
theorem yk_27 : ri_yOK yX3_leastGapIfWaits 5 := ⟨by decide +kernel, by decide +kernel, by decide +kernel⟩
set_option maxRecDepth 10000 in
theorem mT_28 : mT[28]? = some (yX3_leastSpeedToRope, cX3_leastSpeedToRope, 4, (some .int)) := rfl
theorem yk_28 : ri_yOK yX3_leastSpeedToRope 2 := ⟨by decide +kernel, by decide +kernel, by decide +kernel⟩
set_option maxRecDepth 10000 in
theorem mT_29 : mT[29]? = some (yX3_ticksTillWorn, cX3_ticksTillWorn, 6, (some .int)) := rfl
theorem yk_29 : ri_yOK yX3_ticksTillWorn 3 := ⟨by decide +kernel, by decide +kernel, by decide +kernel⟩
set_option maxRecDepth 10000 in
theorem mT_30 : mT[30]? = some (yX3_topSpeed, cX3_topSpeed, 7, (some .int)) := rfl
theorem yk_30 : ri_yOK yX3_topSpeed 2 := ⟨by decide +kernel, by decide +kernel, by decide +kernel⟩
set_option maxRecDepth 10000 in
theorem mT_31 : mT[31]? = some (yX4_init, cX4_init, 1, none) := rfl
theorem yk_31 : ri_yOK yX4_init 0 := ⟨by decide +kernel, by decide +kernel, by decide +kernel⟩
set_option maxRecDepth 10000 in
theorem mT_32 : mT[32]? = some (yX4_advance, cX4_advance, 1, none) := rfl
theorem yk_32 : ri_yOK yX4_advance 0 := ⟨by decide +kernel, by decide +kernel, by decide +kernel⟩
set_option maxRecDepth 10000 in
theorem mT_33 : mT[33]? = some (yX4_isDigit, cX4_isDigit, 2, (some .boolean)) := rfl
theorem yk_33 : ri_yOK yX4_isDigit 1 := ⟨by decide +kernel, by decide +kernel, by decide +kernel⟩
set_option maxRecDepth 10000 in
theorem mT_34 : mT[34]? = some (yX4_isLetter, cX4_isLetter, 2, (some .boolean)) := rfl
theorem yk_34 : ri_yOK yX4_isLetter 1 := ⟨by decide +kernel, by decide +kernel, by decide +kernel⟩
set_option maxRecDepth 10000 in
theorem mT_35 : mT[35]? = some (yX4_open, cX4_open, 3, none) := rfl
theorem yk_35 : ri_yOK yX4_open 2 := ⟨by decide +kernel, by decide +kernel, by decide +kernel⟩
set_option maxRecDepth 10000 in
theorem mT_36 : mT[36]? = some (yX4_readNumber, cX4_readNumber, 2, none) := rfl
theorem yk_36 : ri_yOK yX4_readNumber 0 := ⟨by decide +kernel, by decide +kernel, by decide +kernel⟩
set_option maxRecDepth 10000 in
theorem mT_37 : mT[37]? = some (yX4_readWord, cX4_readWord, 1, none) := rfl
theorem yk_37 : ri_yOK yX4_readWord 0 := ⟨by decide +kernel, by decide +kernel, by decide +kernel⟩
set_option maxRecDepth 10000 in
theorem mT_38 : mT[38]? = some (yX4_wordNumber, cX4_wordNumber, 7, (some .int)) := rfl
theorem yk_38 : ri_yOK yX4_wordNumber 1 := ⟨by decide +kernel, by decide +kernel, by decide +kernel⟩
set_option maxRecDepth 10000 in
theorem mT_39 : mT[39]? = some (yX5_init, cX5_init, 1, none) := rfl
theorem yk_39 : ri_yOK yX5_init 0 := ⟨by decide +kernel, by decide +kernel, by decide +kernel⟩
set_option maxRecDepth 10000 in
theorem mT_40 : mT[40]? = some (yX5_counts, cX5_counts, 3, (some .boolean)) := rfl
theorem yk_40 : ri_yOK yX5_counts 2 := ⟨by decide +kernel, by decide +kernel, by decide +kernel⟩
set_option maxRecDepth 10000 in
theorem mT_41 : mT[41]? = some (yX5_falseOnes, cX5_falseOnes, 4, (some .int)) := rfl
theorem yk_41 : ri_yOK yX5_falseOnes 1 := ⟨by decide +kernel, by decide +kernel, by decide +kernel⟩
set_option maxRecDepth 10000 in
theorem mT_42 : mT[42]? = some (yX5_firstFalse, cX5_firstFalse, 3, (some .int)) := rfl
theorem yk_42 : ri_yOK yX5_firstFalse 1 := ⟨by decide +kernel, by decide +kernel, by decide +kernel⟩
set_option maxRecDepth 10000 in
theorem mT_43 : mT[43]? = some (yX5_forget, cX5_forget, 1, none) := rfl
theorem yk_43 : ri_yOK yX5_forget 0 := ⟨by decide +kernel, by decide +kernel, by decide +kernel⟩
set_option maxRecDepth 10000 in
theorem mT_44 : mT[44]? = some (yX5_isFalse, cX5_isFalse, 3, (some .boolean)) := rfl
theorem yk_44 : ri_yOK yX5_isFalse 1 := ⟨by decide +kernel, by decide +kernel, by decide +kernel⟩
set_option maxRecDepth 10000 in
theorem mT_45 : mT[45]? = some (yX5_latestBelow, cX5_latestBelow, 7, (some .int)) := rfl
theorem yk_45 : ri_yOK yX5_latestBelow 3 := ⟨by decide +kernel, by decide +kernel, by decide +kernel⟩
set_option maxRecDepth 10000 in
theorem mT_46 : mT[46]? = some (yX5_speedOf, cX5_speedOf, 5, (some .int)) := rfl
theorem yk_46 : ri_yOK yX5_speedOf 2 := ⟨by decide +kernel, by decide +kernel, by decide +kernel⟩
set_option maxRecDepth 10000 in
theorem mT_47 : mT[47]? = some (yX5_takeBack, cX5_takeBack, 2, (some .boolean)) := rfl
theorem yk_47 : ri_yOK yX5_takeBack 1 := ⟨by decide +kernel, by decide +kernel, by decide +kernel⟩
set_option maxRecDepth 10000 in
theorem mT_48 : mT[48]? = some (yX5_tell, cX5_tell, 4, (some .int)) := rfl
theorem yk_48 : ri_yOK yX5_tell 3 := ⟨by decide +kernel, by decide +kernel, by decide +kernel⟩
set_option maxRecDepth 10000 in
theorem mT_49 : mT[49]? = some (yX6_init, cX6_init, 1, none) := rfl
theorem yk_49 : ri_yOK yX6_init 0 := ⟨by decide +kernel, by decide +kernel, by decide +kernel⟩
set_option maxRecDepth 10000 in
theorem mT_50 : mT[50]? = some (yX6_ask, cX6_ask, 5, (some .int)) := rfl
theorem yk_50 : ri_yOK yX6_ask 4 := ⟨by decide +kernel, by decide +kernel, by decide +kernel⟩
set_option maxRecDepth 10000 in
theorem mT_51 : mT[51]? = some (yX6_bringBack, cX6_bringBack, 3, none) := rfl
theorem yk_51 : ri_yOK yX6_bringBack 1 := ⟨by decide +kernel, by decide +kernel, by decide +kernel⟩
set_option maxRecDepth 10000 in
theorem mT_52 : mT[52]? = some (yX6_countBumps, cX6_countBumps, 5, none) := rfl
theorem yk_52 : ri_yOK yX6_countBumps 0 := ⟨by decide +kernel, by decide +kernel, by decide +kernel⟩
set_option maxRecDepth 10000 in
theorem mT_53 : mT[53]? = some (yX6_cutRope, cX6_cutRope, 4, none) := rfl
theorem yk_53 : ri_yOK yX6_cutRope 3 := ⟨by decide +kernel, by decide +kernel, by decide +kernel⟩
set_option maxRecDepth 10000 in
theorem mT_54 : mT[54]? = some (yX6_dipRopes, cX6_dipRopes, 2, none) := rfl
theorem yk_54 : ri_yOK yX6_dipRopes 0 := ⟨by decide +kernel, by decide +kernel, by decide +kernel⟩
set_option maxRecDepth 10000 in
theorem mT_55 : mT[55]? = some (yX6_gripsOn, cX6_gripsOn, 4, (some .int)) := rfl
theorem yk_55 : ri_yOK yX6_gripsOn 1 := ⟨by decide +kernel, by decide +kernel, by decide +kernel⟩
set_option maxRecDepth 10000 in
theorem mT_56 : mT[56]? = some (yX6_joined, cX6_joined, 3, (some .int)) := rfl
theorem yk_56 : ri_yOK yX6_joined 3 := ⟨by decide +kernel, by decide +kernel, by decide +kernel⟩
set_option maxRecDepth 10000 in
theorem mT_57 : mT[57]? = some (yX6_longestDone, cX6_longestDone, 4, (some .int)) := rfl
theorem yk_57 : ri_yOK yX6_longestDone 0 := ⟨by decide +kernel, by decide +kernel, by decide +kernel⟩
set_option maxRecDepth 10000 in
theorem mT_58 : mT[58]? = some (yX6_missGrip, cX6_missGrip, 4, none) := rfl
theorem yk_58 : ri_yOK yX6_missGrip 2 := ⟨by decide +kernel, by decide +kernel, by decide +kernel⟩
set_option maxRecDepth 10000 in
theorem mT_59 : mT[59]? = some (yX6_moveStrand, cX6_moveStrand, 5, none) := rfl
theorem yk_59 : ri_yOK yX6_moveStrand 0 := ⟨by decide +kernel, by decide +kernel, by decide +kernel⟩
set_option maxRecDepth 10000 in
theorem mT_60 : mT[60]? = some (yX6_note, cX6_note, 5, (some .int)) := rfl
theorem yk_60 : ri_yOK yX6_note 4 := ⟨by decide +kernel, by decide +kernel, by decide +kernel⟩
set_option maxRecDepth 10000 in
theorem mT_61 : mT[61]? = some (yX6_obeyMarks, cX6_obeyMarks, 4, none) := rfl
theorem yk_61 : ri_yOK yX6_obeyMarks 1 := ⟨by decide +kernel, by decide +kernel, by decide +kernel⟩
set_option maxRecDepth 10000 in
theorem mT_62 : mT[62]? = some (yX6_ride, cX6_ride, 4, none) := rfl
theorem yk_62 : ri_yOK yX6_ride 2 := ⟨by decide +kernel, by decide +kernel, by decide +kernel⟩
set_option maxRecDepth 10000 in
theorem mT_63 : mT[63]? = some (yX6_step, cX6_step, 7, none) := rfl
theorem yk_63 : ri_yOK yX6_step 2 := ⟨by decide +kernel, by decide +kernel, by decide +kernel⟩
set_option maxRecDepth 10000 in
theorem mT_64 : mT[64]? = some (yX6_tenthsToNearest, cX6_tenthsToNearest, 7, (some .int)) := rfl
theorem yk_64 : ri_yOK yX6_tenthsToNearest 2 := ⟨by decide +kernel, by decide +kernel, by decide +kernel⟩
set_option maxRecDepth 10000 in
theorem mT_65 : mT[65]? = some (yX6_tick, cX6_tick, 5, none) := rfl
theorem yk_65 : ri_yOK yX6_tick 2 := ⟨by decide +kernel, by decide +kernel, by decide +kernel⟩
set_option maxRecDepth 10000 in
theorem mT_66 : mT[66]? = some (yX6_turnTable, cX6_turnTable, 1, none) := rfl
theorem yk_66 : ri_yOK yX6_turnTable 0 := ⟨by decide +kernel, by decide +kernel, by decide +kernel⟩
set_option maxRecDepth 10000 in
theorem mT_67 : mT[67]? = some (yX6_unitValue, cX6_unitValue, 4, (some .int)) := rfl
theorem yk_67 : ri_yOK yX6_unitValue 3 := ⟨by decide +kernel, by decide +kernel, by decide +kernel⟩
set_option maxRecDepth 10000 in
theorem mT_68 : mT[68]? = some (yX6_valueOf, cX6_valueOf, 10, (some .int)) := rfl
theorem yk_68 : ri_yOK yX6_valueOf 3 := ⟨by decide +kernel, by decide +kernel, by decide +kernel⟩
set_option maxRecDepth 10000 in
theorem mT_69 : mT[69]? = some (yX6_waitOn, cX6_waitOn, 3, none) := rfl
theorem yk_69 : ri_yOK yX6_waitOn 2 := ⟨by decide +kernel, by decide +kernel, by decide +kernel⟩
set_option maxRecDepth 10000 in
theorem mT_70 : mT[70]? = some (yX6_wearSplices, cX6_wearSplices, 3, none) := rfl
theorem yk_70 : ri_yOK yX6_wearSplices 0 := ⟨by decide +kernel, by decide +kernel, by decide +kernel⟩
set_option maxRecDepth 10000 in
theorem mT_71 : mT[71]? = some (yX7_init, cX7_init, 2, none) := rfl
theorem yk_71 : ri_yOK yX7_init 0 := ⟨by decide +kernel, by decide +kernel, by decide +kernel⟩
set_option maxRecDepth 10000 in
theorem mT_72 : mT[72]? = some (yX7_brakesHold, cX7_brakesHold, 3, (some .boolean)) := rfl
theorem yk_72 : ri_yOK yX7_brakesHold 2 := ⟨by decide +kernel, by decide +kernel, by decide +kernel⟩
set_option maxRecDepth 10000 in
theorem mT_73 : mT[73]? = some (yX7_clear, cX7_clear, 2, none) := rfl
theorem yk_73 : ri_yOK yX7_clear 0 := ⟨by decide +kernel, by decide +kernel, by decide +kernel⟩
set_option maxRecDepth 10000 in
theorem mT_74 : mT[74]? = some (yX7_coasted, cX7_coasted, 4, (some .int)) := rfl
theorem yk_74 : ri_yOK yX7_coasted 2 := ⟨by decide +kernel, by decide +kernel, by decide +kernel⟩
set_option maxRecDepth 10000 in
theorem mT_75 : mT[75]? = some (yX7_grade, cX7_grade, 2, (some .int)) := rfl
theorem yk_75 : ri_yOK yX7_grade 1 := ⟨by decide +kernel, by decide +kernel, by decide +kernel⟩
set_option maxRecDepth 10000 in
theorem mT_76 : mT[76]? = some (yX7_hasCar, cX7_hasCar, 2, (some .boolean)) := rfl
theorem yk_76 : ri_yOK yX7_hasCar 1 := ⟨by decide +kernel, by decide +kernel, by decide +kernel⟩
set_option maxRecDepth 10000 in
theorem mT_77 : mT[77]? = some (yX7_hasPlace, cX7_hasPlace, 3, (some .boolean)) := rfl
theorem yk_77 : ri_yOK yX7_hasPlace 2 := ⟨by decide +kernel, by decide +kernel, by decide +kernel⟩
set_option maxRecDepth 10000 in
theorem mT_78 : mT[78]? = some (yX7_hasRope, cX7_hasRope, 2, (some .boolean)) := rfl
theorem yk_78 : ri_yOK yX7_hasRope 1 := ⟨by decide +kernel, by decide +kernel, by decide +kernel⟩
set_option maxRecDepth 10000 in
theorem mT_79 : mT[79]? = some (yX7_hasSplice, cX7_hasSplice, 2, (some .boolean)) := rfl
theorem yk_79 : ri_yOK yX7_hasSplice 1 := ⟨by decide +kernel, by decide +kernel, by decide +kernel⟩
set_option maxRecDepth 10000 in
theorem mT_80 : mT[80]? = some (yX7_isSegment, cX7_isSegment, 1, (some .boolean)) := rfl
theorem yk_80 : ri_yOK yX7_isSegment 1 := ⟨by decide +kernel, by decide +kernel, by decide +kernel⟩
set_option maxRecDepth 10000 in
theorem mT_81 : mT[81]? = some (yX7_layGrade, cX7_layGrade, 5, none) := rfl
theorem yk_81 : ri_yOK yX7_layGrade 3 := ⟨by decide +kernel, by decide +kernel, by decide +kernel⟩
set_option maxRecDepth 10000 in
theorem mT_82 : mT[82]? = some (yX7_layRope, cX7_layRope, 3, none) := rfl
theorem yk_82 : ri_yOK yX7_layRope 1 := ⟨by decide +kernel, by decide +kernel, by decide +kernel⟩
set_option maxRecDepth 10000 in
theorem mT_83 : mT[83]? = some (yX7_mark, cX7_mark, 3, (some .int)) := rfl
theorem yk_83 : ri_yOK yX7_mark 2 := ⟨by decide +kernel, by decide +kernel, by decide +kernel⟩
set_option maxRecDepth 10000 in
theorem mT_84 : mT[84]? = some (yX7_placeAfter, cX7_placeAfter, 5, (some .int)) := rfl
theorem yk_84 : ri_yOK yX7_placeAfter 3 := ⟨by decide +kernel, by decide +kernel, by decide +kernel⟩
set_option maxRecDepth 10000 in
theorem mT_85 : mT[85]? = some (yX7_pull, cX7_pull, 3, (some .int)) := rfl
theorem yk_85 : ri_yOK yX7_pull 2 := ⟨by decide +kernel, by decide +kernel, by decide +kernel⟩
set_option maxRecDepth 10000 in
theorem mT_86 : mT[86]? = some (yX7_ropeOn, cX7_ropeOn, 2, (some .int)) := rfl
theorem yk_86 : ri_yOK yX7_ropeOn 1 := ⟨by decide +kernel, by decide +kernel, by decide +kernel⟩
set_option maxRecDepth 10000 in
theorem mT_87 : mT[87]? = some (yX7_segmentOfPlace, cX7_segmentOfPlace, 4, (some .int)) := rfl
theorem yk_87 : ri_yOK yX7_segmentOfPlace 2 := ⟨by decide +kernel, by decide +kernel, by decide +kernel⟩
set_option maxRecDepth 10000 in
theorem mT_88 : mT[88]? = some (yX7_setMark, cX7_setMark, 4, none) := rfl
theorem yk_88 : ri_yOK yX7_setMark 3 := ⟨by decide +kernel, by decide +kernel, by decide +kernel⟩
set_option maxRecDepth 10000 in
theorem mT_89 : mT[89]? = some (yX8_init, cX8_init, 1, none) := rfl
theorem yk_89 : ri_yOK yX8_init 0 := ⟨by decide +kernel, by decide +kernel, by decide +kernel⟩
set_option maxRecDepth 10000 in
theorem mT_90 : mT[90]? = some (yX8_goOn, cX8_goOn, 1, none) := rfl
theorem yk_90 : ri_yOK yX8_goOn 0 := ⟨by decide +kernel, by decide +kernel, by decide +kernel⟩
set_option maxRecDepth 10000 in
theorem mT_91 : mT[91]? = some (yX8_hasLine, cX8_hasLine, 1, (some .boolean)) := rfl
theorem yk_91 : ri_yOK yX8_hasLine 0 := ⟨by decide +kernel, by decide +kernel, by decide +kernel⟩
set_option maxRecDepth 10000 in
theorem mT_92 : mT[92]? = some (yX8_indexOfName, cX8_indexOfName, 4, (some .int)) := rfl
theorem yk_92 : ri_yOK yX8_indexOfName 2 := ⟨by decide +kernel, by decide +kernel, by decide +kernel⟩
set_option maxRecDepth 10000 in
theorem mT_93 : mT[93]? = some (yX8_isName, cX8_isName, 1, (some .boolean)) := rfl
theorem yk_93 : ri_yOK yX8_isName 0 := ⟨by decide +kernel, by decide +kernel, by decide +kernel⟩
set_option maxRecDepth 10000 in
theorem mT_94 : mT[94]? = some (yX8_isSign, cX8_isSign, 2, (some .boolean)) := rfl
theorem yk_94 : ri_yOK yX8_isSign 1 := ⟨by decide +kernel, by decide +kernel, by decide +kernel⟩
set_option maxRecDepth 10000 in
theorem mT_95 : mT[95]? = some (yX8_isWord, cX8_isWord, 2, (some .boolean)) := rfl
theorem yk_95 : ri_yOK yX8_isWord 1 := ⟨by decide +kernel, by decide +kernel, by decide +kernel⟩
set_option maxRecDepth 10000 in
theorem mT_96 : mT[96]? = some (yX8_mayBegin, cX8_mayBegin, 2, (some .boolean)) := rfl
theorem yk_96 : ri_yOK yX8_mayBegin 1 := ⟨by decide +kernel, by decide +kernel, by decide +kernel⟩
set_option maxRecDepth 10000 in
theorem mT_97 : mT[97]? = some (yX8_number, cX8_number, 3, (some .int)) := rfl
theorem yk_97 : ri_yOK yX8_number 2 := ⟨by decide +kernel, by decide +kernel, by decide +kernel⟩
set_option maxRecDepth 10000 in
theorem mT_98 : mT[98]? = some (yX8_open, cX8_open, 4, none) := rfl
theorem yk_98 : ri_yOK yX8_open 3 := ⟨by decide +kernel, by decide +kernel, by decide +kernel⟩
set_option maxRecDepth 10000 in
theorem mT_99 : mT[99]? = some (yX8_readBoth, cX8_readBoth, 3, none) := rfl
theorem yk_99 : ri_yOK yX8_readBoth 1 := ⟨by decide +kernel, by decide +kernel, by decide +kernel⟩
set_option maxRecDepth 10000 in
theorem mT_100 : mT[100]? = some (yX8_readCar, cX8_readCar, 4, none) := rfl
theorem yk_100 : ri_yOK yX8_readCar 0 := ⟨by decide +kernel, by decide +kernel, by decide +kernel⟩
set_option maxRecDepth 10000 in
theorem mT_101 : mT[101]? = some (yX8_readCross, cX8_readCross, 2, none) := rfl
theorem yk_101 : ri_yOK yX8_readCross 0 := ⟨by decide +kernel, by decide +kernel, by decide +kernel⟩
set_option maxRecDepth 10000 in
theorem mT_102 : mT[102]? = some (yX8_readEither, cX8_readEither, 3, none) := rfl
theorem yk_102 : ri_yOK yX8_readEither 1 := ⟨by decide +kernel, by decide +kernel, by decide +kernel⟩
set_option maxRecDepth 10000 in
theorem mT_103 : mT[103]? = some (yX8_readGrade, cX8_readGrade, 6, none) := rfl
theorem yk_103 : ri_yOK yX8_readGrade 0 := ⟨by decide +kernel, by decide +kernel, by decide +kernel⟩
set_option maxRecDepth 10000 in
theorem mT_104 : mT[104]? = some (yX8_readLine, cX8_readLine, 2, none) := rfl
theorem yk_104 : ri_yOK yX8_readLine 0 := ⟨by decide +kernel, by decide +kernel, by decide +kernel⟩
set_option maxRecDepth 10000 in
theorem mT_105 : mT[105]? = some (yX8_readMark, cX8_readMark, 4, none) := rfl
theorem yk_105 : ri_yOK yX8_readMark 1 := ⟨by decide +kernel, by decide +kernel, by decide +kernel⟩
set_option maxRecDepth 10000 in
theorem mT_106 : mT[106]? = some (yX8_readOne, cX8_readOne, 2, none) := rfl
theorem yk_106 : ri_yOK yX8_readOne 1 := ⟨by decide +kernel, by decide +kernel, by decide +kernel⟩
set_option maxRecDepth 10000 in
theorem mT_107 : mT[107]? = some (yX8_readRelation, cX8_readRelation, 3, none) := rfl
theorem yk_107 : ri_yOK yX8_readRelation 1 := ⟨by decide +kernel, by decide +kernel, by decide +kernel⟩
set_option maxRecDepth 10000 in
theorem mT_108 : mT[108]? = some (yX8_readRope, cX8_readRope, 4, none) := rfl
theorem yk_108 : ri_yOK yX8_readRope 0 := ⟨by decide +kernel, by decide +kernel, by decide +kernel⟩
set_option maxRecDepth 10000 in
theorem mT_109 : mT[109]? = some (yX8_readSetting, cX8_readSetting, 2, none) := rfl
theorem yk_109 : ri_yOK yX8_readSetting 1 := ⟨by decide +kernel, by decide +kernel, by decide +kernel⟩
set_option maxRecDepth 10000 in
theorem mT_110 : mT[110]? = some (yX8_readSplice, cX8_readSplice, 6, none) := rfl
theorem yk_110 : ri_yOK yX8_readSplice 0 := ⟨by decide +kernel, by decide +kernel, by decide +kernel⟩
set_option maxRecDepth 10000 in
theorem mT_111 : mT[111]? = some (yX8_readSum, cX8_readSum, 4, none) := rfl
theorem yk_111 : ri_yOK yX8_readSum 1 := ⟨by decide +kernel, by decide +kernel, by decide +kernel⟩
set_option maxRecDepth 10000 in
theorem mT_112 : mT[112]? = some (yX8_readTerm, cX8_readTerm, 3, none) := rfl
theorem yk_112 : ri_yOK yX8_readTerm 1 := ⟨by decide +kernel, by decide +kernel, by decide +kernel⟩
set_option maxRecDepth 10000 in
theorem mT_113 : mT[113]? = some (yX8_readUnit, cX8_readUnit, 3, none) := rfl
theorem yk_113 : ri_yOK yX8_readUnit 1 := ⟨by decide +kernel, by decide +kernel, by decide +kernel⟩
set_option maxRecDepth 10000 in
theorem mT_114 : mT[114]? = some (yX8_readValueWord, cX8_readValueWord, 1, none) := rfl
theorem yk_114 : ri_yOK yX8_readValueWord 0 := ⟨by decide +kernel, by decide +kernel, by decide +kernel⟩
set_option maxRecDepth 10000 in
theorem mT_115 : mT[115]? = some (yX8_relationHere, cX8_relationHere, 1, (some .int)) := rfl
theorem yk_115 : ri_yOK yX8_relationHere 0 := ⟨by decide +kernel, by decide +kernel, by decide +kernel⟩
set_option maxRecDepth 10000 in
theorem mT_116 : mT[116]? = some (yX8_skipSign, cX8_skipSign, 2, (some .boolean)) := rfl
theorem yk_116 : ri_yOK yX8_skipSign 1 := ⟨by decide +kernel, by decide +kernel, by decide +kernel⟩
set_option maxRecDepth 10000 in
theorem mT_117 : mT[117]? = some (yX8_skipWord, cX8_skipWord, 2, (some .boolean)) := rfl
theorem yk_117 : ri_yOK yX8_skipWord 1 := ⟨by decide +kernel, by decide +kernel, by decide +kernel⟩
set_option maxRecDepth 10000 in
theorem mT_118 : mT[118]? = some (yX8_takeAfter, cX8_takeAfter, 4, (some .int)) := rfl
theorem yk_118 : ri_yOK yX8_takeAfter 3 := ⟨by decide +kernel, by decide +kernel, by decide +kernel⟩
set_option maxRecDepth 10000 in
theorem mT_119 : mT[119]? = some (yX8_takeNewName, cX8_takeNewName, 3, none) := rfl
theorem yk_119 : ri_yOK yX8_takeNewName 2 := ⟨by decide +kernel, by decide +kernel, by decide +kernel⟩
set_option maxRecDepth 10000 in
theorem mT_120 : mT[120]? = some (yX8_takeNumber, cX8_takeNumber, 4, (some .int)) := rfl
theorem yk_120 : ri_yOK yX8_takeNumber 2 := ⟨by decide +kernel, by decide +kernel, by decide +kernel⟩
set_option maxRecDepth 10000 in
theorem mT_121 : mT[121]? = some (yX8_takeRopeName, cX8_takeRopeName, 2, (some .int)) := rfl
theorem yk_121 : ri_yOK yX8_takeRopeName 0 := ⟨by decide +kernel, by decide +kernel, by decide +kernel⟩
set_option maxRecDepth 10000 in
theorem mT_122 : mT[122]? = some (yX8_takeSign, cX8_takeSign, 2, none) := rfl
theorem yk_122 : ri_yOK yX8_takeSign 1 := ⟨by decide +kernel, by decide +kernel, by decide +kernel⟩
set_option maxRecDepth 10000 in
theorem mT_123 : mT[123]? = some (yX8_takeWord, cX8_takeWord, 2, none) := rfl
theorem yk_123 : ri_yOK yX8_takeWord 1 := ⟨by decide +kernel, by decide +kernel, by decide +kernel⟩
set_option maxRecDepth 10000 in
theorem mT_124 : mT[124]? = some (yX8_wrong, cX8_wrong, 3, none) := rfl
theorem yk_124 : ri_yOK yX8_wrong 2 := ⟨by decide +kernel, by decide +kernel, by decide +kernel⟩
set_option maxRecDepth 10000 in
theorem mT_125 : mT[125]? = some (yX8_wrongHere, cX8_wrongHere, 2, none) := rfl
theorem yk_125 : ri_yOK yX8_wrongHere 1 := ⟨by decide +kernel, by decide +kernel, by decide +kernel⟩
set_option maxRecDepth 10000 in
theorem mT_126 : mT[126]? = some (yX9_init, cX9_init, 1, none) := rfl
theorem yk_126 : ri_yOK yX9_init 0 := ⟨by decide +kernel, by decide +kernel, by decide +kernel⟩
set_option maxRecDepth 10000 in
theorem mT_127 : mT[127]? = some (yX10_init, cX10_init, 2, none) := rfl
theorem yk_127 : ri_yOK yX10_init 0 := ⟨by decide +kernel, by decide +kernel, by decide +kernel⟩
set_option maxRecDepth 10000 in
theorem mT_128 : mT[128]? = some (yX10_begin, cX10_begin, 3, none) := rfl
theorem yk_128 : ri_yOK yX10_begin 1 := ⟨by decide +kernel, by decide +kernel, by decide +kernel⟩
set_option maxRecDepth 10000 in
theorem mT_129 : mT[129]? = some (yX10_copyFrom, cX10_copyFrom, 3, none) := rfl
theorem yk_129 : ri_yOK yX10_copyFrom 1 := ⟨by decide +kernel, by decide +kernel, by decide +kernel⟩
set_option maxRecDepth 10000 in
theorem mT_130 : mT[130]? = some (yX10_dips, cX10_dips, 3, (some .boolean)) := rfl
theorem yk_130 : ri_yOK yX10_dips 2 := ⟨by decide +kernel, by decide +kernel, by decide +kernel⟩
set_option maxRecDepth 10000 in
theorem mT_131 : mT[131]? = some (yX10_load, cX10_load, 6, (some .int)) := rfl
theorem yk_131 : ri_yOK yX10_load 2 := ⟨by decide +kernel, by decide +kernel, by decide +kernel⟩
set_option maxRecDepth 10000 in
theorem mT_132 : mT[132]? = some (yX10_notDone, cX10_notDone, 4, (some .int)) := rfl
theorem yk_132 : ri_yOK yX10_notDone 1 := ⟨by decide +kernel, by decide +kernel, by decide +kernel⟩
set_option maxRecDepth 10000 in
theorem mT_133 : mT[133]? = some (yX11_init, cX11_init, 2, none) := rfl
theorem yk_133 : ri_yOK yX11_init 0 := ⟨by decide +kernel, by decide +kernel, by decide +kernel⟩
set_option maxRecDepth 10000 in
theorem mT_134 : mT[134]? = some (yX11_about, cX11_about, 2, (some .int)) := rfl
theorem yk_134 : ri_yOK yX11_about 1 := ⟨by decide +kernel, by decide +kernel, by decide +kernel⟩
set_option maxRecDepth 10000 in
theorem mT_135 : mT[135]? = some (yX11_asks, cX11_asks, 4, (some .int)) := rfl
theorem yk_135 : ri_yOK yX11_asks 2 := ⟨by decide +kernel, by decide +kernel, by decide +kernel⟩
set_option maxRecDepth 10000 in
theorem mT_136 : mT[136]? = some (yX11_back, cX11_back, 2, (some .int)) := rfl
theorem yk_136 : ri_yOK yX11_back 1 := ⟨by decide +kernel, by decide +kernel, by decide +kernel⟩
set_option maxRecDepth 10000 in
theorem mT_137 : mT[137]? = some (yX11_car, cX11_car, 4, (some .int)) := rfl
theorem yk_137 : ri_yOK yX11_car 2 := ⟨by decide +kernel, by decide +kernel, by decide +kernel⟩
set_option maxRecDepth 10000 in
theorem mT_138 : mT[138]? = some (yX11_carsAheadInOrder, cX11_carsAheadInOrder, 7, (some .int)) := rfl
theorem yk_138 : ri_yOK yX11_carsAheadInOrder 1 := ⟨by decide +kernel, by decide +kernel, by decide +kernel⟩
set_option maxRecDepth 10000 in
theorem mT_139 : mT[139]? = some (yX11_coasts, cX11_coasts, 4, (some .int)) := rfl
theorem yk_139 : ri_yOK yX11_coasts 3 := ⟨by decide +kernel, by decide +kernel, by decide +kernel⟩
set_option maxRecDepth 10000 in
theorem mT_140 : mT[140]? = some (yX11_cost, cX11_cost, 5, (some .int)) := rfl
theorem yk_140 : ri_yOK yX11_cost 2 := ⟨by decide +kernel, by decide +kernel, by decide +kernel⟩
set_option maxRecDepth 10000 in
theorem mT_141 : mT[141]? = some (yX11_count, cX11_count, 2, (some .int)) := rfl
theorem yk_141 : ri_yOK yX11_count 1 := ⟨by decide +kernel, by decide +kernel, by decide +kernel⟩
set_option maxRecDepth 10000 in
theorem mT_142 : mT[142]? = some (yX11_due, cX11_due, 2, (some .int)) := rfl
theorem yk_142 : ri_yOK yX11_due 1 := ⟨by decide +kernel, by decide +kernel, by decide +kernel⟩
set_option maxRecDepth 10000 in
theorem mT_143 : mT[143]? = some (yX11_end, cX11_end, 2, (some .int)) := rfl
theorem yk_143 : ri_yOK yX11_end 1 := ⟨by decide +kernel, by decide +kernel, by decide +kernel⟩
set_option maxRecDepth 10000 in
theorem mT_144 : mT[144]? = some (yX11_event, cX11_event, 3, (some .int)) := rfl
theorem yk_144 : ri_yOK yX11_event 2 := ⟨by decide +kernel, by decide +kernel, by decide +kernel⟩
set_option maxRecDepth 10000 in
theorem mT_145 : mT[145]? = some (yX11_fault, cX11_fault, 2, (some .int)) := rfl
theorem yk_145 : ri_yOK yX11_fault 1 := ⟨by decide +kernel, by decide +kernel, by decide +kernel⟩
set_option maxRecDepth 10000 in
theorem mT_146 : mT[146]? = some (yX11_feed, cX11_feed, 6, (some .int)) := rfl
theorem yk_146 : ri_yOK yX11_feed 5 := ⟨by decide +kernel, by decide +kernel, by decide +kernel⟩
set_option maxRecDepth 10000 in
theorem mT_147 : mT[147]? = some (yX11_free, cX11_free, 2, (some .boolean)) := rfl
theorem yk_147 : ri_yOK yX11_free 1 := ⟨by decide +kernel, by decide +kernel, by decide +kernel⟩
set_option maxRecDepth 10000 in
theorem mT_148 : mT[148]? = some (yX11_halt, cX11_halt, 5, (some .int)) := rfl
theorem yk_148 : ri_yOK yX11_halt 1 := ⟨by decide +kernel, by decide +kernel, by decide +kernel⟩
set_option maxRecDepth 10000 in
theorem mT_149 : mT[149]? = some (yX11_head, cX11_head, 2, (some .int)) := rfl
theorem yk_149 : ri_yOK yX11_head 1 := ⟨by decide +kernel, by decide +kernel, by decide +kernel⟩
set_option maxRecDepth 10000 in
theorem mT_150 : mT[150]? = some (yX11_image, cX11_image, 2, (some .int)) := rfl
theorem yk_150 : ri_yOK yX11_image 1 := ⟨by decide +kernel, by decide +kernel, by decide +kernel⟩
set_option maxRecDepth 10000 in
theorem mT_151 : mT[151]? = some (yX11_isAhead, cX11_isAhead, 1, (some .boolean)) := rfl
theorem yk_151 : ri_yOK yX11_isAhead 1 := ⟨by decide +kernel, by decide +kernel, by decide +kernel⟩
set_option maxRecDepth 10000 in
theorem mT_152 : mT[152]? = some (yX11_judge, cX11_judge, 3, (some .int)) := rfl
theorem yk_152 : ri_yOK yX11_judge 2 := ⟨by decide +kernel, by decide +kernel, by decide +kernel⟩
set_option maxRecDepth 10000 in
theorem mT_153 : mT[153]? = some (yX11_later, cX11_later, 2, (some .int)) := rfl
theorem yk_153 : ri_yOK yX11_later 1 := ⟨by decide +kernel, by decide +kernel, by decide +kernel⟩
set_option maxRecDepth 10000 in
theorem mT_154 : mT[154]? = some (yX11_log, cX11_log, 4, (some .int)) := rfl
theorem yk_154 : ri_yOK yX11_log 3 := ⟨by decide +kernel, by decide +kernel, by decide +kernel⟩
set_option maxRecDepth 10000 in
theorem mT_155 : mT[155]? = some (yX11_logged, cX11_logged, 3, (some .int)) := rfl
theorem yk_155 : ri_yOK yX11_logged 2 := ⟨by decide +kernel, by decide +kernel, by decide +kernel⟩
set_option maxRecDepth 10000 in
theorem mT_156 : mT[156]? = some (yX11_need, cX11_need, 2, (some .int)) := rfl
theorem yk_156 : ri_yOK yX11_need 1 := ⟨by decide +kernel, by decide +kernel, by decide +kernel⟩
set_option maxRecDepth 10000 in
theorem mT_157 : mT[157]? = some (yX11_order, cX11_order, 3, (some .int)) := rfl
theorem yk_157 : ri_yOK yX11_order 1 := ⟨by decide +kernel, by decide +kernel, by decide +kernel⟩
set_option maxRecDepth 10000 in
theorem mT_158 : mT[158]? = some (yX11_power, cX11_power, 3, (some .int)) := rfl
theorem yk_158 : ri_yOK yX11_power 2 := ⟨by decide +kernel, by decide +kernel, by decide +kernel⟩
set_option maxRecDepth 10000 in
theorem mT_159 : mT[159]? = some (yX11_putBytes, cX11_putBytes, 3, none) := rfl
theorem yk_159 : ri_yOK yX11_putBytes 1 := ⟨by decide +kernel, by decide +kernel, by decide +kernel⟩
set_option maxRecDepth 10000 in
theorem mT_160 : mT[160]? = some (yX11_rolls, cX11_rolls, 4, (some .int)) := rfl
theorem yk_160 : ri_yOK yX11_rolls 0 := ⟨by decide +kernel, by decide +kernel, by decide +kernel⟩
set_option maxRecDepth 10000 in
theorem mT_161 : mT[161]? = some (yX11_rope, cX11_rope, 3, (some .int)) := rfl
theorem yk_161 : ri_yOK yX11_rope 2 := ⟨by decide +kernel, by decide +kernel, by decide +kernel⟩
set_option maxRecDepth 10000 in
theorem mT_162 : mT[162]? = some (yX11_run, cX11_run, 3, (some .int)) := rfl
theorem yk_162 : ri_yOK yX11_run 1 := ⟨by decide +kernel, by decide +kernel, by decide +kernel⟩
set_option maxRecDepth 10000 in
theorem mT_163 : mT[163]? = some (yX11_runaway, cX11_runaway, 3, (some .int)) := rfl
theorem yk_163 : ri_yOK yX11_runaway 2 := ⟨by decide +kernel, by decide +kernel, by decide +kernel⟩
set_option maxRecDepth 10000 in
theorem mT_164 : mT[164]? = some (yX11_speed, cX11_speed, 2, (some .int)) := rfl
theorem yk_164 : ri_yOK yX11_speed 1 := ⟨by decide +kernel, by decide +kernel, by decide +kernel⟩
set_option maxRecDepth 10000 in
theorem mT_165 : mT[165]? = some (yX11_splice, cX11_splice, 3, (some .int)) := rfl
theorem yk_165 : ri_yOK yX11_splice 2 := ⟨by decide +kernel, by decide +kernel, by decide +kernel⟩
set_option maxRecDepth 10000 in
theorem mT_166 : mT[166]? = some (yX11_spread, cX11_spread, 7, (some .int)) := rfl
theorem yk_166 : ri_yOK yX11_spread 2 := ⟨by decide +kernel, by decide +kernel, by decide +kernel⟩
set_option maxRecDepth 10000 in
theorem mT_167 : mT[167]? = some (yX11_strand, cX11_strand, 3, (some .boolean)) := rfl
theorem yk_167 : ri_yOK yX11_strand 2 := ⟨by decide +kernel, by decide +kernel, by decide +kernel⟩
set_option maxRecDepth 10000 in
theorem mT_168 : mT[168]? = some (yX11_strandNow, cX11_strandNow, 2, (some .int)) := rfl
theorem yk_168 : ri_yOK yX11_strandNow 1 := ⟨by decide +kernel, by decide +kernel, by decide +kernel⟩
set_option maxRecDepth 10000 in
theorem mT_169 : mT[169]? = some (yX11_street, cX11_street, 4, (some .int)) := rfl
theorem yk_169 : ri_yOK yX11_street 0 := ⟨by decide +kernel, by decide +kernel, by decide +kernel⟩
set_option maxRecDepth 10000 in
theorem mT_170 : mT[170]? = some (yX11_takes, cX11_takes, 1, (some .int)) := rfl
theorem yk_170 : ri_yOK yX11_takes 0 := ⟨by decide +kernel, by decide +kernel, by decide +kernel⟩
set_option maxRecDepth 10000 in
theorem mT_171 : mT[171]? = some (yX11_trips, cX11_trips, 2, (some .int)) := rfl
theorem yk_171 : ri_yOK yX11_trips 1 := ⟨by decide +kernel, by decide +kernel, by decide +kernel⟩
set_option maxRecDepth 10000 in
theorem mT_172 : mT[172]? = some (yX11_untell, cX11_untell, 2, (some .boolean)) := rfl
theorem yk_172 : ri_yOK yX11_untell 1 := ⟨by decide +kernel, by decide +kernel, by decide +kernel⟩
set_option maxRecDepth 10000 in
theorem mT_173 : mT[173]? = some (yX11_where, cX11_where, 5, (some .int)) := rfl
theorem yk_173 : ri_yOK yX11_where 3 := ⟨by decide +kernel, by decide +kernel, by decide +kernel⟩
set_option maxRecDepth 10000 in
theorem mT_174 : mT[174]? = some (yX12_init, cX12_init, 2, none) := rfl
theorem yk_174 : ri_yOK yX12_init 0 := ⟨by decide +kernel, by decide +kernel, by decide +kernel⟩
set_option maxRecDepth 10000 in
theorem mT_175 : mT[175]? = some (yX12_about, cX12_about, 2, (some .int)) := rfl
theorem yk_175 : ri_yOK yX12_about 1 := ⟨by decide +kernel, by decide +kernel, by decide +kernel⟩
set_option maxRecDepth 10000 in
theorem mT_176 : mT[176]? = some (yX12_after, cX12_after, 5, (some .int)) := rfl
theorem yk_176 : ri_yOK yX12_after 3 := ⟨by decide +kernel, by decide +kernel, by decide +kernel⟩
set_option maxRecDepth 10000 in
theorem mT_177 : mT[177]? = some (yX12_amount, cX12_amount, 3, (some .int)) := rfl
theorem yk_177 : ri_yOK yX12_amount 2 := ⟨by decide +kernel, by decide +kernel, by decide +kernel⟩
set_option maxRecDepth 10000 in
theorem mT_178 : mT[178]? = some (yX12_asks, cX12_asks, 4, (some .int)) := rfl
theorem yk_178 : ri_yOK yX12_asks 2 := ⟨by decide +kernel, by decide +kernel, by decide +kernel⟩
set_option maxRecDepth 10000 in
theorem mT_179 : mT[179]? = some (yX12_back, cX12_back, 2, (some .int)) := rfl
theorem yk_179 : ri_yOK yX12_back 1 := ⟨by decide +kernel, by decide +kernel, by decide +kernel⟩
set_option maxRecDepth 10000 in
theorem mT_180 : mT[180]? = some (yX12_begin, cX12_begin, 2, none) := rfl
theorem yk_180 : ri_yOK yX12_begin 0 := ⟨by decide +kernel, by decide +kernel, by decide +kernel⟩
set_option maxRecDepth 10000 in
theorem mT_181 : mT[181]? = some (yX12_behindUnit, cX12_behindUnit, 2, (some .boolean)) := rfl
theorem yk_181 : ri_yOK yX12_behindUnit 0 := ⟨by decide +kernel, by decide +kernel, by decide +kernel⟩
set_option maxRecDepth 10000 in
theorem mT_182 : mT[182]? = some (yX12_bring, cX12_bring, 5, none) := rfl
theorem yk_182 : ri_yOK yX12_bring 1 := ⟨by decide +kernel, by decide +kernel, by decide +kernel⟩
set_option maxRecDepth 10000 in
theorem mT_183 : mT[183]? = some (yX12_bringEvents, cX12_bringEvents, 4, none) := rfl
theorem yk_183 : ri_yOK yX12_bringEvents 1 := ⟨by decide +kernel, by decide +kernel, by decide +kernel⟩
set_option maxRecDepth 10000 in
theorem mT_184 : mT[184]? = some (yX12_car, cX12_car, 3, (some .int)) := rfl
theorem yk_184 : ri_yOK yX12_car 2 := ⟨by decide +kernel, by decide +kernel, by decide +kernel⟩
set_option maxRecDepth 10000 in
theorem mT_185 : mT[185]? = some (yX12_carMany, cX12_carMany, 1, (some .int)) := rfl
theorem yk_185 : ri_yOK yX12_carMany 0 := ⟨by decide +kernel, by decide +kernel, by decide +kernel⟩
set_option maxRecDepth 10000 in
theorem mT_186 : mT[186]? = some (yX12_clearBank, cX12_clearBank, 2, none) := rfl
theorem yk_186 : ri_yOK yX12_clearBank 0 := ⟨by decide +kernel, by decide +kernel, by decide +kernel⟩
set_option maxRecDepth 10000 in
theorem mT_187 : mT[187]? = some (yX12_coast, cX12_coast, 7, none) := rfl
theorem yk_187 : ri_yOK yX12_coast 2 := ⟨by decide +kernel, by decide +kernel, by decide +kernel⟩
set_option maxRecDepth 10000 in
theorem mT_188 : mT[188]? = some (yX12_coasting, cX12_coasting, 5, (some .int)) := rfl
theorem yk_188 : ri_yOK yX12_coasting 2 := ⟨by decide +kernel, by decide +kernel, by decide +kernel⟩
set_option maxRecDepth 10000 in
theorem mT_189 : mT[189]? = some (yX12_coasts, cX12_coasts, 4, (some .int)) := rfl
theorem yk_189 : ri_yOK yX12_coasts 3 := ⟨by decide +kernel, by decide +kernel, by decide +kernel⟩
set_option maxRecDepth 10000 in
theorem mT_190 : mT[190]? = some (yX12_comes, cX12_comes, 5, (some .int)) := rfl
theorem yk_190 : ri_yOK yX12_comes 2 := ⟨by decide +kernel, by decide +kernel, by decide +kernel⟩
set_option maxRecDepth 10000 in
theorem mT_191 : mT[191]? = some (yX12_comesBack, cX12_comesBack, 3, none) := rfl
theorem yk_191 : ri_yOK yX12_comesBack 1 := ⟨by decide +kernel, by decide +kernel, by decide +kernel⟩
set_option maxRecDepth 10000 in
theorem mT_192 : mT[192]? = some (yX12_cost, cX12_cost, 6, (some .int)) := rfl
theorem yk_192 : ri_yOK yX12_cost 2 := ⟨by decide +kernel, by decide +kernel, by decide +kernel⟩
set_option maxRecDepth 10000 in
theorem mT_193 : mT[193]? = some (yX12_count, cX12_count, 2, (some .int)) := rfl
theorem yk_193 : ri_yOK yX12_count 1 := ⟨by decide +kernel, by decide +kernel, by decide +kernel⟩
set_option maxRecDepth 10000 in
theorem mT_194 : mT[194]? = some (yX12_counts, cX12_counts, 3, (some .boolean)) := rfl
theorem yk_194 : ri_yOK yX12_counts 2 := ⟨by decide +kernel, by decide +kernel, by decide +kernel⟩
set_option maxRecDepth 10000 in
theorem mT_195 : mT[195]? = some (yX12_crossAt, cX12_crossAt, 3, (some .int)) := rfl
theorem yk_195 : ri_yOK yX12_crossAt 1 := ⟨by decide +kernel, by decide +kernel, by decide +kernel⟩
set_option maxRecDepth 10000 in
theorem mT_196 : mT[196]? = some (yX12_cutRope, cX12_cutRope, 5, none) := rfl
theorem yk_196 : ri_yOK yX12_cutRope 3 := ⟨by decide +kernel, by decide +kernel, by decide +kernel⟩
set_option maxRecDepth 10000 in
theorem mT_197 : mT[197]? = some (yX12_due, cX12_due, 4, (some .int)) := rfl
theorem yk_197 : ri_yOK yX12_due 1 := ⟨by decide +kernel, by decide +kernel, by decide +kernel⟩
set_option maxRecDepth 10000 in
theorem mT_198 : mT[198]? = some (yX12_e, cX12_e, 2, none) := rfl
theorem yk_198 : ri_yOK yX12_e 0 := ⟨by decide +kernel, by decide +kernel, by decide +kernel⟩
set_option maxRecDepth 10000 in
theorem mT_199 : mT[199]? = some (yX12_emit, cX12_emit, 3, none) := rfl
theorem yk_199 : ri_yOK yX12_emit 2 := ⟨by decide +kernel, by decide +kernel, by decide +kernel⟩
set_option maxRecDepth 10000 in
theorem mT_200 : mT[200]? = some (yX12_end, cX12_end, 2, (some .int)) := rfl
theorem yk_200 : ri_yOK yX12_end 1 := ⟨by decide +kernel, by decide +kernel, by decide +kernel⟩
set_option maxRecDepth 10000 in
theorem mT_201 : mT[201]? = some (yX12_event, cX12_event, 3, (some .int)) := rfl
theorem yk_201 : ri_yOK yX12_event 2 := ⟨by decide +kernel, by decide +kernel, by decide +kernel⟩
set_option maxRecDepth 10000 in
theorem mT_202 : mT[202]? = some (yX12_event0, cX12_event0, 5, (some .int)) := rfl
theorem yk_202 : ri_yOK yX12_event0 4 := ⟨by decide +kernel, by decide +kernel, by decide +kernel⟩
set_option maxRecDepth 10000 in
theorem mT_203 : mT[203]? = some (yX12_fails, cX12_fails, 3, none) := rfl
theorem yk_203 : ri_yOK yX12_fails 2 := ⟨by decide +kernel, by decide +kernel, by decide +kernel⟩
set_option maxRecDepth 10000 in
theorem mT_204 : mT[204]? = some (yX12_fault, cX12_fault, 2, (some .int)) := rfl
theorem yk_204 : ri_yOK yX12_fault 1 := ⟨by decide +kernel, by decide +kernel, by decide +kernel⟩
set_option maxRecDepth 10000 in
theorem mT_205 : mT[205]? = some (yX12_feed, cX12_feed, 8, (some .int)) := rfl
theorem yk_205 : ri_yOK yX12_feed 5 := ⟨by decide +kernel, by decide +kernel, by decide +kernel⟩
set_option maxRecDepth 10000 in
theorem mT_206 : mT[206]? = some (yX12_findFalse, cX12_findFalse, 3, none) := rfl
theorem yk_206 : ri_yOK yX12_findFalse 0 := ⟨by decide +kernel, by decide +kernel, by decide +kernel⟩
set_option maxRecDepth 10000 in
theorem mT_207 : mT[207]? = some (yX12_free, cX12_free, 2, (some .boolean)) := rfl
theorem yk_207 : ri_yOK yX12_free 1 := ⟨by decide +kernel, by decide +kernel, by decide +kernel⟩
set_option maxRecDepth 10000 in
theorem mT_208 : mT[208]? = some (yX12_fresh, cX12_fresh, 6, (some .long)) := rfl
theorem yk_208 : ri_yOK yX12_fresh 3 := ⟨by decide +kernel, by decide +kernel, by decide +kernel⟩
set_option maxRecDepth 10000 in
theorem mT_209 : mT[209]? = some (yX12_goOn, cX12_goOn, 3, none) := rfl
theorem yk_209 : ri_yOK yX12_goOn 0 := ⟨by decide +kernel, by decide +kernel, by decide +kernel⟩
set_option maxRecDepth 10000 in
theorem mT_210 : mT[210]? = some (yX12_goes, cX12_goes, 3, none) := rfl
theorem yk_210 : ri_yOK yX12_goes 1 := ⟨by decide +kernel, by decide +kernel, by decide +kernel⟩
set_option maxRecDepth 10000 in
theorem mT_211 : mT[211]? = some (yX12_going, cX12_going, 3, (some .int)) := rfl
theorem yk_211 : ri_yOK yX12_going 0 := ⟨by decide +kernel, by decide +kernel, by decide +kernel⟩
set_option maxRecDepth 10000 in
theorem mT_212 : mT[212]? = some (yX12_gradeAt, cX12_gradeAt, 2, (some .int)) := rfl
theorem yk_212 : ri_yOK yX12_gradeAt 1 := ⟨by decide +kernel, by decide +kernel, by decide +kernel⟩
set_option maxRecDepth 10000 in
theorem mT_213 : mT[213]? = some (yX12_grippers, cX12_grippers, 4, (some .int)) := rfl
theorem yk_213 : ri_yOK yX12_grippers 1 := ⟨by decide +kernel, by decide +kernel, by decide +kernel⟩
set_option maxRecDepth 10000 in
theorem mT_214 : mT[214]? = some (yX12_gripsOn, cX12_gripsOn, 6, none) := rfl
theorem yk_214 : ri_yOK yX12_gripsOn 2 := ⟨by decide +kernel, by decide +kernel, by decide +kernel⟩
set_option maxRecDepth 10000 in
theorem mT_215 : mT[215]? = some (yX12_halt, cX12_halt, 4, (some .int)) := rfl
theorem yk_215 : ri_yOK yX12_halt 1 := ⟨by decide +kernel, by decide +kernel, by decide +kernel⟩
set_option maxRecDepth 10000 in
theorem mT_216 : mT[216]? = some (yX12_has, cX12_has, 3, (some .boolean)) := rfl
theorem yk_216 : ri_yOK yX12_has 2 := ⟨by decide +kernel, by decide +kernel, by decide +kernel⟩
set_option maxRecDepth 10000 in
theorem mT_217 : mT[217]? = some (yX12_head, cX12_head, 3, (some .int)) := rfl
theorem yk_217 : ri_yOK yX12_head 1 := ⟨by decide +kernel, by decide +kernel, by decide +kernel⟩
set_option maxRecDepth 10000 in
theorem mT_218 : mT[218]? = some (yX12_headOf, cX12_headOf, 7, (some .int)) := rfl
theorem yk_218 : ri_yOK yX12_headOf 1 := ⟨by decide +kernel, by decide +kernel, by decide +kernel⟩
set_option maxRecDepth 10000 in
theorem mT_219 : mT[219]? = some (yX12_holdBack, cX12_holdBack, 6, none) := rfl
theorem yk_219 : ri_yOK yX12_holdBack 2 := ⟨by decide +kernel, by decide +kernel, by decide +kernel⟩
set_option maxRecDepth 10000 in
theorem mT_220 : mT[220]? = some (yX12_image, cX12_image, 2, (some .int)) := rfl
theorem yk_220 : ri_yOK yX12_image 1 := ⟨by decide +kernel, by decide +kernel, by decide +kernel⟩
set_option maxRecDepth 10000 in
theorem mT_221 : mT[221]? = some (yX12_is, cX12_is, 2, (some .boolean)) := rfl
theorem yk_221 : ri_yOK yX12_is 1 := ⟨by decide +kernel, by decide +kernel, by decide +kernel⟩
set_option maxRecDepth 10000 in
theorem mT_222 : mT[222]? = some (yX12_isCar, cX12_isCar, 2, (some .boolean)) := rfl
theorem yk_222 : ri_yOK yX12_isCar 1 := ⟨by decide +kernel, by decide +kernel, by decide +kernel⟩
set_option maxRecDepth 10000 in
theorem mT_223 : mT[223]? = some (yX12_isCompared, cX12_isCompared, 2, (some .boolean)) := rfl
theorem yk_223 : ri_yOK yX12_isCompared 0 := ⟨by decide +kernel, by decide +kernel, by decide +kernel⟩
set_option maxRecDepth 10000 in
theorem mT_224 : mT[224]? = some (yX12_isDigit, cX12_isDigit, 1, (some .boolean)) := rfl
theorem yk_224 : ri_yOK yX12_isDigit 1 := ⟨by decide +kernel, by decide +kernel, by decide +kernel⟩
set_option maxRecDepth 10000 in
theorem mT_225 : mT[225]? = some (yX12_isGood, cX12_isGood, 1, (some .boolean)) := rfl
theorem yk_225 : ri_yOK yX12_isGood 0 := ⟨by decide +kernel, by decide +kernel, by decide +kernel⟩
set_option maxRecDepth 10000 in
theorem mT_226 : mT[226]? = some (yX12_isGrownFull, cX12_isGrownFull, 1, (some .boolean)) := rfl
theorem yk_226 : ri_yOK yX12_isGrownFull 0 := ⟨by decide +kernel, by decide +kernel, by decide +kernel⟩
set_option maxRecDepth 10000 in
theorem mT_227 : mT[227]? = some (yX12_isIn, cX12_isIn, 3, (some .boolean)) := rfl
theorem yk_227 : ri_yOK yX12_isIn 3 := ⟨by decide +kernel, by decide +kernel, by decide +kernel⟩
set_option maxRecDepth 10000 in
theorem mT_228 : mT[228]? = some (yX12_isKept, cX12_isKept, 4, (some .boolean)) := rfl
theorem yk_228 : ri_yOK yX12_isKept 1 := ⟨by decide +kernel, by decide +kernel, by decide +kernel⟩
set_option maxRecDepth 10000 in
theorem mT_229 : mT[229]? = some (yX12_isLetter, cX12_isLetter, 1, (some .boolean)) := rfl
theorem yk_229 : ri_yOK yX12_isLetter 1 := ⟨by decide +kernel, by decide +kernel, by decide +kernel⟩
set_option maxRecDepth 10000 in
theorem mT_230 : mT[230]? = some (yX12_isPlace, cX12_isPlace, 3, (some .boolean)) := rfl
theorem yk_230 : ri_yOK yX12_isPlace 2 := ⟨by decide +kernel, by decide +kernel, by decide +kernel⟩
set_option maxRecDepth 10000 in
theorem mT_231 : mT[231]? = some (yX12_isRope, cX12_isRope, 2, (some .boolean)) := rfl
theorem yk_231 : ri_yOK yX12_isRope 1 := ⟨by decide +kernel, by decide +kernel, by decide +kernel⟩
set_option maxRecDepth 10000 in
theorem mT_232 : mT[232]? = some (yX12_isSegment, cX12_isSegment, 1, (some .boolean)) := rfl
theorem yk_232 : ri_yOK yX12_isSegment 1 := ⟨by decide +kernel, by decide +kernel, by decide +kernel⟩
set_option maxRecDepth 10000 in
theorem mT_233 : mT[233]? = some (yX12_isSign, cX12_isSign, 1, (some .boolean)) := rfl
theorem yk_233 : ri_yOK yX12_isSign 1 := ⟨by decide +kernel, by decide +kernel, by decide +kernel⟩
set_option maxRecDepth 10000 in
theorem mT_234 : mT[234]? = some (yX12_isWord, cX12_isWord, 3, (some .boolean)) := rfl
theorem yk_234 : ri_yOK yX12_isWord 1 := ⟨by decide +kernel, by decide +kernel, by decide +kernel⟩
set_option maxRecDepth 10000 in
theorem mT_235 : mT[235]? = some (yX12_isWornBy, cX12_isWornBy, 2, (some .boolean)) := rfl
theorem yk_235 : ri_yOK yX12_isWornBy 1 := ⟨by decide +kernel, by decide +kernel, by decide +kernel⟩
set_option maxRecDepth 10000 in
theorem mT_236 : mT[236]? = some (yX12_judge, cX12_judge, 6, (some .int)) := rfl
theorem yk_236 : ri_yOK yX12_judge 2 := ⟨by decide +kernel, by decide +kernel, by decide +kernel⟩
set_option maxRecDepth 10000 in
theorem mT_237 : mT[237]? = some (yX12_keep, cX12_keep, 5, none) := rfl
theorem yk_237 : ri_yOK yX12_keep 1 := ⟨by decide +kernel, by decide +kernel, by decide +kernel⟩
set_option maxRecDepth 10000 in
theorem mT_238 : mT[238]? = some (yX12_keepEvents, cX12_keepEvents, 4, none) := rfl
theorem yk_238 : ri_yOK yX12_keepEvents 1 := ⟨by decide +kernel, by decide +kernel, by decide +kernel⟩
set_option maxRecDepth 10000 in
theorem mT_239 : mT[239]? = some (yX12_later, cX12_later, 2, (some .int)) := rfl
theorem yk_239 : ri_yOK yX12_later 1 := ⟨by decide +kernel, by decide +kernel, by decide +kernel⟩
set_option maxRecDepth 10000 in
theorem mT_240 : mT[240]? = some (yX12_latest, cX12_latest, 6, (some .int)) := rfl
theorem yk_240 : ri_yOK yX12_latest 3 := ⟨by decide +kernel, by decide +kernel, by decide +kernel⟩
set_option maxRecDepth 10000 in
theorem mT_241 : mT[241]? = some (yX12_latestOf, cX12_latestOf, 4, (some .int)) := rfl
theorem yk_241 : ri_yOK yX12_latestOf 2 := ⟨by decide +kernel, by decide +kernel, by decide +kernel⟩
set_option maxRecDepth 10000 in
theorem mT_242 : mT[242]? = some (yX12_loadOf, cX12_loadOf, 4, (some .int)) := rfl
theorem yk_242 : ri_yOK yX12_loadOf 1 := ⟨by decide +kernel, by decide +kernel, by decide +kernel⟩
set_option maxRecDepth 10000 in
theorem mT_243 : mT[243]? = some (yX12_log, cX12_log, 4, (some .int)) := rfl
theorem yk_243 : ri_yOK yX12_log 3 := ⟨by decide +kernel, by decide +kernel, by decide +kernel⟩
set_option maxRecDepth 10000 in
theorem mT_244 : mT[244]? = some (yX12_logged, cX12_logged, 5, (some .int)) := rfl
theorem yk_244 : ri_yOK yX12_logged 2 := ⟨by decide +kernel, by decide +kernel, by decide +kernel⟩
set_option maxRecDepth 10000 in
theorem mT_245 : mT[245]? = some (yX12_markHere, cX12_markHere, 1, (some .int)) := rfl
theorem yk_245 : ri_yOK yX12_markHere 0 := ⟨by decide +kernel, by decide +kernel, by decide +kernel⟩
set_option maxRecDepth 10000 in
theorem mT_246 : mT[246]? = some (yX12_moveSplice, cX12_moveSplice, 3, none) := rfl
theorem yk_246 : ri_yOK yX12_moveSplice 1 := ⟨by decide +kernel, by decide +kernel, by decide +kernel⟩
set_option maxRecDepth 10000 in
theorem mT_247 : mT[247]? = some (yX12_moveStrand, cX12_moveStrand, 4, none) := rfl
theorem yk_247 : ri_yOK yX12_moveStrand 0 := ⟨by decide +kernel, by decide +kernel, by decide +kernel⟩
set_option maxRecDepth 10000 in
theorem mT_248 : mT[248]? = some (yX12_must, cX12_must, 2, none) := rfl
theorem yk_248 : ri_yOK yX12_must 1 := ⟨by decide +kernel, by decide +kernel, by decide +kernel⟩
set_option maxRecDepth 10000 in
theorem mT_249 : mT[249]? = some (yX12_nearest, cX12_nearest, 6, (some .int)) := rfl
theorem yk_249 : ri_yOK yX12_nearest 2 := ⟨by decide +kernel, by decide +kernel, by decide +kernel⟩
set_option maxRecDepth 10000 in
theorem mT_250 : mT[250]? = some (yX12_need, cX12_need, 3, (some .int)) := rfl
theorem yk_250 : ri_yOK yX12_need 1 := ⟨by decide +kernel, by decide +kernel, by decide +kernel⟩
set_option maxRecDepth 10000 in
theorem mT_251 : mT[251]? = some (yX12_numeral, cX12_numeral, 4, (some .int)) := rfl
theorem yk_251 : ri_yOK yX12_numeral 2 := ⟨by decide +kernel, by decide +kernel, by decide +kernel⟩
set_option maxRecDepth 10000 in
theorem mT_252 : mT[252]? = some (yX12_on, cX12_on, 2, (some .int)) := rfl
theorem yk_252 : ri_yOK yX12_on 1 := ⟨by decide +kernel, by decide +kernel, by decide +kernel⟩
set_option maxRecDepth 10000 in
theorem mT_253 : mT[253]? = some (yX12_order, cX12_order, 7, (some .int)) := rfl
theorem yk_253 : ri_yOK yX12_order 1 := ⟨by decide +kernel, by decide +kernel, by decide +kernel⟩
set_option maxRecDepth 10000 in
theorem mT_254 : mT[254]? = some (yX12_power, cX12_power, 8, (some .int)) := rfl
theorem yk_254 : ri_yOK yX12_power 2 := ⟨by decide +kernel, by decide +kernel, by decide +kernel⟩
set_option maxRecDepth 10000 in
theorem mT_255 : mT[255]? = some (yX12_pushE, cX12_pushE, 3, none) := rfl
theorem yk_255 : ri_yOK yX12_pushE 2 := ⟨by decide +kernel, by decide +kernel, by decide +kernel⟩
set_option maxRecDepth 10000 in
theorem mT_256 : mT[256]? = some (yX12_rankHere, cX12_rankHere, 1, (some .int)) := rfl
theorem yk_256 : ri_yOK yX12_rankHere 0 := ⟨by decide +kernel, by decide +kernel, by decide +kernel⟩
set_option maxRecDepth 10000 in
theorem mT_257 : mT[257]? = some (yX12_readCar, cX12_readCar, 2, none) := rfl
theorem yk_257 : ri_yOK yX12_readCar 0 := ⟨by decide +kernel, by decide +kernel, by decide +kernel⟩
set_option maxRecDepth 10000 in
theorem mT_258 : mT[258]? = some (yX12_readCross, cX12_readCross, 3, none) := rfl
theorem yk_258 : ri_yOK yX12_readCross 0 := ⟨by decide +kernel, by decide +kernel, by decide +kernel⟩
set_option maxRecDepth 10000 in
theorem mT_259 : mT[259]? = some (yX12_readGrade, cX12_readGrade, 5, none) := rfl
theorem yk_259 : ri_yOK yX12_readGrade 0 := ⟨by decide +kernel, by decide +kernel, by decide +kernel⟩
set_option maxRecDepth 10000 in
theorem mT_260 : mT[260]? = some (yX12_readGrown, cX12_readGrown, 3, none) := rfl
theorem yk_260 : ri_yOK yX12_readGrown 1 := ⟨by decide +kernel, by decide +kernel, by decide +kernel⟩
set_option maxRecDepth 10000 in
theorem mT_261 : mT[261]? = some (yX12_readLine, cX12_readLine, 10, none) := rfl
theorem yk_261 : ri_yOK yX12_readLine 0 := ⟨by decide +kernel, by decide +kernel, by decide +kernel⟩
set_option maxRecDepth 10000 in
theorem mT_262 : mT[262]? = some (yX12_readMark, cX12_readMark, 4, none) := rfl
theorem yk_262 : ri_yOK yX12_readMark 1 := ⟨by decide +kernel, by decide +kernel, by decide +kernel⟩
set_option maxRecDepth 10000 in
theorem mT_263 : mT[263]? = some (yX12_readMarks, cX12_readMarks, 3, none) := rfl
theorem yk_263 : ri_yOK yX12_readMarks 2 := ⟨by decide +kernel, by decide +kernel, by decide +kernel⟩
set_option maxRecDepth 10000 in
theorem mT_264 : mT[264]? = some (yX12_readRope, cX12_readRope, 6, none) := rfl
theorem yk_264 : ri_yOK yX12_readRope 0 := ⟨by decide +kernel, by decide +kernel, by decide +kernel⟩
set_option maxRecDepth 10000 in
theorem mT_265 : mT[265]? = some (yX12_readSplice, cX12_readSplice, 3, none) := rfl
theorem yk_265 : ri_yOK yX12_readSplice 0 := ⟨by decide +kernel, by decide +kernel, by decide +kernel⟩
set_option maxRecDepth 10000 in
theorem mT_266 : mT[266]? = some (yX12_rolls, cX12_rolls, 3, (some .int)) := rfl
theorem yk_266 : ri_yOK yX12_rolls 0 := ⟨by decide +kernel, by decide +kernel, by decide +kernel⟩
set_option maxRecDepth 10000 in
theorem mT_267 : mT[267]? = some (yX12_rope, cX12_rope, 3, (some .int)) := rfl
theorem yk_267 : ri_yOK yX12_rope 2 := ⟨by decide +kernel, by decide +kernel, by decide +kernel⟩
set_option maxRecDepth 10000 in
theorem mT_268 : mT[268]? = some (yX12_ropeAt, cX12_ropeAt, 2, (some .int)) := rfl
theorem yk_268 : ri_yOK yX12_ropeAt 1 := ⟨by decide +kernel, by decide +kernel, by decide +kernel⟩
set_option maxRecDepth 10000 in
theorem mT_269 : mT[269]? = some (yX12_ropeHere, cX12_ropeHere, 2, (some .int)) := rfl
theorem yk_269 : ri_yOK yX12_ropeHere 0 := ⟨by decide +kernel, by decide +kernel, by decide +kernel⟩
set_option maxRecDepth 10000 in
theorem mT_270 : mT[270]? = some (yX12_run, cX12_run, 3, (some .int)) := rfl
theorem yk_270 : ri_yOK yX12_run 1 := ⟨by decide +kernel, by decide +kernel, by decide +kernel⟩
set_option maxRecDepth 10000 in
theorem mT_271 : mT[271]? = some (yX12_runaway, cX12_runaway, 8, (some .int)) := rfl
theorem yk_271 : ri_yOK yX12_runaway 2 := ⟨by decide +kernel, by decide +kernel, by decide +kernel⟩
set_option maxRecDepth 10000 in
theorem mT_272 : mT[272]? = some (yX12_segmentOf, cX12_segmentOf, 5, (some .int)) := rfl
theorem yk_272 : ri_yOK yX12_segmentOf 2 := ⟨by decide +kernel, by decide +kernel, by decide +kernel⟩
set_option maxRecDepth 10000 in
theorem mT_273 : mT[273]? = some (yX12_sign, cX12_sign, 2, (some .int)) := rfl
theorem yk_273 : ri_yOK yX12_sign 1 := ⟨by decide +kernel, by decide +kernel, by decide +kernel⟩
set_option maxRecDepth 10000 in
theorem mT_274 : mT[274]? = some (yX12_signOf, cX12_signOf, 1, (some .int)) := rfl
theorem yk_274 : ri_yOK yX12_signOf 1 := ⟨by decide +kernel, by decide +kernel, by decide +kernel⟩
set_option maxRecDepth 10000 in
theorem mT_275 : mT[275]? = some (yX12_signed, cX12_signed, 5, (some .int)) := rfl
theorem yk_275 : ri_yOK yX12_signed 1 := ⟨by decide +kernel, by decide +kernel, by decide +kernel⟩
set_option maxRecDepth 10000 in
theorem mT_276 : mT[276]? = some (yX12_sizeOf, cX12_sizeOf, 1, (some .int)) := rfl
theorem yk_276 : ri_yOK yX12_sizeOf 1 := ⟨by decide +kernel, by decide +kernel, by decide +kernel⟩
set_option maxRecDepth 10000 in
theorem mT_277 : mT[277]? = some (yX12_speed, cX12_speed, 2, (some .int)) := rfl
theorem yk_277 : ri_yOK yX12_speed 1 := ⟨by decide +kernel, by decide +kernel, by decide +kernel⟩
set_option maxRecDepth 10000 in
theorem mT_278 : mT[278]? = some (yX12_splice, cX12_splice, 4, (some .int)) := rfl
theorem yk_278 : ri_yOK yX12_splice 2 := ⟨by decide +kernel, by decide +kernel, by decide +kernel⟩
set_option maxRecDepth 10000 in
theorem mT_279 : mT[279]? = some (yX12_spread, cX12_spread, 7, (some .int)) := rfl
theorem yk_279 : ri_yOK yX12_spread 2 := ⟨by decide +kernel, by decide +kernel, by decide +kernel⟩
set_option maxRecDepth 10000 in
theorem mT_280 : mT[280]? = some (yX12_strand, cX12_strand, 3, (some .boolean)) := rfl
theorem yk_280 : ri_yOK yX12_strand 2 := ⟨by decide +kernel, by decide +kernel, by decide +kernel⟩
set_option maxRecDepth 10000 in
theorem mT_281 : mT[281]? = some (yX12_strandNow, cX12_strandNow, 2, (some .int)) := rfl
theorem yk_281 : ri_yOK yX12_strandNow 1 := ⟨by decide +kernel, by decide +kernel, by decide +kernel⟩
set_option maxRecDepth 10000 in
theorem mT_282 : mT[282]? = some (yX12_strandOn, cX12_strandOn, 1, (some .int)) := rfl
theorem yk_282 : ri_yOK yX12_strandOn 0 := ⟨by decide +kernel, by decide +kernel, by decide +kernel⟩
set_option maxRecDepth 10000 in
theorem mT_283 : mT[283]? = some (yX12_street, cX12_street, 2, (some .int)) := rfl
theorem yk_283 : ri_yOK yX12_street 0 := ⟨by decide +kernel, by decide +kernel, by decide +kernel⟩
set_option maxRecDepth 10000 in
theorem mT_284 : mT[284]? = some (yX12_takes, cX12_takes, 3, (some .int)) := rfl
theorem yk_284 : ri_yOK yX12_takes 0 := ⟨by decide +kernel, by decide +kernel, by decide +kernel⟩
set_option maxRecDepth 10000 in
theorem mT_285 : mT[285]? = some (yX12_tick, cX12_tick, 4, none) := rfl
theorem yk_285 : ri_yOK yX12_tick 0 := ⟨by decide +kernel, by decide +kernel, by decide +kernel⟩
set_option maxRecDepth 10000 in
theorem mT_286 : mT[286]? = some (yX12_trips, cX12_trips, 2, (some .int)) := rfl
theorem yk_286 : ri_yOK yX12_trips 1 := ⟨by decide +kernel, by decide +kernel, by decide +kernel⟩
set_option maxRecDepth 10000 in
theorem mT_287 : mT[287]? = some (yX12_turns, cX12_turns, 2, none) := rfl
theorem yk_287 : ri_yOK yX12_turns 0 := ⟨by decide +kernel, by decide +kernel, by decide +kernel⟩
set_option maxRecDepth 10000 in
theorem mT_288 : mT[288]? = some (yX12_two, cX12_two, 3, (some .int)) := rfl
theorem yk_288 : ri_yOK yX12_two 3 := ⟨by decide +kernel, by decide +kernel, by decide +kernel⟩
set_option maxRecDepth 10000 in
theorem mT_289 : mT[289]? = some (yX12_unit, cX12_unit, 6, (some .boolean)) := rfl
theorem yk_289 : ri_yOK yX12_unit 0 := ⟨by decide +kernel, by decide +kernel, by decide +kernel⟩
set_option maxRecDepth 10000 in
theorem mT_290 : mT[290]? = some (yX12_untell, cX12_untell, 2, (some .boolean)) := rfl
theorem yk_290 : ri_yOK yX12_untell 1 := ⟨by decide +kernel, by decide +kernel, by decide +kernel⟩
set_option maxRecDepth 10000 in
theorem mT_291 : mT[291]? = some (yX12_waitsOn, cX12_waitsOn, 4, none) := rfl
theorem yk_291 : ri_yOK yX12_waitsOn 2 := ⟨by decide +kernel, by decide +kernel, by decide +kernel⟩
set_option maxRecDepth 10000 in
theorem mT_292 : mT[292]? = some (yX12_weight, cX12_weight, 2, (some .int)) := rfl
theorem yk_292 : ri_yOK yX12_weight 1 := ⟨by decide +kernel, by decide +kernel, by decide +kernel⟩
set_option maxRecDepth 10000 in
theorem mT_293 : mT[293]? = some (yX12_where, cX12_where, 6, (some .int)) := rfl
theorem yk_293 : ri_yOK yX12_where 3 := ⟨by decide +kernel, by decide +kernel, by decide +kernel⟩
set_option maxRecDepth 10000 in
theorem mT_294 : mT[294]? = some (yX12_wordHere, cX12_wordHere, 1, (some .int)) := rfl
theorem yk_294 : ri_yOK yX12_wordHere 0 := ⟨by decide +kernel, by decide +kernel, by decide +kernel⟩
set_option maxRecDepth 10000 in
theorem mT_295 : mT[295]? = some (yX12_wrong, cX12_wrong, 1, none) := rfl
theorem yk_295 : ri_yOK yX12_wrong 0 := ⟨by decide +kernel, by decide +kernel, by decide +kernel⟩
set_option maxRecDepth 10000 in
theorem mT_296 : mT[296]? = some (yJ6_signum_0f7a4, cJ6_signum_0f7a4, 1, (some .int)) := rfl
theorem yk_296 : ri_yOK yJ6_signum_0f7a4 1 := ⟨by decide +kernel, by decide +kernel, by decide +kernel⟩
set_option maxRecDepth 10000 in
theorem mT_297 : mT[297]? = some (yJ7_fill_53178, cJ7_fill_53178, 4, none) := rfl
theorem yk_297 : ri_yOK yJ7_fill_53178 2 := ⟨by decide +kernel, by decide +kernel, by decide +kernel⟩
theorem ao_all : ri_arrOK := ⟨cw_147, cw_311, cw_73, cw_107, cw_535, cw_534, cw_14, cw_29, cw_30, cw_605, cw_602, cw_16, cw_606, cw_603, cw_1026, cw_1027⟩
def ri_dvB (a : ri_V) (ty : FieldType) : Bool := match a with
  | .inl x => (match ty with
    | .int => decide (x = (0, 0, 0))
    | .boolean => decide (x = (0, 0, 0))
    | _ => false)
  | .inr (.inl none) => (match ty with
    | .object _ => true
    | .array _ => true
    | _ => false)
  | .inr (.inl (some _)) => false
  | .inr (.inr _) => (match ty with
    | .long => true
    | _ => false)
theorem ri_dvB_ok {a : ri_V} {ty : FieldType} (h : ri_dvB a ty = true) (τ : Nat → Int) (ad : List Nat) : ri_gV τ ad a (defaultValue ty) := by
  rcases a with x | (_ | x) | x
  · cases ty <;> first | (cases h; done) | (have e : x = (0, 0, 0) := of_decide_eq_true h; subst e; exact ri_gV_0 τ ad)
  · cases ty <;> first | (cases h; done) | rfl
  · cases h
  · cases ty <;> first | (cases h; done) | exact ⟨0, rfl⟩
theorem ri_dv_of {df : List ri_V} {N : Nat} {ty : Nat → FieldType} (hl : df.length = N) (h : ∀ k, k < N → (match df[k]? with
  | some a => ri_dvB a (ty k)
  | none => false) = true) : ∀ (k : Nat) (a : ri_V), df[k]? = some a → ∀ (τ : Nat → Int) (ad : List Nat), ri_gV τ ad a (defaultValue (ty k)) := by
  intro k a ha τ ad
  have hk : k < N := by rw [← hl]; exact (List.getElem?_eq_some_iff.mp ha).1
  have := h k hk
  rw [ha] at this
  exact ri_dvB_ok this τ ad
theorem cl_0 : ∀ w ∈ u_ws RX0 TX0 11, w ∈ gU := List.forall_mem_cons.mpr ⟨cw_348, List.forall_mem_cons.mpr ⟨cw_350, List.forall_mem_cons.mpr ⟨cw_352, List.forall_mem_cons.mpr ⟨cw_354, List.forall_mem_cons.mpr ⟨cw_356, List.forall_mem_cons.mpr ⟨cw_358, List.forall_mem_cons.mpr ⟨cw_360, List.forall_mem_cons.mpr ⟨cw_362, List.forall_mem_cons.mpr ⟨cw_364, List.forall_mem_cons.mpr ⟨cw_366, List.forall_mem_cons.mpr ⟨cw_368, fun _ h => absurd h List.not_mem_nil⟩⟩⟩⟩⟩⟩⟩⟩⟩⟩⟩
set_option maxRecDepth 10000 in
theorem cok_0 : (∀ w ∈ u_ws RX0 TX0 11, w ∈ gU) ∧ Cond.instantiable RX0 11 ∈ gU ∧ Cond.initialized RX0 ∈ gU ∧ ∃ (ty0 : Nat → FieldType) (df : List ri_V), (∀ k, k < 11 → parseFieldDescriptor (TX0 k).2.2.1 = some (ty0 k)) ∧ (∀ a, a < 11 → ∀ b, b < 11 → a ≠ b → (TX0 a).2.1 ≠ (TX0 b).2.1) ∧ ri_df[0]? = some df ∧ df.length = 11 ∧ ∀ (k : Nat) (a : ri_V), df[k]? = some a → ∀ (τ : Nat → Int) (ad : List Nat), ri_gV τ ad a (defaultValue (ty0 k)) := ⟨cl_0, cw_312, cw_10, tyX0, _, tyX0_ok, nmX0, rfl, rfl, ri_dv_of rfl (by decide +kernel)⟩
theorem cl_1 : ∀ w ∈ u_ws RX1 TX1 6, w ∈ gU := List.forall_mem_cons.mpr ⟨cw_134, List.forall_mem_cons.mpr ⟨cw_136, List.forall_mem_cons.mpr ⟨cw_138, List.forall_mem_cons.mpr ⟨cw_140, List.forall_mem_cons.mpr ⟨cw_142, List.forall_mem_cons.mpr ⟨cw_144, fun _ h => absurd h List.not_mem_nil⟩⟩⟩⟩⟩⟩
set_option maxRecDepth 10000 in
theorem cok_1 : (∀ w ∈ u_ws RX1 TX1 6, w ∈ gU) ∧ Cond.instantiable RX1 6 ∈ gU ∧ Cond.initialized RX1 ∈ gU ∧ ∃ (ty0 : Nat → FieldType) (df : List ri_V), (∀ k, k < 6 → parseFieldDescriptor (TX1 k).2.2.1 = some (ty0 k)) ∧ (∀ a, a < 6 → ∀ b, b < 6 → a ≠ b → (TX1 a).2.1 ≠ (TX1 b).2.1) ∧ ri_df[1]? = some df ∧ df.length = 6 ∧ ∀ (k : Nat) (a : ri_V), df[k]? = some a → ∀ (τ : Nat → Int) (ad : List Nat), ri_gV τ ad a (defaultValue (ty0 k)) := ⟨cl_1, cw_119, cw_5, tyX1, _, tyX1_ok, nmX1, rfl, rfl, ri_dv_of rfl (by decide +kernel)⟩
theorem cl_2 : ∀ w ∈ u_ws RX2 TX2 3, w ∈ gU := List.forall_mem_cons.mpr ⟨cw_304, List.forall_mem_cons.mpr ⟨cw_306, List.forall_mem_cons.mpr ⟨cw_308, fun _ h => absurd h List.not_mem_nil⟩⟩⟩
set_option maxRecDepth 10000 in
theorem cok_2 : (∀ w ∈ u_ws RX2 TX2 3, w ∈ gU) ∧ Cond.instantiable RX2 3 ∈ gU ∧ Cond.initialized RX2 ∈ gU ∧ ∃ (ty0 : Nat → FieldType) (df : List ri_V), (∀ k, k < 3 → parseFieldDescriptor (TX2 k).2.2.1 = some (ty0 k)) ∧ (∀ a, a < 3 → ∀ b, b < 3 → a ≠ b → (TX2 a).2.1 ≠ (TX2 b).2.1) ∧ ri_df[2]? = some df ∧ df.length = 3 ∧ ∀ (k : Nat) (a : ri_V), df[k]? = some a → ∀ (τ : Nat → Int) (ad : List Nat), ri_gV τ ad a (defaultValue (ty0 k)) := ⟨cl_2, cw_293, cw_9, tyX2, _, tyX2_ok, nmX2, rfl, rfl, ri_dv_of rfl (by decide +kernel)⟩
theorem cl_3 : ∀ w ∈ u_ws RX3 TX3 7, w ∈ gU := List.forall_mem_cons.mpr ⟨cw_472, List.forall_mem_cons.mpr ⟨cw_474, List.forall_mem_cons.mpr ⟨cw_476, List.forall_mem_cons.mpr ⟨cw_478, List.forall_mem_cons.mpr ⟨cw_480, List.forall_mem_cons.mpr ⟨cw_482, List.forall_mem_cons.mpr ⟨cw_484, fun _ h => absurd h List.not_mem_nil⟩⟩⟩⟩⟩⟩⟩
set_option maxRecDepth 10000 in
theorem cok_3 : (∀ w ∈ u_ws RX3 TX3 7, w ∈ gU) ∧ Cond.instantiable RX3 7 ∈ gU ∧ Cond.initialized RX3 ∈ gU ∧ ∃ (ty0 : Nat → FieldType) (df : List ri_V), (∀ k, k < 7 → parseFieldDescriptor (TX3 k).2.2.1 = some (ty0 k)) ∧ (∀ a, a < 7 → ∀ b, b < 7 → a ≠ b → (TX3 a).2.1 ≠ (TX3 b).2.1) ∧ ri_df[3]? = some df ∧ df.length = 7 ∧ ∀ (k : Nat) (a : ri_V), df[k]? = some a → ∀ (τ : Nat → Int) (ad : List Nat), ri_gV τ ad a (defaultValue (ty0 k)) := ⟨cl_3, cw_451, cw_12, tyX3, _, tyX3_ok, nmX3, rfl, rfl, ri_dv_of rfl (by decide +kernel)⟩
theorem cl_4 : ∀ w ∈ u_ws RX4 TX4 8, w ∈ gU := List.forall_mem_cons.mpr ⟨cw_56, List.forall_mem_cons.mpr ⟨cw_58, List.forall_mem_cons.mpr ⟨cw_60, List.forall_mem_cons.mpr ⟨cw_62, List.forall_mem_cons.mpr ⟨cw_64, List.forall_mem_cons.mpr ⟨cw_66, List.forall_mem_cons.mpr ⟨cw_68, List.forall_mem_cons.mpr ⟨cw_70, fun _ h => absurd h List.not_mem_nil⟩⟩⟩⟩⟩⟩⟩⟩
set_option maxRecDepth 10000 in
theorem cok_4 : (∀ w ∈ u_ws RX4 TX4 8, w ∈ gU) ∧ Cond.instantiable RX4 8 ∈ gU ∧ Cond.initialized RX4 ∈ gU ∧ ∃ (ty0 : Nat → FieldType) (df : List ri_V), (∀ k, k < 8 → parseFieldDescriptor (TX4 k).2.2.1 = some (ty0 k)) ∧ (∀ a, a < 8 → ∀ b, b < 8 → a ≠ b → (TX4 a).2.1 ≠ (TX4 b).2.1) ∧ ri_df[4]? = some df ∧ df.length = 8 ∧ ∀ (k : Nat) (a : ri_V), df[k]? = some a → ∀ (τ : Nat → Int) (ad : List Nat), ri_gV τ ad a (defaultValue (ty0 k)) := ⟨cl_4, cw_38, cw_3, tyX4, _, tyX4_ok, nmX4, rfl, rfl, ri_dv_of rfl (by decide +kernel)⟩
theorem cl_5 : ∀ w ∈ u_ws RX5 TX5 9, w ∈ gU := List.forall_mem_cons.mpr ⟨cw_506, List.forall_mem_cons.mpr ⟨cw_508, List.forall_mem_cons.mpr ⟨cw_510, List.forall_mem_cons.mpr ⟨cw_512, List.forall_mem_cons.mpr ⟨cw_514, List.forall_mem_cons.mpr ⟨cw_516, List.forall_mem_cons.mpr ⟨cw_518, List.forall_mem_cons.mpr ⟨cw_520, List.forall_mem_cons.mpr ⟨cw_522, fun _ h => absurd h List.not_mem_nil⟩⟩⟩⟩⟩⟩⟩⟩⟩
set_option maxRecDepth 10000 in
theorem cok_5 : (∀ w ∈ u_ws RX5 TX5 9, w ∈ gU) ∧ Cond.instantiable RX5 9 ∈ gU ∧ Cond.initialized RX5 ∈ gU ∧ ∃ (ty0 : Nat → FieldType) (df : List ri_V), (∀ k, k < 9 → parseFieldDescriptor (TX5 k).2.2.1 = some (ty0 k)) ∧ (∀ a, a < 9 → ∀ b, b < 9 → a ≠ b → (TX5 a).2.1 ≠ (TX5 b).2.1) ∧ ri_df[5]? = some df ∧ df.length = 9 ∧ ∀ (k : Nat) (a : ri_V), df[k]? = some a → ∀ (τ : Nat → Int) (ad : List Nat), ri_gV τ ad a (defaultValue (ty0 k)) := ⟨cl_5, cw_488, cw_13, tyX5, _, tyX5_ok, nmX5, rfl, rfl, ri_dv_of rfl (by decide +kernel)⟩
theorem cl_6 : ∀ w ∈ u_ws RX6 TX6 4, w ∈ gU := List.forall_mem_cons.mpr ⟨cw_441, List.forall_mem_cons.mpr ⟨cw_443, List.forall_mem_cons.mpr ⟨cw_445, List.forall_mem_cons.mpr ⟨cw_447, fun _ h => absurd h List.not_mem_nil⟩⟩⟩⟩
set_option maxRecDepth 10000 in
theorem cok_6 : (∀ w ∈ u_ws RX6 TX6 4, w ∈ gU) ∧ Cond.instantiable RX6 4 ∈ gU ∧ Cond.initialized RX6 ∈ gU ∧ ∃ (ty0 : Nat → FieldType) (df : List ri_V), (∀ k, k < 4 → parseFieldDescriptor (TX6 k).2.2.1 = some (ty0 k)) ∧ (∀ a, a < 4 → ∀ b, b < 4 → a ≠ b → (TX6 a).2.1 ≠ (TX6 b).2.1) ∧ ri_df[6]? = some df ∧ df.length = 4 ∧ ∀ (k : Nat) (a : ri_V), df[k]? = some a → ∀ (τ : Nat → Int) (ad : List Nat), ri_gV τ ad a (defaultValue (ty0 k)) := ⟨cl_6, cw_432, cw_11, tyX6, _, tyX6_ok, nmX6, rfl, rfl, ri_dv_of rfl (by decide +kernel)⟩
theorem cl_7 : ∀ w ∈ u_ws RX7 TX7 18, w ∈ gU := List.forall_mem_cons.mpr ⟨cw_247, List.forall_mem_cons.mpr ⟨cw_249, List.forall_mem_cons.mpr ⟨cw_251, List.forall_mem_cons.mpr ⟨cw_253, List.forall_mem_cons.mpr ⟨cw_255, List.forall_mem_cons.mpr ⟨cw_257, List.forall_mem_cons.mpr ⟨cw_259, List.forall_mem_cons.mpr ⟨cw_261, List.forall_mem_cons.mpr ⟨cw_263, List.forall_mem_cons.mpr ⟨cw_265, List.forall_mem_cons.mpr ⟨cw_267, List.forall_mem_cons.mpr ⟨cw_269, List.forall_mem_cons.mpr ⟨cw_271, List.forall_mem_cons.mpr ⟨cw_273, List.forall_mem_cons.mpr ⟨cw_275, List.forall_mem_cons.mpr ⟨cw_277, List.forall_mem_cons.mpr ⟨cw_279, List.forall_mem_cons.mpr ⟨cw_281, fun _ h => absurd h List.not_mem_nil⟩⟩⟩⟩⟩⟩⟩⟩⟩⟩⟩⟩⟩⟩⟩⟩⟩⟩
set_option maxRecDepth 10000 in
theorem cok_7 : (∀ w ∈ u_ws RX7 TX7 18, w ∈ gU) ∧ Cond.instantiable RX7 18 ∈ gU ∧ Cond.initialized RX7 ∈ gU ∧ ∃ (ty0 : Nat → FieldType) (df : List ri_V), (∀ k, k < 18 → parseFieldDescriptor (TX7 k).2.2.1 = some (ty0 k)) ∧ (∀ a, a < 18 → ∀ b, b < 18 → a ≠ b → (TX7 a).2.1 ≠ (TX7 b).2.1) ∧ ri_df[7]? = some df ∧ df.length = 18 ∧ ∀ (k : Nat) (a : ri_V), df[k]? = some a → ∀ (τ : Nat → Int) (ad : List Nat), ri_gV τ ad a (defaultValue (ty0 k)) := ⟨cl_7, cw_109, cw_4, tyX7, _, tyX7_ok, nmX7, rfl, rfl, ri_dv_of rfl (by decide +kernel)⟩
theorem cl_8 : ∀ w ∈ u_ws RX8 TX8 10, w ∈ gU := List.forall_mem_cons.mpr ⟨cw_86, List.forall_mem_cons.mpr ⟨cw_88, List.forall_mem_cons.mpr ⟨cw_90, List.forall_mem_cons.mpr ⟨cw_92, List.forall_mem_cons.mpr ⟨cw_94, List.forall_mem_cons.mpr ⟨cw_96, List.forall_mem_cons.mpr ⟨cw_98, List.forall_mem_cons.mpr ⟨cw_100, List.forall_mem_cons.mpr ⟨cw_102, List.forall_mem_cons.mpr ⟨cw_104, fun _ h => absurd h List.not_mem_nil⟩⟩⟩⟩⟩⟩⟩⟩⟩⟩
set_option maxRecDepth 10000 in
theorem cok_8 : (∀ w ∈ u_ws RX8 TX8 10, w ∈ gU) ∧ Cond.instantiable RX8 10 ∈ gU ∧ Cond.initialized RX8 ∈ gU ∧ ∃ (ty0 : Nat → FieldType) (df : List ri_V), (∀ k, k < 10 → parseFieldDescriptor (TX8 k).2.2.1 = some (ty0 k)) ∧ (∀ a, a < 10 → ∀ b, b < 10 → a ≠ b → (TX8 a).2.1 ≠ (TX8 b).2.1) ∧ ri_df[8]? = some df ∧ df.length = 10 ∧ ∀ (k : Nat) (a : ri_V), df[k]? = some a → ∀ (τ : Nat → Int) (ad : List Nat), ri_gV τ ad a (defaultValue (ty0 k)) := ⟨cl_8, cw_32, cw_2, tyX8, _, tyX8_ok, nmX8, rfl, rfl, ri_dv_of rfl (by decide +kernel)⟩
theorem cl_9 : ∀ w ∈ u_ws RX9 TX9 5, w ∈ gU := List.forall_mem_cons.mpr ⟨cw_164, List.forall_mem_cons.mpr ⟨cw_166, List.forall_mem_cons.mpr ⟨cw_168, List.forall_mem_cons.mpr ⟨cw_170, List.forall_mem_cons.mpr ⟨cw_172, fun _ h => absurd h List.not_mem_nil⟩⟩⟩⟩⟩
set_option maxRecDepth 10000 in
theorem cok_9 : (∀ w ∈ u_ws RX9 TX9 5, w ∈ gU) ∧ Cond.instantiable RX9 5 ∈ gU ∧ Cond.initialized RX9 ∈ gU ∧ ∃ (ty0 : Nat → FieldType) (df : List ri_V), (∀ k, k < 5 → parseFieldDescriptor (TX9 k).2.2.1 = some (ty0 k)) ∧ (∀ a, a < 5 → ∀ b, b < 5 → a ≠ b → (TX9 a).2.1 ≠ (TX9 b).2.1) ∧ ri_df[9]? = some df ∧ df.length = 5 ∧ ∀ (k : Nat) (a : ri_V), df[k]? = some a → ∀ (τ : Nat → Int) (ad : List Nat), ri_gV τ ad a (defaultValue (ty0 k)) := ⟨cl_9, cw_148, cw_6, tyX9, _, tyX9_ok, nmX9, rfl, rfl, ri_dv_of rfl (by decide +kernel)⟩
theorem cl_10 : ∀ w ∈ u_ws RX10 TX10 11, w ∈ gU := List.forall_mem_cons.mpr ⟨cw_407, List.forall_mem_cons.mpr ⟨cw_409, List.forall_mem_cons.mpr ⟨cw_411, List.forall_mem_cons.mpr ⟨cw_413, List.forall_mem_cons.mpr ⟨cw_415, List.forall_mem_cons.mpr ⟨cw_417, List.forall_mem_cons.mpr ⟨cw_419, List.forall_mem_cons.mpr ⟨cw_421, List.forall_mem_cons.mpr ⟨cw_423, List.forall_mem_cons.mpr ⟨cw_425, List.forall_mem_cons.mpr ⟨cw_427, fun _ h => absurd h List.not_mem_nil⟩⟩⟩⟩⟩⟩⟩⟩⟩⟩⟩
set_option maxRecDepth 10000 in
theorem cok_10 : (∀ w ∈ u_ws RX10 TX10 11, w ∈ gU) ∧ Cond.instantiable RX10 11 ∈ gU ∧ Cond.initialized RX10 ∈ gU ∧ ∃ (ty0 : Nat → FieldType) (df : List ri_V), (∀ k, k < 11 → parseFieldDescriptor (TX10 k).2.2.1 = some (ty0 k)) ∧ (∀ a, a < 11 → ∀ b, b < 11 → a ≠ b → (TX10 a).2.1 ≠ (TX10 b).2.1) ∧ ri_df[10]? = some df ∧ df.length = 11 ∧ ∀ (k : Nat) (a : ri_V), df[k]? = some a → ∀ (τ : Nat → Int) (ad : List Nat), ri_gV τ ad a (defaultValue (ty0 k)) := ⟨cl_10, cw_285, cw_8, tyX10, _, tyX10_ok, nmX10, rfl, rfl, ri_dv_of rfl (by decide +kernel)⟩
theorem cl_11 : ∀ w ∈ u_ws RX11 TX11 11, w ∈ gU := List.forall_mem_cons.mpr ⟨cw_553, List.forall_mem_cons.mpr ⟨cw_555, List.forall_mem_cons.mpr ⟨cw_557, List.forall_mem_cons.mpr ⟨cw_559, List.forall_mem_cons.mpr ⟨cw_561, List.forall_mem_cons.mpr ⟨cw_563, List.forall_mem_cons.mpr ⟨cw_565, List.forall_mem_cons.mpr ⟨cw_567, List.forall_mem_cons.mpr ⟨cw_569, List.forall_mem_cons.mpr ⟨cw_571, List.forall_mem_cons.mpr ⟨cw_573, fun _ h => absurd h List.not_mem_nil⟩⟩⟩⟩⟩⟩⟩⟩⟩⟩⟩
set_option maxRecDepth 10000 in
theorem cok_11 : (∀ w ∈ u_ws RX11 TX11 11, w ∈ gU) ∧ Cond.instantiable RX11 11 ∈ gU ∧ Cond.initialized RX11 ∈ gU ∧ ∃ (ty0 : Nat → FieldType) (df : List ri_V), (∀ k, k < 11 → parseFieldDescriptor (TX11 k).2.2.1 = some (ty0 k)) ∧ (∀ a, a < 11 → ∀ b, b < 11 → a ≠ b → (TX11 a).2.1 ≠ (TX11 b).2.1) ∧ ri_df[11]? = some df ∧ df.length = 11 ∧ ∀ (k : Nat) (a : ri_V), df[k]? = some a → ∀ (τ : Nat → Int) (ad : List Nat), ri_gV τ ad a (defaultValue (ty0 k)) := ⟨cl_11, cw_24, cw_1, tyX11, _, tyX11_ok, nmX11, rfl, rfl, ri_dv_of rfl (by decide +kernel)⟩
theorem cl_12 : ∀ w ∈ u_ws RX12 TX12 113, w ∈ gU := List.forall_mem_cons.mpr ⟨cw_1499, List.forall_mem_cons.mpr ⟨cw_1501, List.forall_mem_cons.mpr ⟨cw_1503, List.forall_mem_cons.mpr ⟨cw_1505, List.forall_mem_cons.mpr ⟨cw_1507, List.forall_mem_cons.mpr ⟨cw_1509, List.forall_mem_cons.mpr ⟨cw_1511, List.forall_mem_cons.mpr ⟨cw_1513, List.forall_mem_cons.mpr ⟨cw_1515, List.forall_mem_cons.mpr ⟨cw_1517, List.forall_mem_cons.mpr ⟨cw_1519, List.forall_mem_cons.mpr ⟨cw_1521, List.forall_mem_cons.mpr ⟨cw_1523, List.forall_mem_cons.mpr ⟨cw_1525, List.forall_mem_cons.mpr ⟨cw_1527, List.forall_mem_cons.mpr ⟨cw_1529, List.forall_mem_cons.mpr ⟨cw_1531, List.forall_mem_cons.mpr ⟨cw_1533, List.forall_mem_cons.mpr ⟨cw_1535, List.forall_mem_cons.mpr ⟨cw_1537, List.forall_mem_cons.mpr ⟨cw_1539, List.forall_mem_cons.mpr ⟨cw_1541, List.forall_mem_cons.mpr ⟨cw_1543, List.forall_mem_cons.mpr ⟨cw_1545, List.forall_mem_cons.mpr ⟨cw_1547, List.forall_mem_cons.mpr ⟨cw_1549, List.forall_mem_cons.mpr ⟨cw_1551, List.forall_mem_cons.mpr ⟨cw_1553, List.forall_mem_cons.mpr ⟨cw_1555, List.forall_mem_cons.mpr ⟨cw_1557, List.forall_mem_cons.mpr ⟨cw_1559, List.forall_mem_cons.mpr ⟨cw_1561, List.forall_mem_cons.mpr ⟨cw_1563, List.forall_mem_cons.mpr ⟨cw_1565, List.forall_mem_cons.mpr ⟨cw_1567, List.forall_mem_cons.mpr ⟨cw_1569, List.forall_mem_cons.mpr ⟨cw_1571, List.forall_mem_cons.mpr ⟨cw_1573, List.forall_mem_cons.mpr ⟨cw_1575, List.forall_mem_cons.mpr ⟨cw_1577, List.forall_mem_cons.mpr ⟨cw_1579, List.forall_mem_cons.mpr ⟨cw_1581, List.forall_mem_cons.mpr ⟨cw_1583, List.forall_mem_cons.mpr ⟨cw_1585, List.forall_mem_cons.mpr ⟨cw_1587, List.forall_mem_cons.mpr ⟨cw_1589, List.forall_mem_cons.mpr ⟨cw_1591, List.forall_mem_cons.mpr ⟨cw_1593, List.forall_mem_cons.mpr ⟨cw_1595, List.forall_mem_cons.mpr ⟨cw_1597, List.forall_mem_cons.mpr ⟨cw_1599, List.forall_mem_cons.mpr ⟨cw_1601, List.forall_mem_cons.mpr ⟨cw_1603, List.forall_mem_cons.mpr ⟨cw_1605, List.forall_mem_cons.mpr ⟨cw_1607, List.forall_mem_cons.mpr ⟨cw_1609, List.forall_mem_cons.mpr ⟨cw_1611, List.forall_mem_cons.mpr ⟨cw_1613, List.forall_mem_cons.mpr ⟨cw_1615, List.forall_mem_cons.mpr ⟨cw_1617, List.forall_mem_cons.mpr ⟨cw_1619, List.forall_mem_cons.mpr ⟨cw_1621, List.forall_mem_cons.mpr ⟨cw_1623, List.forall_mem_cons.mpr ⟨cw_1625, List.forall_mem_cons.mpr ⟨cw_1627, List.forall_mem_cons.mpr ⟨cw_1629, List.forall_mem_cons.mpr ⟨cw_1631, List.forall_mem_cons.mpr ⟨cw_1633, List.forall_mem_cons.mpr ⟨cw_1635, List.forall_mem_cons.mpr ⟨cw_1637, List.forall_mem_cons.mpr ⟨cw_1639, List.forall_mem_cons.mpr ⟨cw_1641, List.forall_mem_cons.mpr ⟨cw_1643, List.forall_mem_cons.mpr ⟨cw_1645, List.forall_mem_cons.mpr ⟨cw_1647, List.forall_mem_cons.mpr ⟨cw_1649, List.forall_mem_cons.mpr ⟨cw_1651, List.forall_mem_cons.mpr ⟨cw_1653, List.forall_mem_cons.mpr ⟨cw_1655, List.forall_mem_cons.mpr ⟨cw_1657, List.forall_mem_cons.mpr ⟨cw_1659, List.forall_mem_cons.mpr ⟨cw_1661, List.forall_mem_cons.mpr ⟨cw_1663, List.forall_mem_cons.mpr ⟨cw_1665, List.forall_mem_cons.mpr ⟨cw_1667, List.forall_mem_cons.mpr ⟨cw_1669, List.forall_mem_cons.mpr ⟨cw_1671, List.forall_mem_cons.mpr ⟨cw_1673, List.forall_mem_cons.mpr ⟨cw_1675, List.forall_mem_cons.mpr ⟨cw_1677, List.forall_mem_cons.mpr ⟨cw_1679, List.forall_mem_cons.mpr ⟨cw_1681, List.forall_mem_cons.mpr ⟨cw_1683, List.forall_mem_cons.mpr ⟨cw_1685, List.forall_mem_cons.mpr ⟨cw_1687, List.forall_mem_cons.mpr ⟨cw_1689, List.forall_mem_cons.mpr ⟨cw_1691, List.forall_mem_cons.mpr ⟨cw_1693, List.forall_mem_cons.mpr ⟨cw_1695, List.forall_mem_cons.mpr ⟨cw_1697, List.forall_mem_cons.mpr ⟨cw_1699, List.forall_mem_cons.mpr ⟨cw_1701, List.forall_mem_cons.mpr ⟨cw_1703, List.forall_mem_cons.mpr ⟨cw_1705, List.forall_mem_cons.mpr ⟨cw_1707, List.forall_mem_cons.mpr ⟨cw_1709, List.forall_mem_cons.mpr ⟨cw_1711, List.forall_mem_cons.mpr ⟨cw_1713, List.forall_mem_cons.mpr ⟨cw_1715, List.forall_mem_cons.mpr ⟨cw_1717, List.forall_mem_cons.mpr ⟨cw_1719, List.forall_mem_cons.mpr ⟨cw_1721, List.forall_mem_cons.mpr ⟨cw_1723, fun _ h => absurd h List.not_mem_nil⟩⟩⟩⟩⟩⟩⟩⟩⟩⟩⟩⟩⟩⟩⟩⟩⟩⟩⟩⟩⟩⟩⟩⟩⟩⟩⟩⟩⟩⟩⟩⟩⟩⟩⟩⟩⟩⟩⟩⟩⟩⟩⟩⟩⟩⟩⟩⟩⟩⟩⟩⟩⟩⟩⟩⟩⟩⟩⟩⟩⟩⟩⟩⟩⟩⟩⟩⟩⟩⟩⟩⟩⟩⟩⟩⟩⟩⟩⟩⟩⟩⟩⟩⟩⟩⟩⟩⟩⟩⟩⟩⟩⟩⟩⟩⟩⟩⟩⟩⟩⟩⟩⟩⟩⟩⟩⟩⟩⟩⟩⟩⟩⟩
set_option maxRecDepth 10000 in
theorem cok_12 : (∀ w ∈ u_ws RX12 TX12 113, w ∈ gU) ∧ Cond.instantiable RX12 113 ∈ gU ∧ Cond.initialized RX12 ∈ gU ∧ ∃ (ty0 : Nat → FieldType) (df : List ri_V), (∀ k, k < 113 → parseFieldDescriptor (TX12 k).2.2.1 = some (ty0 k)) ∧ (∀ a, a < 113 → ∀ b, b < 113 → a ≠ b → (TX12 a).2.1 ≠ (TX12 b).2.1) ∧ ri_df[12]? = some df ∧ df.length = 113 ∧ ∀ (k : Nat) (a : ri_V), df[k]? = some a → ∀ (τ : Nat → Int) (ad : List Nat), ri_gV τ ad a (defaultValue (ty0 k)) := ⟨cl_12, cw_1373, cw_15, tyX12, _, tyX12_ok, nmX12, rfl, rfl, ri_dv_of rfl (by decide +kernel)⟩
theorem co_all : ri_clsOK := by
  intro ci C T N h
  match ci, h with
  | 0, h => cases h; exact cok_0
  | 1, h => cases h; exact cok_1
  | 2, h => cases h; exact cok_2
  | 3, h => cases h; exact cok_3
  | 4, h => cases h; exact cok_4
  | 5, h => cases h; exact cok_5
  | 6, h => cases h; exact cok_6
  | 7, h => cases h; exact cok_7
  | 8, h => cases h; exact cok_8
  | 9, h => cases h; exact cok_9
  | 10, h => cases h; exact cok_10
  | 11, h => cases h; exact cok_11
  | 12, h => cases h; exact cok_12
  | k + 13, h => simp [vwCl] at h
