def mT : List ri_MT := [(yX0_init, cX0_init, 1, none),
  (yX0_begin, cX0_begin, 2, none),
  (yX0_copyFrom, cX0_copyFrom, 2, none),
  (yX1_init, cX1_init, 1, none),
  (yX1_clear, cX1_clear, 1, none),
  (yX1_numberOn, cX1_numberOn, 2, (some .int)),
  (yX2_init, cX2_init, 1, none),
  (yX2_cell, cX2_cell, 3, (some .int)),
  (yX2_clear, cX2_clear, 1, none),
  (yX2_copyFrom, cX2_copyFrom, 2, none),
  (yX3_init, cX3_init, 1, none),
  (yX3_carOfStrand, cX3_carOfStrand, 5, (some .int)),
  (yX3_drawPower, cX3_drawPower, 7, none),
  (yX3_drawTimetable, cX3_drawTimetable, 6, none),
  (yX3_followCoast, cX3_followCoast, 8, none),
  (yX3_gapNow, cX3_gapNow, 6, (some .int)),
  (yX3_leastGapIfWaits, cX3_leastGapIfWaits, 9, (some .int)),
  (yX3_leastSpeedToRope, cX3_leastSpeedToRope, 4, (some .int)),
  (yX3_ticksTillWorn, cX3_ticksTillWorn, 6, (some .int)),
  (yX4_init, cX4_init, 1, none),
  (yX4_advance, cX4_advance, 1, none),
  (yX4_open, cX4_open, 3, none),
  (yX5_init, cX5_init, 1, none),
  (yX5_falseOnes, cX5_falseOnes, 4, (some .int)),
  (yX5_firstFalse, cX5_firstFalse, 3, (some .int)),
  (yX5_forget, cX5_forget, 1, none),
  (yX5_takeBack, cX5_takeBack, 2, (some .boolean)),
  (yX6_init, cX6_init, 1, none),
  (yX6_countBumps, cX6_countBumps, 5, none),
  (yX6_dipRopes, cX6_dipRopes, 2, none),
  (yX6_moveStrand, cX6_moveStrand, 5, none),
  (yX6_tick, cX6_tick, 5, none),
  (yX6_wearSplices, cX6_wearSplices, 3, none),
  (yX7_init, cX7_init, 2, none),
  (yX7_clear, cX7_clear, 2, none),
  (yX7_coasted, cX7_coasted, 4, (some .int)),
  (yX7_grade, cX7_grade, 2, (some .int)),
  (yX7_hasCar, cX7_hasCar, 2, (some .boolean)),
  (yX7_hasPlace, cX7_hasPlace, 3, (some .boolean)),
  (yX7_hasRope, cX7_hasRope, 2, (some .boolean)),
  (yX7_hasSplice, cX7_hasSplice, 2, (some .boolean)),
  (yX7_isSegment, cX7_isSegment, 1, (some .boolean)),
  (yX7_mark, cX7_mark, 3, (some .int)),
  (yX7_ropeOn, cX7_ropeOn, 2, (some .int)),
  (yX8_init, cX8_init, 1, none),
  (yX8_hasLine, cX8_hasLine, 1, (some .boolean)),
  (yX8_open, cX8_open, 4, none),
  (yX9_init, cX9_init, 1, none),
  (yX10_init, cX10_init, 2, none),
  (yX10_begin, cX10_begin, 3, none),
  (yX10_copyFrom, cX10_copyFrom, 3, none),
  (yX10_notDone, cX10_notDone, 4, (some .int)),
  (yX11_init, cX11_init, 2, none),
  (yX11_about, cX11_about, 2, (some .int)),
  (yX11_asks, cX11_asks, 4, (some .int)),
  (yX11_back, cX11_back, 2, (some .int)),
  (yX11_car, cX11_car, 4, (some .int)),
  (yX11_coasts, cX11_coasts, 4, (some .int)),
  (yX11_cost, cX11_cost, 5, (some .int)),
  (yX11_count, cX11_count, 2, (some .int)),
  (yX11_due, cX11_due, 2, (some .int)),
  (yX11_end, cX11_end, 2, (some .int)),
  (yX11_event, cX11_event, 3, (some .int)),
  (yX11_fault, cX11_fault, 2, (some .int)),
  (yX11_feed, cX11_feed, 6, (some .int)),
  (yX11_free, cX11_free, 2, (some .boolean)),
  (yX11_halt, cX11_halt, 5, (some .int)),
  (yX11_head, cX11_head, 2, (some .int)),
  (yX11_image, cX11_image, 2, (some .int)),
  (yX11_isAhead, cX11_isAhead, 1, (some .boolean)),
  (yX11_judge, cX11_judge, 3, (some .int)),
  (yX11_later, cX11_later, 2, (some .int)),
  (yX11_log, cX11_log, 4, (some .int)),
  (yX11_logged, cX11_logged, 3, (some .int)),
  (yX11_need, cX11_need, 2, (some .int)),
  (yX11_order, cX11_order, 3, (some .int)),
  (yX11_power, cX11_power, 3, (some .int)),
  (yX11_putBytes, cX11_putBytes, 3, none),
  (yX11_rolls, cX11_rolls, 4, (some .int)),
  (yX11_rope, cX11_rope, 3, (some .int)),
  (yX11_run, cX11_run, 3, (some .int)),
  (yX11_runaway, cX11_runaway, 3, (some .int)),
  (yX11_speed, cX11_speed, 2, (some .int)),
  (yX11_splice, cX11_splice, 3, (some .int)),
  (yX11_spread, cX11_spread, 7, (some .int)),
  (yX11_strand, cX11_strand, 3, (some .boolean)),
  (yX11_strandNow, cX11_strandNow, 2, (some .int)),
  (yX11_street, cX11_street, 4, (some .int)),
  (yX11_takes, cX11_takes, 1, (some .int)),
  (yX11_trips, cX11_trips, 2, (some .int)),
  (yX11_untell, cX11_untell, 2, (some .boolean)),
  (yX11_where, cX11_where, 5, (some .int)),
  (yX12_init, cX12_init, 2, none),
  (yX12_about, cX12_about, 2, (some .int)),
  (yX12_asks, cX12_asks, 4, (some .int)),
  (yX12_back, cX12_back, 2, (some .int)),
  (yX12_begin, cX12_begin, 2, none),
  (yX12_bring, cX12_bring, 5, none),
  (yX12_bringEvents, cX12_bringEvents, 4, none),
  (yX12_car, cX12_car, 3, (some .int)),
  (yX12_carMany, cX12_carMany, 1, (some .int)),
  (yX12_clearBank, cX12_clearBank, 2, none),
  (yX12_coast, cX12_coast, 7, none),
  (yX12_coasting, cX12_coasting, 5, (some .int)),
  (yX12_coasts, cX12_coasts, 4, (some .int)),
  (yX12_cost, cX12_cost, 6, (some .int)),
  (yX12_count, cX12_count, 2, (some .int)),
  (yX12_crossAt, cX12_crossAt, 3, (some .int)),
  (yX12_due, cX12_due, 4, (some .int)),
  (yX12_end, cX12_end, 2, (some .int)),
  (yX12_event, cX12_event, 3, (some .int)),
  (yX12_fault, cX12_fault, 2, (some .int)),
  (yX12_feed, cX12_feed, 8, (some .int)),
  (yX12_findFalse, cX12_findFalse, 3, none),
  (yX12_free, cX12_free, 2, (some .boolean)),
  (yX12_goOn, cX12_goOn, 3, none),
  (yX12_going, cX12_going, 3, (some .int)),
  (yX12_gradeAt, cX12_gradeAt, 2, (some .int)),
  (yX12_halt, cX12_halt, 4, (some .int)),
  (yX12_has, cX12_has, 3, (some .boolean)),
  (yX12_head, cX12_head, 3, (some .int)),
  (yX12_headOf, cX12_headOf, 7, (some .int)),
  (yX12_image, cX12_image, 2, (some .int)),
  (yX12_isCar, cX12_isCar, 2, (some .boolean)),
  (yX12_isGood, cX12_isGood, 1, (some .boolean)),
  (yX12_isIn, cX12_isIn, 3, (some .boolean)),
  (yX12_isPlace, cX12_isPlace, 3, (some .boolean)),
  (yX12_isRope, cX12_isRope, 2, (some .boolean)),
  (yX12_isSegment, cX12_isSegment, 1, (some .boolean)),
  (yX12_judge, cX12_judge, 6, (some .int)),
  (yX12_keep, cX12_keep, 5, none),
  (yX12_keepEvents, cX12_keepEvents, 4, none),
  (yX12_later, cX12_later, 2, (some .int)),
  (yX12_log, cX12_log, 4, (some .int)),
  (yX12_logged, cX12_logged, 5, (some .int)),
  (yX12_moveStrand, cX12_moveStrand, 4, none),
  (yX12_need, cX12_need, 3, (some .int)),
  (yX12_order, cX12_order, 7, (some .int)),
  (yX12_power, cX12_power, 8, (some .int)),
  (yX12_rolls, cX12_rolls, 3, (some .int)),
  (yX12_rope, cX12_rope, 3, (some .int)),
  (yX12_ropeAt, cX12_ropeAt, 2, (some .int)),
  (yX12_run, cX12_run, 3, (some .int)),
  (yX12_runaway, cX12_runaway, 8, (some .int)),
  (yX12_sign, cX12_sign, 2, (some .int)),
  (yX12_signOf, cX12_signOf, 1, (some .int)),
  (yX12_speed, cX12_speed, 2, (some .int)),
  (yX12_splice, cX12_splice, 4, (some .int)),
  (yX12_spread, cX12_spread, 7, (some .int)),
  (yX12_strand, cX12_strand, 3, (some .boolean)),
  (yX12_strandNow, cX12_strandNow, 2, (some .int)),
  (yX12_street, cX12_street, 2, (some .int)),
  (yX12_takes, cX12_takes, 3, (some .int)),
  (yX12_tick, cX12_tick, 4, none),
  (yX12_trips, cX12_trips, 2, (some .int)),
  (yX12_untell, cX12_untell, 2, (some .boolean)),
  (yX12_where, cX12_where, 6, (some .int)),
  (yJ6_signum_0f7a4, cJ6_signum_0f7a4, 1, (some .int)),
  (yJ7_fill_53178, cJ7_fill_53178, 4, none)]
theorem mT_0 : mT[0]? = some (yX0_init, cX0_init, 1, none) := rfl
theorem yk_0 : ri_yOK yX0_init 0 := ⟨by decide +kernel, by decide +kernel, by decide +kernel⟩
theorem mT_1 : mT[1]? = some (yX0_begin, cX0_begin, 2, none) := rfl
theorem yk_1 : ri_yOK yX0_begin 1 := ⟨by decide +kernel, by decide +kernel, by decide +kernel⟩
theorem mT_2 : mT[2]? = some (yX0_copyFrom, cX0_copyFrom, 2, none) := rfl
theorem yk_2 : ri_yOK yX0_copyFrom 1 := ⟨by decide +kernel, by decide +kernel, by decide +kernel⟩
theorem mT_3 : mT[3]? = some (yX1_init, cX1_init, 1, none) := rfl
theorem yk_3 : ri_yOK yX1_init 0 := ⟨by decide +kernel, by decide +kernel, by decide +kernel⟩
theorem mT_4 : mT[4]? = some (yX1_clear, cX1_clear, 1, none) := rfl
theorem yk_4 : ri_yOK yX1_clear 0 := ⟨by decide +kernel, by decide +kernel, by decide +kernel⟩
theorem mT_5 : mT[5]? = some (yX1_numberOn, cX1_numberOn, 2, (some .int)) := rfl
theorem yk_5 : ri_yOK yX1_numberOn 1 := ⟨by decide +kernel, by decide +kernel, by decide +kernel⟩
theorem mT_6 : mT[6]? = some (yX2_init, cX2_init, 1, none) := rfl
theorem yk_6 : ri_yOK yX2_init 0 := ⟨by decide +kernel, by decide +kernel, by decide +kernel⟩
theorem mT_7 : mT[7]? = some (yX2_cell, cX2_cell, 3, (some .int)) := rfl
theorem yk_7 : ri_yOK yX2_cell 2 := ⟨by decide +kernel, by decide +kernel, by decide +kernel⟩
theorem mT_8 : mT[8]? = some (yX2_clear, cX2_clear, 1, none) := rfl
theorem yk_8 : ri_yOK yX2_clear 0 := ⟨by decide +kernel, by decide +kernel, by decide +kernel⟩
theorem mT_9 : mT[9]? = some (yX2_copyFrom, cX2_copyFrom, 2, none) := rfl
theorem yk_9 : ri_yOK yX2_copyFrom 1 := ⟨by decide +kernel, by decide +kernel, by decide +kernel⟩
theorem mT_10 : mT[10]? = some (yX3_init, cX3_init, 1, none) := rfl
theorem yk_10 : ri_yOK yX3_init 0 := ⟨by decide +kernel, by decide +kernel, by decide +kernel⟩
theorem mT_11 : mT[11]? = some (yX3_carOfStrand, cX3_carOfStrand, 5, (some .int)) := rfl
theorem yk_11 : ri_yOK yX3_carOfStrand 2 := ⟨by decide +kernel, by decide +kernel, by decide +kernel⟩
theorem mT_12 : mT[12]? = some (yX3_drawPower, cX3_drawPower, 7, none) := rfl
theorem yk_12 : ri_yOK yX3_drawPower 3 := ⟨by decide +kernel, by decide +kernel, by decide +kernel⟩
theorem mT_13 : mT[13]? = some (yX3_drawTimetable, cX3_drawTimetable, 6, none) := rfl
theorem yk_13 : ri_yOK yX3_drawTimetable 2 := ⟨by decide +kernel, by decide +kernel, by decide +kernel⟩
theorem mT_14 : mT[14]? = some (yX3_followCoast, cX3_followCoast, 8, none) := rfl
theorem yk_14 : ri_yOK yX3_followCoast 3 := ⟨by decide +kernel, by decide +kernel, by decide +kernel⟩
theorem mT_15 : mT[15]? = some (yX3_gapNow, cX3_gapNow, 6, (some .int)) := rfl
theorem yk_15 : ri_yOK yX3_gapNow 1 := ⟨by decide +kernel, by decide +kernel, by decide +kernel⟩
theorem mT_16 : mT[16]? = some (yX3_leastGapIfWaits, cX3_leastGapIfWaits, 9, (some .int)) := rfl
theorem yk_16 : ri_yOK yX3_leastGapIfWaits 5 := ⟨by decide +kernel, by decide +kernel, by decide +kernel⟩
theorem mT_17 : mT[17]? = some (yX3_leastSpeedToRope, cX3_leastSpeedToRope, 4, (some .int)) := rfl
theorem yk_17 : ri_yOK yX3_leastSpeedToRope 2 := ⟨by decide +kernel, by decide +kernel, by decide +kernel⟩
theorem mT_18 : mT[18]? = some (yX3_ticksTillWorn, cX3_ticksTillWorn, 6, (some .int)) := rfl
theorem yk_18 : ri_yOK yX3_ticksTillWorn 3 := ⟨by decide +kernel, by decide +kernel, by decide +kernel⟩
theorem mT_19 : mT[19]? = some (yX4_init, cX4_init, 1, none) := rfl
theorem yk_19 : ri_yOK yX4_init 0 := ⟨by decide +kernel, by decide +kernel, by decide +kernel⟩
theorem mT_20 : mT[20]? = some (yX4_advance, cX4_advance, 1, none) := rfl
theorem yk_20 : ri_yOK yX4_advance 0 := ⟨by decide +kernel, by decide +kernel, by decide +kernel⟩
theorem mT_21 : mT[21]? = some (yX4_open, cX4_open, 3, none) := rfl
theorem yk_21 : ri_yOK yX4_open 2 := ⟨by decide +kernel, by decide +kernel, by decide +kernel⟩
theorem mT_22 : mT[22]? = some (yX5_init, cX5_init, 1, none) := rfl
theorem yk_22 : ri_yOK yX5_init 0 := ⟨by decide +kernel, by decide +kernel, by decide +kernel⟩
theorem mT_23 : mT[23]? = some (yX5_falseOnes, cX5_falseOnes, 4, (some .int)) := rfl
theorem yk_23 : ri_yOK yX5_falseOnes 1 := ⟨by decide +kernel, by decide +kernel, by decide +kernel⟩
theorem mT_24 : mT[24]? = some (yX5_firstFalse, cX5_firstFalse, 3, (some .int)) := rfl
theorem yk_24 : ri_yOK yX5_firstFalse 1 := ⟨by decide +kernel, by decide +kernel, by decide +kernel⟩
theorem mT_25 : mT[25]? = some (yX5_forget, cX5_forget, 1, none) := rfl
theorem yk_25 : ri_yOK yX5_forget 0 := ⟨by decide +kernel, by decide +kernel, by decide +kernel⟩
theorem mT_26 : mT[26]? = some (yX5_takeBack, cX5_takeBack, 2, (some .boolean)) := rfl
theorem yk_26 : ri_yOK yX5_takeBack 1 := ⟨by decide +kernel, by decide +kernel, by decide +kernel⟩
theorem mT_27 : mT[27]? = some (yX6_init, cX6_init, 1, none) := rfl
theorem yk_27 : ri_yOK yX6_init 0 := ⟨by decide +kernel, by decide +kernel, by decide +kernel⟩
theorem mT_28 : mT[28]? = some (yX6_countBumps, cX6_countBumps, 5, none) := rfl
theorem yk_28 : ri_yOK yX6_countBumps 0 := ⟨by decide +kernel, by decide +kernel, by decide +kernel⟩
theorem mT_29 : mT[29]? = some (yX6_dipRopes, cX6_dipRopes, 2, none) := rfl
theorem yk_29 : ri_yOK yX6_dipRopes 0 := ⟨by decide +kernel, by decide +kernel, by decide +kernel⟩
theorem mT_30 : mT[30]? = some (yX6_moveStrand, cX6_moveStrand, 5, none) := rfl
theorem yk_30 : ri_yOK yX6_moveStrand 0 := ⟨by decide +kernel, by decide +kernel, by decide +kernel⟩
theorem mT_31 : mT[31]? = some (yX6_tick, cX6_tick, 5, none) := rfl
theorem yk_31 : ri_yOK yX6_tick 2 := ⟨by decide +kernel, by decide +kernel, by decide +kernel⟩
theorem mT_32 : mT[32]? = some (yX6_wearSplices, cX6_wearSplices, 3, none) := rfl
theorem yk_32 : ri_yOK yX6_wearSplices 0 := ⟨by decide +kernel, by decide +kernel, by decide +kernel⟩
theorem mT_33 : mT[33]? = some (yX7_init, cX7_init, 2, none) := rfl
theorem yk_33 : ri_yOK yX7_init 0 := ⟨by decide +kernel, by decide +kernel, by decide +kernel⟩
theorem mT_34 : mT[34]? = some (yX7_clear, cX7_clear, 2, none) := rfl
theorem yk_34 : ri_yOK yX7_clear 0 := ⟨by decide +kernel, by decide +kernel, by decide +kernel⟩
theorem mT_35 : mT[35]? = some (yX7_coasted, cX7_coasted, 4, (some .int)) := rfl
theorem yk_35 : ri_yOK yX7_coasted 2 := ⟨by decide +kernel, by decide +kernel, by decide +kernel⟩
theorem mT_36 : mT[36]? = some (yX7_grade, cX7_grade, 2, (some .int)) := rfl
theorem yk_36 : ri_yOK yX7_grade 1 := ⟨by decide +kernel, by decide +kernel, by decide +kernel⟩
theorem mT_37 : mT[37]? = some (yX7_hasCar, cX7_hasCar, 2, (some .boolean)) := rfl
theorem yk_37 : ri_yOK yX7_hasCar 1 := ⟨by decide +kernel, by decide +kernel, by decide +kernel⟩
theorem mT_38 : mT[38]? = some (yX7_hasPlace, cX7_hasPlace, 3, (some .boolean)) := rfl
theorem yk_38 : ri_yOK yX7_hasPlace 2 := ⟨by decide +kernel, by decide +kernel, by decide +kernel⟩
theorem mT_39 : mT[39]? = some (yX7_hasRope, cX7_hasRope, 2, (some .boolean)) := rfl
theorem yk_39 : ri_yOK yX7_hasRope 1 := ⟨by decide +kernel, by decide +kernel, by decide +kernel⟩
theorem mT_40 : mT[40]? = some (yX7_hasSplice, cX7_hasSplice, 2, (some .boolean)) := rfl
theorem yk_40 : ri_yOK yX7_hasSplice 1 := ⟨by decide +kernel, by decide +kernel, by decide +kernel⟩
theorem mT_41 : mT[41]? = some (yX7_isSegment, cX7_isSegment, 1, (some .boolean)) := rfl
theorem yk_41 : ri_yOK yX7_isSegment 1 := ⟨by decide +kernel, by decide +kernel, by decide +kernel⟩
theorem mT_42 : mT[42]? = some (yX7_mark, cX7_mark, 3, (some .int)) := rfl
theorem yk_42 : ri_yOK yX7_mark 2 := ⟨by decide +kernel, by decide +kernel, by decide +kernel⟩
theorem mT_43 : mT[43]? = some (yX7_ropeOn, cX7_ropeOn, 2, (some .int)) := rfl
theorem yk_43 : ri_yOK yX7_ropeOn 1 := ⟨by decide +kernel, by decide +kernel, by decide +kernel⟩
theorem mT_44 : mT[44]? = some (yX8_init, cX8_init, 1, none) := rfl
theorem yk_44 : ri_yOK yX8_init 0 := ⟨by decide +kernel, by decide +kernel, by decide +kernel⟩
theorem mT_45 : mT[45]? = some (yX8_hasLine, cX8_hasLine, 1, (some .boolean)) := rfl
theorem yk_45 : ri_yOK yX8_hasLine 0 := ⟨by decide +kernel, by decide +kernel, by decide +kernel⟩
theorem mT_46 : mT[46]? = some (yX8_open, cX8_open, 4, none) := rfl
theorem yk_46 : ri_yOK yX8_open 3 := ⟨by decide +kernel, by decide +kernel, by decide +kernel⟩
theorem mT_47 : mT[47]? = some (yX9_init, cX9_init, 1, none) := rfl
theorem yk_47 : ri_yOK yX9_init 0 := ⟨by decide +kernel, by decide +kernel, by decide +kernel⟩
theorem mT_48 : mT[48]? = some (yX10_init, cX10_init, 2, none) := rfl
theorem yk_48 : ri_yOK yX10_init 0 := ⟨by decide +kernel, by decide +kernel, by decide +kernel⟩
theorem mT_49 : mT[49]? = some (yX10_begin, cX10_begin, 3, none) := rfl
theorem yk_49 : ri_yOK yX10_begin 1 := ⟨by decide +kernel, by decide +kernel, by decide +kernel⟩
theorem mT_50 : mT[50]? = some (yX10_copyFrom, cX10_copyFrom, 3, none) := rfl
theorem yk_50 : ri_yOK yX10_copyFrom 1 := ⟨by decide +kernel, by decide +kernel, by decide +kernel⟩
theorem mT_51 : mT[51]? = some (yX10_notDone, cX10_notDone, 4, (some .int)) := rfl
theorem yk_51 : ri_yOK yX10_notDone 1 := ⟨by decide +kernel, by decide +kernel, by decide +kernel⟩
theorem mT_52 : mT[52]? = some (yX11_init, cX11_init, 2, none) := rfl
theorem yk_52 : ri_yOK yX11_init 0 := ⟨by decide +kernel, by decide +kernel, by decide +kernel⟩
theorem mT_53 : mT[53]? = some (yX11_about, cX11_about, 2, (some .int)) := rfl
theorem yk_53 : ri_yOK yX11_about 1 := ⟨by decide +kernel, by decide +kernel, by decide +kernel⟩
theorem mT_54 : mT[54]? = some (yX11_asks, cX11_asks, 4, (some .int)) := rfl
theorem yk_54 : ri_yOK yX11_asks 2 := ⟨by decide +kernel, by decide +kernel, by decide +kernel⟩
theorem mT_55 : mT[55]? = some (yX11_back, cX11_back, 2, (some .int)) := rfl
theorem yk_55 : ri_yOK yX11_back 1 := ⟨by decide +kernel, by decide +kernel, by decide +kernel⟩
theorem mT_56 : mT[56]? = some (yX11_car, cX11_car, 4, (some .int)) := rfl
theorem yk_56 : ri_yOK yX11_car 2 := ⟨by decide +kernel, by decide +kernel, by decide +kernel⟩
theorem mT_57 : mT[57]? = some (yX11_coasts, cX11_coasts, 4, (some .int)) := rfl
theorem yk_57 : ri_yOK yX11_coasts 3 := ⟨by decide +kernel, by decide +kernel, by decide +kernel⟩
theorem mT_58 : mT[58]? = some (yX11_cost, cX11_cost, 5, (some .int)) := rfl
theorem yk_58 : ri_yOK yX11_cost 2 := ⟨by decide +kernel, by decide +kernel, by decide +kernel⟩
theorem mT_59 : mT[59]? = some (yX11_count, cX11_count, 2, (some .int)) := rfl
theorem yk_59 : ri_yOK yX11_count 1 := ⟨by decide +kernel, by decide +kernel, by decide +kernel⟩
theorem mT_60 : mT[60]? = some (yX11_due, cX11_due, 2, (some .int)) := rfl
theorem yk_60 : ri_yOK yX11_due 1 := ⟨by decide +kernel, by decide +kernel, by decide +kernel⟩
theorem mT_61 : mT[61]? = some (yX11_end, cX11_end, 2, (some .int)) := rfl
theorem yk_61 : ri_yOK yX11_end 1 := ⟨by decide +kernel, by decide +kernel, by decide +kernel⟩
theorem mT_62 : mT[62]? = some (yX11_event, cX11_event, 3, (some .int)) := rfl
theorem yk_62 : ri_yOK yX11_event 2 := ⟨by decide +kernel, by decide +kernel, by decide +kernel⟩
theorem mT_63 : mT[63]? = some (yX11_fault, cX11_fault, 2, (some .int)) := rfl
theorem yk_63 : ri_yOK yX11_fault 1 := ⟨by decide +kernel, by decide +kernel, by decide +kernel⟩
theorem mT_64 : mT[64]? = some (yX11_feed, cX11_feed, 6, (some .int)) := rfl
theorem yk_64 : ri_yOK yX11_feed 5 := ⟨by decide +kernel, by decide +kernel, by decide +kernel⟩
theorem mT_65 : mT[65]? = some (yX11_free, cX11_free, 2, (some .boolean)) := rfl
theorem yk_65 : ri_yOK yX11_free 1 := ⟨by decide +kernel, by decide +kernel, by decide +kernel⟩
theorem mT_66 : mT[66]? = some (yX11_halt, cX11_halt, 5, (some .int)) := rfl
theorem yk_66 : ri_yOK yX11_halt 1 := ⟨by decide +kernel, by decide +kernel, by decide +kernel⟩
theorem mT_67 : mT[67]? = some (yX11_head, cX11_head, 2, (some .int)) := rfl
theorem yk_67 : ri_yOK yX11_head 1 := ⟨by decide +kernel, by decide +kernel, by decide +kernel⟩
theorem mT_68 : mT[68]? = some (yX11_image, cX11_image, 2, (some .int)) := rfl
theorem yk_68 : ri_yOK yX11_image 1 := ⟨by decide +kernel, by decide +kernel, by decide +kernel⟩
theorem mT_69 : mT[69]? = some (yX11_isAhead, cX11_isAhead, 1, (some .boolean)) := rfl
theorem yk_69 : ri_yOK yX11_isAhead 1 := ⟨by decide +kernel, by decide +kernel, by decide +kernel⟩
theorem mT_70 : mT[70]? = some (yX11_judge, cX11_judge, 3, (some .int)) := rfl
theorem yk_70 : ri_yOK yX11_judge 2 := ⟨by decide +kernel, by decide +kernel, by decide +kernel⟩
theorem mT_71 : mT[71]? = some (yX11_later, cX11_later, 2, (some .int)) := rfl
theorem yk_71 : ri_yOK yX11_later 1 := ⟨by decide +kernel, by decide +kernel, by decide +kernel⟩
theorem mT_72 : mT[72]? = some (yX11_log, cX11_log, 4, (some .int)) := rfl
theorem yk_72 : ri_yOK yX11_log 3 := ⟨by decide +kernel, by decide +kernel, by decide +kernel⟩
theorem mT_73 : mT[73]? = some (yX11_logged, cX11_logged, 3, (some .int)) := rfl
theorem yk_73 : ri_yOK yX11_logged 2 := ⟨by decide +kernel, by decide +kernel, by decide +kernel⟩
theorem mT_74 : mT[74]? = some (yX11_need, cX11_need, 2, (some .int)) := rfl
theorem yk_74 : ri_yOK yX11_need 1 := ⟨by decide +kernel, by decide +kernel, by decide +kernel⟩
theorem mT_75 : mT[75]? = some (yX11_order, cX11_order, 3, (some .int)) := rfl
theorem yk_75 : ri_yOK yX11_order 1 := ⟨by decide +kernel, by decide +kernel, by decide +kernel⟩
theorem mT_76 : mT[76]? = some (yX11_power, cX11_power, 3, (some .int)) := rfl
theorem yk_76 : ri_yOK yX11_power 2 := ⟨by decide +kernel, by decide +kernel, by decide +kernel⟩
theorem mT_77 : mT[77]? = some (yX11_putBytes, cX11_putBytes, 3, none) := rfl
theorem yk_77 : ri_yOK yX11_putBytes 1 := ⟨by decide +kernel, by decide +kernel, by decide +kernel⟩
theorem mT_78 : mT[78]? = some (yX11_rolls, cX11_rolls, 4, (some .int)) := rfl
theorem yk_78 : ri_yOK yX11_rolls 0 := ⟨by decide +kernel, by decide +kernel, by decide +kernel⟩
theorem mT_79 : mT[79]? = some (yX11_rope, cX11_rope, 3, (some .int)) := rfl
theorem yk_79 : ri_yOK yX11_rope 2 := ⟨by decide +kernel, by decide +kernel, by decide +kernel⟩
theorem mT_80 : mT[80]? = some (yX11_run, cX11_run, 3, (some .int)) := rfl
theorem yk_80 : ri_yOK yX11_run 1 := ⟨by decide +kernel, by decide +kernel, by decide +kernel⟩
theorem mT_81 : mT[81]? = some (yX11_runaway, cX11_runaway, 3, (some .int)) := rfl
theorem yk_81 : ri_yOK yX11_runaway 2 := ⟨by decide +kernel, by decide +kernel, by decide +kernel⟩
theorem mT_82 : mT[82]? = some (yX11_speed, cX11_speed, 2, (some .int)) := rfl
theorem yk_82 : ri_yOK yX11_speed 1 := ⟨by decide +kernel, by decide +kernel, by decide +kernel⟩
theorem mT_83 : mT[83]? = some (yX11_splice, cX11_splice, 3, (some .int)) := rfl
theorem yk_83 : ri_yOK yX11_splice 2 := ⟨by decide +kernel, by decide +kernel, by decide +kernel⟩
theorem mT_84 : mT[84]? = some (yX11_spread, cX11_spread, 7, (some .int)) := rfl
theorem yk_84 : ri_yOK yX11_spread 2 := ⟨by decide +kernel, by decide +kernel, by decide +kernel⟩
theorem mT_85 : mT[85]? = some (yX11_strand, cX11_strand, 3, (some .boolean)) := rfl
theorem yk_85 : ri_yOK yX11_strand 2 := ⟨by decide +kernel, by decide +kernel, by decide +kernel⟩
theorem mT_86 : mT[86]? = some (yX11_strandNow, cX11_strandNow, 2, (some .int)) := rfl
theorem yk_86 : ri_yOK yX11_strandNow 1 := ⟨by decide +kernel, by decide +kernel, by decide +kernel⟩
theorem mT_87 : mT[87]? = some (yX11_street, cX11_street, 4, (some .int)) := rfl
theorem yk_87 : ri_yOK yX11_street 0 := ⟨by decide +kernel, by decide +kernel, by decide +kernel⟩
theorem mT_88 : mT[88]? = some (yX11_takes, cX11_takes, 1, (some .int)) := rfl
theorem yk_88 : ri_yOK yX11_takes 0 := ⟨by decide +kernel, by decide +kernel, by decide +kernel⟩
theorem mT_89 : mT[89]? = some (yX11_trips, cX11_trips, 2, (some .int)) := rfl
theorem yk_89 : ri_yOK yX11_trips 1 := ⟨by decide +kernel, by decide +kernel, by decide +kernel⟩
theorem mT_90 : mT[90]? = some (yX11_untell, cX11_untell, 2, (some .boolean)) := rfl
theorem yk_90 : ri_yOK yX11_untell 1 := ⟨by decide +kernel, by decide +kernel, by decide +kernel⟩
theorem mT_91 : mT[91]? = some (yX11_where, cX11_where, 5, (some .int)) := rfl
theorem yk_91 : ri_yOK yX11_where 3 := ⟨by decide +kernel, by decide +kernel, by decide +kernel⟩
theorem mT_92 : mT[92]? = some (yX12_init, cX12_init, 2, none) := rfl
theorem yk_92 : ri_yOK yX12_init 0 := ⟨by decide +kernel, by decide +kernel, by decide +kernel⟩
theorem mT_93 : mT[93]? = some (yX12_about, cX12_about, 2, (some .int)) := rfl
theorem yk_93 : ri_yOK yX12_about 1 := ⟨by decide +kernel, by decide +kernel, by decide +kernel⟩
theorem mT_94 : mT[94]? = some (yX12_asks, cX12_asks, 4, (some .int)) := rfl
theorem yk_94 : ri_yOK yX12_asks 2 := ⟨by decide +kernel, by decide +kernel, by decide +kernel⟩
theorem mT_95 : mT[95]? = some (yX12_back, cX12_back, 2, (some .int)) := rfl
theorem yk_95 : ri_yOK yX12_back 1 := ⟨by decide +kernel, by decide +kernel, by decide +kernel⟩
theorem mT_96 : mT[96]? = some (yX12_begin, cX12_begin, 2, none) := rfl
theorem yk_96 : ri_yOK yX12_begin 0 := ⟨by decide +kernel, by decide +kernel, by decide +kernel⟩
theorem mT_97 : mT[97]? = some (yX12_bring, cX12_bring, 5, none) := rfl
theorem yk_97 : ri_yOK yX12_bring 1 := ⟨by decide +kernel, by decide +kernel, by decide +kernel⟩
theorem mT_98 : mT[98]? = some (yX12_bringEvents, cX12_bringEvents, 4, none) := rfl
theorem yk_98 : ri_yOK yX12_bringEvents 1 := ⟨by decide +kernel, by decide +kernel, by decide +kernel⟩
theorem mT_99 : mT[99]? = some (yX12_car, cX12_car, 3, (some .int)) := rfl
theorem yk_99 : ri_yOK yX12_car 2 := ⟨by decide +kernel, by decide +kernel, by decide +kernel⟩
theorem mT_100 : mT[100]? = some (yX12_carMany, cX12_carMany, 1, (some .int)) := rfl
theorem yk_100 : ri_yOK yX12_carMany 0 := ⟨by decide +kernel, by decide +kernel, by decide +kernel⟩
theorem mT_101 : mT[101]? = some (yX12_clearBank, cX12_clearBank, 2, none) := rfl
theorem yk_101 : ri_yOK yX12_clearBank 0 := ⟨by decide +kernel, by decide +kernel, by decide +kernel⟩
theorem mT_102 : mT[102]? = some (yX12_coast, cX12_coast, 7, none) := rfl
theorem yk_102 : ri_yOK yX12_coast 2 := ⟨by decide +kernel, by decide +kernel, by decide +kernel⟩
theorem mT_103 : mT[103]? = some (yX12_coasting, cX12_coasting, 5, (some .int)) := rfl
theorem yk_103 : ri_yOK yX12_coasting 2 := ⟨by decide +kernel, by decide +kernel, by decide +kernel⟩
theorem mT_104 : mT[104]? = some (yX12_coasts, cX12_coasts, 4, (some .int)) := rfl
theorem yk_104 : ri_yOK yX12_coasts 3 := ⟨by decide +kernel, by decide +kernel, by decide +kernel⟩
theorem mT_105 : mT[105]? = some (yX12_cost, cX12_cost, 6, (some .int)) := rfl
theorem yk_105 : ri_yOK yX12_cost 2 := ⟨by decide +kernel, by decide +kernel, by decide +kernel⟩
theorem mT_106 : mT[106]? = some (yX12_count, cX12_count, 2, (some .int)) := rfl
theorem yk_106 : ri_yOK yX12_count 1 := ⟨by decide +kernel, by decide +kernel, by decide +kernel⟩
theorem mT_107 : mT[107]? = some (yX12_crossAt, cX12_crossAt, 3, (some .int)) := rfl
theorem yk_107 : ri_yOK yX12_crossAt 1 := ⟨by decide +kernel, by decide +kernel, by decide +kernel⟩
theorem mT_108 : mT[108]? = some (yX12_due, cX12_due, 4, (some .int)) := rfl
theorem yk_108 : ri_yOK yX12_due 1 := ⟨by decide +kernel, by decide +kernel, by decide +kernel⟩
theorem mT_109 : mT[109]? = some (yX12_end, cX12_end, 2, (some .int)) := rfl
theorem yk_109 : ri_yOK yX12_end 1 := ⟨by decide +kernel, by decide +kernel, by decide +kernel⟩
theorem mT_110 : mT[110]? = some (yX12_event, cX12_event, 3, (some .int)) := rfl
theorem yk_110 : ri_yOK yX12_event 2 := ⟨by decide +kernel, by decide +kernel, by decide +kernel⟩
theorem mT_111 : mT[111]? = some (yX12_fault, cX12_fault, 2, (some .int)) := rfl
theorem yk_111 : ri_yOK yX12_fault 1 := ⟨by decide +kernel, by decide +kernel, by decide +kernel⟩
theorem mT_112 : mT[112]? = some (yX12_feed, cX12_feed, 8, (some .int)) := rfl
theorem yk_112 : ri_yOK yX12_feed 5 := ⟨by decide +kernel, by decide +kernel, by decide +kernel⟩
theorem mT_113 : mT[113]? = some (yX12_findFalse, cX12_findFalse, 3, none) := rfl
theorem yk_113 : ri_yOK yX12_findFalse 0 := ⟨by decide +kernel, by decide +kernel, by decide +kernel⟩
theorem mT_114 : mT[114]? = some (yX12_free, cX12_free, 2, (some .boolean)) := rfl
theorem yk_114 : ri_yOK yX12_free 1 := ⟨by decide +kernel, by decide +kernel, by decide +kernel⟩
theorem mT_115 : mT[115]? = some (yX12_goOn, cX12_goOn, 3, none) := rfl
theorem yk_115 : ri_yOK yX12_goOn 0 := ⟨by decide +kernel, by decide +kernel, by decide +kernel⟩
theorem mT_116 : mT[116]? = some (yX12_going, cX12_going, 3, (some .int)) := rfl
theorem yk_116 : ri_yOK yX12_going 0 := ⟨by decide +kernel, by decide +kernel, by decide +kernel⟩
theorem mT_117 : mT[117]? = some (yX12_gradeAt, cX12_gradeAt, 2, (some .int)) := rfl
theorem yk_117 : ri_yOK yX12_gradeAt 1 := ⟨by decide +kernel, by decide +kernel, by decide +kernel⟩
theorem mT_118 : mT[118]? = some (yX12_halt, cX12_halt, 4, (some .int)) := rfl
theorem yk_118 : ri_yOK yX12_halt 1 := ⟨by decide +kernel, by decide +kernel, by decide +kernel⟩
theorem mT_119 : mT[119]? = some (yX12_has, cX12_has, 3, (some .boolean)) := rfl
theorem yk_119 : ri_yOK yX12_has 2 := ⟨by decide +kernel, by decide +kernel, by decide +kernel⟩
theorem mT_120 : mT[120]? = some (yX12_head, cX12_head, 3, (some .int)) := rfl
theorem yk_120 : ri_yOK yX12_head 1 := ⟨by decide +kernel, by decide +kernel, by decide +kernel⟩
theorem mT_121 : mT[121]? = some (yX12_headOf, cX12_headOf, 7, (some .int)) := rfl
theorem yk_121 : ri_yOK yX12_headOf 1 := ⟨by decide +kernel, by decide +kernel, by decide +kernel⟩
theorem mT_122 : mT[122]? = some (yX12_image, cX12_image, 2, (some .int)) := rfl
theorem yk_122 : ri_yOK yX12_image 1 := ⟨by decide +kernel, by decide +kernel, by decide +kernel⟩
theorem mT_123 : mT[123]? = some (yX12_isCar, cX12_isCar, 2, (some .boolean)) := rfl
theorem yk_123 : ri_yOK yX12_isCar 1 := ⟨by decide +kernel, by decide +kernel, by decide +kernel⟩
theorem mT_124 : mT[124]? = some (yX12_isGood, cX12_isGood, 1, (some .boolean)) := rfl
theorem yk_124 : ri_yOK yX12_isGood 0 := ⟨by decide +kernel, by decide +kernel, by decide +kernel⟩
theorem mT_125 : mT[125]? = some (yX12_isIn, cX12_isIn, 3, (some .boolean)) := rfl
theorem yk_125 : ri_yOK yX12_isIn 3 := ⟨by decide +kernel, by decide +kernel, by decide +kernel⟩
theorem mT_126 : mT[126]? = some (yX12_isPlace, cX12_isPlace, 3, (some .boolean)) := rfl
theorem yk_126 : ri_yOK yX12_isPlace 2 := ⟨by decide +kernel, by decide +kernel, by decide +kernel⟩
theorem mT_127 : mT[127]? = some (yX12_isRope, cX12_isRope, 2, (some .boolean)) := rfl
theorem yk_127 : ri_yOK yX12_isRope 1 := ⟨by decide +kernel, by decide +kernel, by decide +kernel⟩
theorem mT_128 : mT[128]? = some (yX12_isSegment, cX12_isSegment, 1, (some .boolean)) := rfl
theorem yk_128 : ri_yOK yX12_isSegment 1 := ⟨by decide +kernel, by decide +kernel, by decide +kernel⟩
theorem mT_129 : mT[129]? = some (yX12_judge, cX12_judge, 6, (some .int)) := rfl
theorem yk_129 : ri_yOK yX12_judge 2 := ⟨by decide +kernel, by decide +kernel, by decide +kernel⟩
theorem mT_130 : mT[130]? = some (yX12_keep, cX12_keep, 5, none) := rfl
theorem yk_130 : ri_yOK yX12_keep 1 := ⟨by decide +kernel, by decide +kernel, by decide +kernel⟩
theorem mT_131 : mT[131]? = some (yX12_keepEvents, cX12_keepEvents, 4, none) := rfl
theorem yk_131 : ri_yOK yX12_keepEvents 1 := ⟨by decide +kernel, by decide +kernel, by decide +kernel⟩
theorem mT_132 : mT[132]? = some (yX12_later, cX12_later, 2, (some .int)) := rfl
theorem yk_132 : ri_yOK yX12_later 1 := ⟨by decide +kernel, by decide +kernel, by decide +kernel⟩
theorem mT_133 : mT[133]? = some (yX12_log, cX12_log, 4, (some .int)) := rfl
theorem yk_133 : ri_yOK yX12_log 3 := ⟨by decide +kernel, by decide +kernel, by decide +kernel⟩
theorem mT_134 : mT[134]? = some (yX12_logged, cX12_logged, 5, (some .int)) := rfl
theorem yk_134 : ri_yOK yX12_logged 2 := ⟨by decide +kernel, by decide +kernel, by decide +kernel⟩
theorem mT_135 : mT[135]? = some (yX12_moveStrand, cX12_moveStrand, 4, none) := rfl
theorem yk_135 : ri_yOK yX12_moveStrand 0 := ⟨by decide +kernel, by decide +kernel, by decide +kernel⟩
theorem mT_136 : mT[136]? = some (yX12_need, cX12_need, 3, (some .int)) := rfl
theorem yk_136 : ri_yOK yX12_need 1 := ⟨by decide +kernel, by decide +kernel, by decide +kernel⟩
theorem mT_137 : mT[137]? = some (yX12_order, cX12_order, 7, (some .int)) := rfl
theorem yk_137 : ri_yOK yX12_order 1 := ⟨by decide +kernel, by decide +kernel, by decide +kernel⟩
theorem mT_138 : mT[138]? = some (yX12_power, cX12_power, 8, (some .int)) := rfl
theorem yk_138 : ri_yOK yX12_power 2 := ⟨by decide +kernel, by decide +kernel, by decide +kernel⟩
theorem mT_139 : mT[139]? = some (yX12_rolls, cX12_rolls, 3, (some .int)) := rfl
theorem yk_139 : ri_yOK yX12_rolls 0 := ⟨by decide +kernel, by decide +kernel, by decide +kernel⟩
theorem mT_140 : mT[140]? = some (yX12_rope, cX12_rope, 3, (some .int)) := rfl
theorem yk_140 : ri_yOK yX12_rope 2 := ⟨by decide +kernel, by decide +kernel, by decide +kernel⟩
theorem mT_141 : mT[141]? = some (yX12_ropeAt, cX12_ropeAt, 2, (some .int)) := rfl
theorem yk_141 : ri_yOK yX12_ropeAt 1 := ⟨by decide +kernel, by decide +kernel, by decide +kernel⟩
theorem mT_142 : mT[142]? = some (yX12_run, cX12_run, 3, (some .int)) := rfl
theorem yk_142 : ri_yOK yX12_run 1 := ⟨by decide +kernel, by decide +kernel, by decide +kernel⟩
theorem mT_143 : mT[143]? = some (yX12_runaway, cX12_runaway, 8, (some .int)) := rfl
theorem yk_143 : ri_yOK yX12_runaway 2 := ⟨by decide +kernel, by decide +kernel, by decide +kernel⟩
theorem mT_144 : mT[144]? = some (yX12_sign, cX12_sign, 2, (some .int)) := rfl
theorem yk_144 : ri_yOK yX12_sign 1 := ⟨by decide +kernel, by decide +kernel, by decide +kernel⟩
theorem mT_145 : mT[145]? = some (yX12_signOf, cX12_signOf, 1, (some .int)) := rfl
theorem yk_145 : ri_yOK yX12_signOf 1 := ⟨by decide +kernel, by decide +kernel, by decide +kernel⟩
theorem mT_146 : mT[146]? = some (yX12_speed, cX12_speed, 2, (some .int)) := rfl
theorem yk_146 : ri_yOK yX12_speed 1 := ⟨by decide +kernel, by decide +kernel, by decide +kernel⟩
theorem mT_147 : mT[147]? = some (yX12_splice, cX12_splice, 4, (some .int)) := rfl
theorem yk_147 : ri_yOK yX12_splice 2 := ⟨by decide +kernel, by decide +kernel, by decide +kernel⟩
theorem mT_148 : mT[148]? = some (yX12_spread, cX12_spread, 7, (some .int)) := rfl
theorem yk_148 : ri_yOK yX12_spread 2 := ⟨by decide +kernel, by decide +kernel, by decide +kernel⟩
theorem mT_149 : mT[149]? = some (yX12_strand, cX12_strand, 3, (some .boolean)) := rfl
theorem yk_149 : ri_yOK yX12_strand 2 := ⟨by decide +kernel, by decide +kernel, by decide +kernel⟩
theorem mT_150 : mT[150]? = some (yX12_strandNow, cX12_strandNow, 2, (some .int)) := rfl
theorem yk_150 : ri_yOK yX12_strandNow 1 := ⟨by decide +kernel, by decide +kernel, by decide +kernel⟩
theorem mT_151 : mT[151]? = some (yX12_street, cX12_street, 2, (some .int)) := rfl
theorem yk_151 : ri_yOK yX12_street 0 := ⟨by decide +kernel, by decide +kernel, by decide +kernel⟩
theorem mT_152 : mT[152]? = some (yX12_takes, cX12_takes, 3, (some .int)) := rfl
theorem yk_152 : ri_yOK yX12_takes 0 := ⟨by decide +kernel, by decide +kernel, by decide +kernel⟩
theorem mT_153 : mT[153]? = some (yX12_tick, cX12_tick, 4, none) := rfl
theorem yk_153 : ri_yOK yX12_tick 0 := ⟨by decide +kernel, by decide +kernel, by decide +kernel⟩
theorem mT_154 : mT[154]? = some (yX12_trips, cX12_trips, 2, (some .int)) := rfl
theorem yk_154 : ri_yOK yX12_trips 1 := ⟨by decide +kernel, by decide +kernel, by decide +kernel⟩
theorem mT_155 : mT[155]? = some (yX12_untell, cX12_untell, 2, (some .boolean)) := rfl
theorem yk_155 : ri_yOK yX12_untell 1 := ⟨by decide +kernel, by decide +kernel, by decide +kernel⟩
theorem mT_156 : mT[156]? = some (yX12_where, cX12_where, 6, (some .int)) := rfl
theorem yk_156 : ri_yOK yX12_where 3 := ⟨by decide +kernel, by decide +kernel, by decide +kernel⟩
theorem mT_157 : mT[157]? = some (yJ6_signum_0f7a4, cJ6_signum_0f7a4, 1, (some .int)) := rfl
theorem yk_157 : ri_yOK yJ6_signum_0f7a4 1 := ⟨by decide +kernel, by decide +kernel, by decide +kernel⟩
theorem mT_158 : mT[158]? = some (yJ7_fill_53178, cJ7_fill_53178, 4, none) := rfl
theorem yk_158 : ri_yOK yJ7_fill_53178 2 := ⟨by decide +kernel, by decide +kernel, by decide +kernel⟩
theorem ao_all : ri_arrOK := ⟨cw_147, cw_311, cw_73, cw_107, cw_535, cw_534, cw_14, cw_29, cw_30, cw_605, cw_602, cw_16, cw_606, cw_603⟩
def ri_dvB (a : ri_V) (ty : FieldType) : Bool := match a with
  | .inl x => (match ty with
    | .int => decide (x = (0, 0, 0))
    | .boolean => decide (x = (0, 0, 0))
    | _ => false)
  | .inr (.inl none) => (match ty with
    | .object _ => true
    | .array _ => true
    | _ => false)
  | .inr (.inl (some _)) => false
  | .inr (.inr _) => (match ty with
    | .long => true
    | _ => false)
theorem ri_dvB_ok {a : ri_V} {ty : FieldType} (h : ri_dvB a ty = true) (τ : Nat → Int) (ad : List Nat) : ri_gV τ ad a (defaultValue ty) := by
  rcases a with x | (_ | x) | x
  · cases ty <;> first | (cases h; done) | (have e : x = (0, 0, 0) := of_decide_eq_true h; subst e; exact ri_gV_0 τ ad)
  · cases ty <;> first | (cases h; done) | rfl
  · cases h
  · cases ty <;> first | (cases h; done) | exact ⟨0, rfl⟩
theorem ri_dv_of {df : List ri_V} {N : Nat} {ty : Nat → FieldType} (hl : df.length = N) (h : ∀ k, k < N → (match df[k]? with
  | some a => ri_dvB a (ty k)
  | none => false) = true) : ∀ (k : Nat) (a : ri_V), df[k]? = some a → ∀ (τ : Nat → Int) (ad : List Nat), ri_gV τ ad a (defaultValue (ty k)) := by
  intro k a ha τ ad
  have hk : k < N := by rw [← hl]; exact (List.getElem?_eq_some_iff.mp ha).1
  have := h k hk
  rw [ha] at this
  exact ri_dvB_ok this τ ad
theorem cl_0 : ∀ w ∈ u_ws RX0 TX0 11, w ∈ gU := List.forall_mem_cons.mpr ⟨cw_348, List.forall_mem_cons.mpr ⟨cw_350, List.forall_mem_cons.mpr ⟨cw_352, List.forall_mem_cons.mpr ⟨cw_354, List.forall_mem_cons.mpr ⟨cw_356, List.forall_mem_cons.mpr ⟨cw_358, List.forall_mem_cons.mpr ⟨cw_360, List.forall_mem_cons.mpr ⟨cw_362, List.forall_mem_cons.mpr ⟨cw_364, List.forall_mem_cons.mpr ⟨cw_366, List.forall_mem_cons.mpr ⟨cw_368, fun _ h => absurd h List.not_mem_nil⟩⟩⟩⟩⟩⟩⟩⟩⟩⟩⟩
set_option maxRecDepth 10000 in
theorem cok_0 : (∀ w ∈ u_ws RX0 TX0 11, w ∈ gU) ∧ Cond.instantiable RX0 11 ∈ gU ∧ Cond.initialized RX0 ∈ gU ∧ ∃ (ty0 : Nat → FieldType) (df : List ri_V), (∀ k, k < 11 → parseFieldDescriptor (TX0 k).2.2.1 = some (ty0 k)) ∧ (∀ a, a < 11 → ∀ b, b < 11 → a ≠ b → (TX0 a).2.1 ≠ (TX0 b).2.1) ∧ ri_df[0]? = some df ∧ df.length = 11 ∧ ∀ (k : Nat) (a : ri_V), df[k]? = some a → ∀ (τ : Nat → Int) (ad : List Nat), ri_gV τ ad a (defaultValue (ty0 k)) := ⟨cl_0, cw_312, cw_10, tyX0, _, tyX0_ok, nmX0, rfl, rfl, ri_dv_of rfl (by decide +kernel)⟩
theorem cl_1 : ∀ w ∈ u_ws RX1 TX1 6, w ∈ gU := List.forall_mem_cons.mpr ⟨cw_134, List.forall_mem_cons.mpr ⟨cw_136, List.forall_mem_cons.mpr ⟨cw_138, List.forall_mem_cons.mpr ⟨cw_140, List.forall_mem_cons.mpr ⟨cw_142, List.forall_mem_cons.mpr ⟨cw_144, fun _ h => absurd h List.not_mem_nil⟩⟩⟩⟩⟩⟩
set_option maxRecDepth 10000 in
theorem cok_1 : (∀ w ∈ u_ws RX1 TX1 6, w ∈ gU) ∧ Cond.instantiable RX1 6 ∈ gU ∧ Cond.initialized RX1 ∈ gU ∧ ∃ (ty0 : Nat → FieldType) (df : List ri_V), (∀ k, k < 6 → parseFieldDescriptor (TX1 k).2.2.1 = some (ty0 k)) ∧ (∀ a, a < 6 → ∀ b, b < 6 → a ≠ b → (TX1 a).2.1 ≠ (TX1 b).2.1) ∧ ri_df[1]? = some df ∧ df.length = 6 ∧ ∀ (k : Nat) (a : ri_V), df[k]? = some a → ∀ (τ : Nat → Int) (ad : List Nat), ri_gV τ ad a (defaultValue (ty0 k)) := ⟨cl_1, cw_119, cw_5, tyX1, _, tyX1_ok, nmX1, rfl, rfl, ri_dv_of rfl (by decide +kernel)⟩
theorem cl_2 : ∀ w ∈ u_ws RX2 TX2 3, w ∈ gU := List.forall_mem_cons.mpr ⟨cw_304, List.forall_mem_cons.mpr ⟨cw_306, List.forall_mem_cons.mpr ⟨cw_308, fun _ h => absurd h List.not_mem_nil⟩⟩⟩
set_option maxRecDepth 10000 in
theorem cok_2 : (∀ w ∈ u_ws RX2 TX2 3, w ∈ gU) ∧ Cond.instantiable RX2 3 ∈ gU ∧ Cond.initialized RX2 ∈ gU ∧ ∃ (ty0 : Nat → FieldType) (df : List ri_V), (∀ k, k < 3 → parseFieldDescriptor (TX2 k).2.2.1 = some (ty0 k)) ∧ (∀ a, a < 3 → ∀ b, b < 3 → a ≠ b → (TX2 a).2.1 ≠ (TX2 b).2.1) ∧ ri_df[2]? = some df ∧ df.length = 3 ∧ ∀ (k : Nat) (a : ri_V), df[k]? = some a → ∀ (τ : Nat → Int) (ad : List Nat), ri_gV τ ad a (defaultValue (ty0 k)) := ⟨cl_2, cw_293, cw_9, tyX2, _, tyX2_ok, nmX2, rfl, rfl, ri_dv_of rfl (by decide +kernel)⟩
theorem cl_3 : ∀ w ∈ u_ws RX3 TX3 7, w ∈ gU := List.forall_mem_cons.mpr ⟨cw_472, List.forall_mem_cons.mpr ⟨cw_474, List.forall_mem_cons.mpr ⟨cw_476, List.forall_mem_cons.mpr ⟨cw_478, List.forall_mem_cons.mpr ⟨cw_480, List.forall_mem_cons.mpr ⟨cw_482, List.forall_mem_cons.mpr ⟨cw_484, fun _ h => absurd h List.not_mem_nil⟩⟩⟩⟩⟩⟩⟩
set_option maxRecDepth 10000 in
theorem cok_3 : (∀ w ∈ u_ws RX3 TX3 7, w ∈ gU) ∧ Cond.instantiable RX3 7 ∈ gU ∧ Cond.initialized RX3 ∈ gU ∧ ∃ (ty0 : Nat → FieldType) (df : List ri_V), (∀ k, k < 7 → parseFieldDescriptor (TX3 k).2.2.1 = some (ty0 k)) ∧ (∀ a, a < 7 → ∀ b, b < 7 → a ≠ b → (TX3 a).2.1 ≠ (TX3 b).2.1) ∧ ri_df[3]? = some df ∧ df.length = 7 ∧ ∀ (k : Nat) (a : ri_V), df[k]? = some a → ∀ (τ : Nat → Int) (ad : List Nat), ri_gV τ ad a (defaultValue (ty0 k)) := ⟨cl_3, cw_451, cw_12, tyX3, _, tyX3_ok, nmX3, rfl, rfl, ri_dv_of rfl (by decide +kernel)⟩
theorem cl_4 : ∀ w ∈ u_ws RX4 TX4 8, w ∈ gU := List.forall_mem_cons.mpr ⟨cw_56, List.forall_mem_cons.mpr ⟨cw_58, List.forall_mem_cons.mpr ⟨cw_60, List.forall_mem_cons.mpr ⟨cw_62, List.forall_mem_cons.mpr ⟨cw_64, List.forall_mem_cons.mpr ⟨cw_66, List.forall_mem_cons.mpr ⟨cw_68, List.forall_mem_cons.mpr ⟨cw_70, fun _ h => absurd h List.not_mem_nil⟩⟩⟩⟩⟩⟩⟩⟩
set_option maxRecDepth 10000 in
theorem cok_4 : (∀ w ∈ u_ws RX4 TX4 8, w ∈ gU) ∧ Cond.instantiable RX4 8 ∈ gU ∧ Cond.initialized RX4 ∈ gU ∧ ∃ (ty0 : Nat → FieldType) (df : List ri_V), (∀ k, k < 8 → parseFieldDescriptor (TX4 k).2.2.1 = some (ty0 k)) ∧ (∀ a, a < 8 → ∀ b, b < 8 → a ≠ b → (TX4 a).2.1 ≠ (TX4 b).2.1) ∧ ri_df[4]? = some df ∧ df.length = 8 ∧ ∀ (k : Nat) (a : ri_V), df[k]? = some a → ∀ (τ : Nat → Int) (ad : List Nat), ri_gV τ ad a (defaultValue (ty0 k)) := ⟨cl_4, cw_38, cw_3, tyX4, _, tyX4_ok, nmX4, rfl, rfl, ri_dv_of rfl (by decide +kernel)⟩
theorem cl_5 : ∀ w ∈ u_ws RX5 TX5 9, w ∈ gU := List.forall_mem_cons.mpr ⟨cw_506, List.forall_mem_cons.mpr ⟨cw_508, List.forall_mem_cons.mpr ⟨cw_510, List.forall_mem_cons.mpr ⟨cw_512, List.forall_mem_cons.mpr ⟨cw_514, List.forall_mem_cons.mpr ⟨cw_516, List.forall_mem_cons.mpr ⟨cw_518, List.forall_mem_cons.mpr ⟨cw_520, List.forall_mem_cons.mpr ⟨cw_522, fun _ h => absurd h List.not_mem_nil⟩⟩⟩⟩⟩⟩⟩⟩⟩
set_option maxRecDepth 10000 in
theorem cok_5 : (∀ w ∈ u_ws RX5 TX5 9, w ∈ gU) ∧ Cond.instantiable RX5 9 ∈ gU ∧ Cond.initialized RX5 ∈ gU ∧ ∃ (ty0 : Nat → FieldType) (df : List ri_V), (∀ k, k < 9 → parseFieldDescriptor (TX5 k).2.2.1 = some (ty0 k)) ∧ (∀ a, a < 9 → ∀ b, b < 9 → a ≠ b → (TX5 a).2.1 ≠ (TX5 b).2.1) ∧ ri_df[5]? = some df ∧ df.length = 9 ∧ ∀ (k : Nat) (a : ri_V), df[k]? = some a → ∀ (τ : Nat → Int) (ad : List Nat), ri_gV τ ad a (defaultValue (ty0 k)) := ⟨cl_5, cw_488, cw_13, tyX5, _, tyX5_ok, nmX5, rfl, rfl, ri_dv_of rfl (by decide +kernel)⟩
theorem cl_6 : ∀ w ∈ u_ws RX6 TX6 4, w ∈ gU := List.forall_mem_cons.mpr ⟨cw_441, List.forall_mem_cons.mpr ⟨cw_443, List.forall_mem_cons.mpr ⟨cw_445, List.forall_mem_cons.mpr ⟨cw_447, fun _ h => absurd h List.not_mem_nil⟩⟩⟩⟩
set_option maxRecDepth 10000 in
theorem cok_6 : (∀ w ∈ u_ws RX6 TX6 4, w ∈ gU) ∧ Cond.instantiable RX6 4 ∈ gU ∧ Cond.initialized RX6 ∈ gU ∧ ∃ (ty0 : Nat → FieldType) (df : List ri_V), (∀ k, k < 4 → parseFieldDescriptor (TX6 k).2.2.1 = some (ty0 k)) ∧ (∀ a, a < 4 → ∀ b, b < 4 → a ≠ b → (TX6 a).2.1 ≠ (TX6 b).2.1) ∧ ri_df[6]? = some df ∧ df.length = 4 ∧ ∀ (k : Nat) (a : ri_V), df[k]? = some a → ∀ (τ : Nat → Int) (ad : List Nat), ri_gV τ ad a (defaultValue (ty0 k)) := ⟨cl_6, cw_432, cw_11, tyX6, _, tyX6_ok, nmX6, rfl, rfl, ri_dv_of rfl (by decide +kernel)⟩
theorem cl_7 : ∀ w ∈ u_ws RX7 TX7 18, w ∈ gU := List.forall_mem_cons.mpr ⟨cw_247, List.forall_mem_cons.mpr ⟨cw_249, List.forall_mem_cons.mpr ⟨cw_251, List.forall_mem_cons.mpr ⟨cw_253, List.forall_mem_cons.mpr ⟨cw_255, List.forall_mem_cons.mpr ⟨cw_257, List.forall_mem_cons.mpr ⟨cw_259, List.forall_mem_cons.mpr ⟨cw_261, List.forall_mem_cons.mpr ⟨cw_263, List.forall_mem_cons.mpr ⟨cw_265, List.forall_mem_cons.mpr ⟨cw_267, List.forall_mem_cons.mpr ⟨cw_269, List.forall_mem_cons.mpr ⟨cw_271, List.forall_mem_cons.mpr ⟨cw_273, List.forall_mem_cons.mpr ⟨cw_275, List.forall_mem_cons.mpr ⟨cw_277, List.forall_mem_cons.mpr ⟨cw_279, List.forall_mem_cons.mpr ⟨cw_281, fun _ h => absurd h List.not_mem_nil⟩⟩⟩⟩⟩⟩⟩⟩⟩⟩⟩⟩⟩⟩⟩⟩⟩⟩
set_option maxRecDepth 10000 in
theorem cok_7 : (∀ w ∈ u_ws RX7 TX7 18, w ∈ gU) ∧ Cond.instantiable RX7 18 ∈ gU ∧ Cond.initialized RX7 ∈ gU ∧ ∃ (ty0 : Nat → FieldType) (df : List ri_V), (∀ k, k < 18 → parseFieldDescriptor (TX7 k).2.2.1 = some (ty0 k)) ∧ (∀ a, a < 18 → ∀ b, b < 18 → a ≠ b → (TX7 a).2.1 ≠ (TX7 b).2.1) ∧ ri_df[7]? = some df ∧ df.length = 18 ∧ ∀ (k : Nat) (a : ri_V), df[k]? = some a → ∀ (τ : Nat → Int) (ad : List Nat), ri_gV τ ad a (defaultValue (ty0 k)) := ⟨cl_7, cw_109, cw_4, tyX7, _, tyX7_ok, nmX7, rfl, rfl, ri_dv_of rfl (by decide +kernel)⟩
theorem cl_8 : ∀ w ∈ u_ws RX8 TX8 10, w ∈ gU := List.forall_mem_cons.mpr ⟨cw_86, List.forall_mem_cons.mpr ⟨cw_88, List.forall_mem_cons.mpr ⟨cw_90, List.forall_mem_cons.mpr ⟨cw_92, List.forall_mem_cons.mpr ⟨cw_94, List.forall_mem_cons.mpr ⟨cw_96, List.forall_mem_cons.mpr ⟨cw_98, List.forall_mem_cons.mpr ⟨cw_100, List.forall_mem_cons.mpr ⟨cw_102, List.forall_mem_cons.mpr ⟨cw_104, fun _ h => absurd h List.not_mem_nil⟩⟩⟩⟩⟩⟩⟩⟩⟩⟩
set_option maxRecDepth 10000 in
theorem cok_8 : (∀ w ∈ u_ws RX8 TX8 10, w ∈ gU) ∧ Cond.instantiable RX8 10 ∈ gU ∧ Cond.initialized RX8 ∈ gU ∧ ∃ (ty0 : Nat → FieldType) (df : List ri_V), (∀ k, k < 10 → parseFieldDescriptor (TX8 k).2.2.1 = some (ty0 k)) ∧ (∀ a, a < 10 → ∀ b, b < 10 → a ≠ b → (TX8 a).2.1 ≠ (TX8 b).2.1) ∧ ri_df[8]? = some df ∧ df.length = 10 ∧ ∀ (k : Nat) (a : ri_V), df[k]? = some a → ∀ (τ : Nat → Int) (ad : List Nat), ri_gV τ ad a (defaultValue (ty0 k)) := ⟨cl_8, cw_32, cw_2, tyX8, _, tyX8_ok, nmX8, rfl, rfl, ri_dv_of rfl (by decide +kernel)⟩
theorem cl_9 : ∀ w ∈ u_ws RX9 TX9 5, w ∈ gU := List.forall_mem_cons.mpr ⟨cw_164, List.forall_mem_cons.mpr ⟨cw_166, List.forall_mem_cons.mpr ⟨cw_168, List.forall_mem_cons.mpr ⟨cw_170, List.forall_mem_cons.mpr ⟨cw_172, fun _ h => absurd h List.not_mem_nil⟩⟩⟩⟩⟩
set_option maxRecDepth 10000 in
theorem cok_9 : (∀ w ∈ u_ws RX9 TX9 5, w ∈ gU) ∧ Cond.instantiable RX9 5 ∈ gU ∧ Cond.initialized RX9 ∈ gU ∧ ∃ (ty0 : Nat → FieldType) (df : List ri_V), (∀ k, k < 5 → parseFieldDescriptor (TX9 k).2.2.1 = some (ty0 k)) ∧ (∀ a, a < 5 → ∀ b, b < 5 → a ≠ b → (TX9 a).2.1 ≠ (TX9 b).2.1) ∧ ri_df[9]? = some df ∧ df.length = 5 ∧ ∀ (k : Nat) (a : ri_V), df[k]? = some a → ∀ (τ : Nat → Int) (ad : List Nat), ri_gV τ ad a (defaultValue (ty0 k)) := ⟨cl_9, cw_148, cw_6, tyX9, _, tyX9_ok, nmX9, rfl, rfl, ri_dv_of rfl (by decide +kernel)⟩
theorem cl_10 : ∀ w ∈ u_ws RX10 TX10 11, w ∈ gU := List.forall_mem_cons.mpr ⟨cw_407, List.forall_mem_cons.mpr ⟨cw_409, List.forall_mem_cons.mpr ⟨cw_411, List.forall_mem_cons.mpr ⟨cw_413, List.forall_mem_cons.mpr ⟨cw_415, List.forall_mem_cons.mpr ⟨cw_417, List.forall_mem_cons.mpr ⟨cw_419, List.forall_mem_cons.mpr ⟨cw_421, List.forall_mem_cons.mpr ⟨cw_423, List.forall_mem_cons.mpr ⟨cw_425, List.forall_mem_cons.mpr ⟨cw_427, fun _ h => absurd h List.not_mem_nil⟩⟩⟩⟩⟩⟩⟩⟩⟩⟩⟩
set_option maxRecDepth 10000 in
theorem cok_10 : (∀ w ∈ u_ws RX10 TX10 11, w ∈ gU) ∧ Cond.instantiable RX10 11 ∈ gU ∧ Cond.initialized RX10 ∈ gU ∧ ∃ (ty0 : Nat → FieldType) (df : List ri_V), (∀ k, k < 11 → parseFieldDescriptor (TX10 k).2.2.1 = some (ty0 k)) ∧ (∀ a, a < 11 → ∀ b, b < 11 → a ≠ b → (TX10 a).2.1 ≠ (TX10 b).2.1) ∧ ri_df[10]? = some df ∧ df.length = 11 ∧ ∀ (k : Nat) (a : ri_V), df[k]? = some a → ∀ (τ : Nat → Int) (ad : List Nat), ri_gV τ ad a (defaultValue (ty0 k)) := ⟨cl_10, cw_285, cw_8, tyX10, _, tyX10_ok, nmX10, rfl, rfl, ri_dv_of rfl (by decide +kernel)⟩
theorem cl_11 : ∀ w ∈ u_ws RX11 TX11 11, w ∈ gU := List.forall_mem_cons.mpr ⟨cw_553, List.forall_mem_cons.mpr ⟨cw_555, List.forall_mem_cons.mpr ⟨cw_557, List.forall_mem_cons.mpr ⟨cw_559, List.forall_mem_cons.mpr ⟨cw_561, List.forall_mem_cons.mpr ⟨cw_563, List.forall_mem_cons.mpr ⟨cw_565, List.forall_mem_cons.mpr ⟨cw_567, List.forall_mem_cons.mpr ⟨cw_569, List.forall_mem_cons.mpr ⟨cw_571, List.forall_mem_cons.mpr ⟨cw_573, fun _ h => absurd h List.not_mem_nil⟩⟩⟩⟩⟩⟩⟩⟩⟩⟩⟩
set_option maxRecDepth 10000 in
theorem cok_11 : (∀ w ∈ u_ws RX11 TX11 11, w ∈ gU) ∧ Cond.instantiable RX11 11 ∈ gU ∧ Cond.initialized RX11 ∈ gU ∧ ∃ (ty0 : Nat → FieldType) (df : List ri_V), (∀ k, k < 11 → parseFieldDescriptor (TX11 k).2.2.1 = some (ty0 k)) ∧ (∀ a, a < 11 → ∀ b, b < 11 → a ≠ b → (TX11 a).2.1 ≠ (TX11 b).2.1) ∧ ri_df[11]? = some df ∧ df.length = 11 ∧ ∀ (k : Nat) (a : ri_V), df[k]? = some a → ∀ (τ : Nat → Int) (ad : List Nat), ri_gV τ ad a (defaultValue (ty0 k)) := ⟨cl_11, cw_24, cw_1, tyX11, _, tyX11_ok, nmX11, rfl, rfl, ri_dv_of rfl (by decide +kernel)⟩
theorem cl_12 : ∀ w ∈ u_ws RX12 TX12 113, w ∈ gU := List.forall_mem_cons.mpr ⟨cw_1499, List.forall_mem_cons.mpr ⟨cw_1501, List.forall_mem_cons.mpr ⟨cw_1503, List.forall_mem_cons.mpr ⟨cw_1505, List.forall_mem_cons.mpr ⟨cw_1507, List.forall_mem_cons.mpr ⟨cw_1509, List.forall_mem_cons.mpr ⟨cw_1511, List.forall_mem_cons.mpr ⟨cw_1513, List.forall_mem_cons.mpr ⟨cw_1515, List.forall_mem_cons.mpr ⟨cw_1517, List.forall_mem_cons.mpr ⟨cw_1519, List.forall_mem_cons.mpr ⟨cw_1521, List.forall_mem_cons.mpr ⟨cw_1523, List.forall_mem_cons.mpr ⟨cw_1525, List.forall_mem_cons.mpr ⟨cw_1527, List.forall_mem_cons.mpr ⟨cw_1529, List.forall_mem_cons.mpr ⟨cw_1531, List.forall_mem_cons.mpr ⟨cw_1533, List.forall_mem_cons.mpr ⟨cw_1535, List.forall_mem_cons.mpr ⟨cw_1537, List.forall_mem_cons.mpr ⟨cw_1539, List.forall_mem_cons.mpr ⟨cw_1541, List.forall_mem_cons.mpr ⟨cw_1543, List.forall_mem_cons.mpr ⟨cw_1545, List.forall_mem_cons.mpr ⟨cw_1547, List.forall_mem_cons.mpr ⟨cw_1549, List.forall_mem_cons.mpr ⟨cw_1551, List.forall_mem_cons.mpr ⟨cw_1553, List.forall_mem_cons.mpr ⟨cw_1555, List.forall_mem_cons.mpr ⟨cw_1557, List.forall_mem_cons.mpr ⟨cw_1559, List.forall_mem_cons.mpr ⟨cw_1561, List.forall_mem_cons.mpr ⟨cw_1563, List.forall_mem_cons.mpr ⟨cw_1565, List.forall_mem_cons.mpr ⟨cw_1567, List.forall_mem_cons.mpr ⟨cw_1569, List.forall_mem_cons.mpr ⟨cw_1571, List.forall_mem_cons.mpr ⟨cw_1573, List.forall_mem_cons.mpr ⟨cw_1575, List.forall_mem_cons.mpr ⟨cw_1577, List.forall_mem_cons.mpr ⟨cw_1579, List.forall_mem_cons.mpr ⟨cw_1581, List.forall_mem_cons.mpr ⟨cw_1583, List.forall_mem_cons.mpr ⟨cw_1585, List.forall_mem_cons.mpr ⟨cw_1587, List.forall_mem_cons.mpr ⟨cw_1589, List.forall_mem_cons.mpr ⟨cw_1591, List.forall_mem_cons.mpr ⟨cw_1593, List.forall_mem_cons.mpr ⟨cw_1595, List.forall_mem_cons.mpr ⟨cw_1597, List.forall_mem_cons.mpr ⟨cw_1599, List.forall_mem_cons.mpr ⟨cw_1601, List.forall_mem_cons.mpr ⟨cw_1603, List.forall_mem_cons.mpr ⟨cw_1605, List.forall_mem_cons.mpr ⟨cw_1607, List.forall_mem_cons.mpr ⟨cw_1609, List.forall_mem_cons.mpr ⟨cw_1611, List.forall_mem_cons.mpr ⟨cw_1613, List.forall_mem_cons.mpr ⟨cw_1615, List.forall_mem_cons.mpr ⟨cw_1617, List.forall_mem_cons.mpr ⟨cw_1619, List.forall_mem_cons.mpr ⟨cw_1621, List.forall_mem_cons.mpr ⟨cw_1623, List.forall_mem_cons.mpr ⟨cw_1625, List.forall_mem_cons.mpr ⟨cw_1627, List.forall_mem_cons.mpr ⟨cw_1629, List.forall_mem_cons.mpr ⟨cw_1631, List.forall_mem_cons.mpr ⟨cw_1633, List.forall_mem_cons.mpr ⟨cw_1635, List.forall_mem_cons.mpr ⟨cw_1637, List.forall_mem_cons.mpr ⟨cw_1639, List.forall_mem_cons.mpr ⟨cw_1641, List.forall_mem_cons.mpr ⟨cw_1643, List.forall_mem_cons.mpr ⟨cw_1645, List.forall_mem_cons.mpr ⟨cw_1647, List.forall_mem_cons.mpr ⟨cw_1649, List.forall_mem_cons.mpr ⟨cw_1651, List.forall_mem_cons.mpr ⟨cw_1653, List.forall_mem_cons.mpr ⟨cw_1655, List.forall_mem_cons.mpr ⟨cw_1657, List.forall_mem_cons.mpr ⟨cw_1659, List.forall_mem_cons.mpr ⟨cw_1661, List.forall_mem_cons.mpr ⟨cw_1663, List.forall_mem_cons.mpr ⟨cw_1665, List.forall_mem_cons.mpr ⟨cw_1667, List.forall_mem_cons.mpr ⟨cw_1669, List.forall_mem_cons.mpr ⟨cw_1671, List.forall_mem_cons.mpr ⟨cw_1673, List.forall_mem_cons.mpr ⟨cw_1675, List.forall_mem_cons.mpr ⟨cw_1677, List.forall_mem_cons.mpr ⟨cw_1679, List.forall_mem_cons.mpr ⟨cw_1681, List.forall_mem_cons.mpr ⟨cw_1683, List.forall_mem_cons.mpr ⟨cw_1685, List.forall_mem_cons.mpr ⟨cw_1687, List.forall_mem_cons.mpr ⟨cw_1689, List.forall_mem_cons.mpr ⟨cw_1691, List.forall_mem_cons.mpr ⟨cw_1693, List.forall_mem_cons.mpr ⟨cw_1695, List.forall_mem_cons.mpr ⟨cw_1697, List.forall_mem_cons.mpr ⟨cw_1699, List.forall_mem_cons.mpr ⟨cw_1701, List.forall_mem_cons.mpr ⟨cw_1703, List.forall_mem_cons.mpr ⟨cw_1705, List.forall_mem_cons.mpr ⟨cw_1707, List.forall_mem_cons.mpr ⟨cw_1709, List.forall_mem_cons.mpr ⟨cw_1711, List.forall_mem_cons.mpr ⟨cw_1713, List.forall_mem_cons.mpr ⟨cw_1715, List.forall_mem_cons.mpr ⟨cw_1717, List.forall_mem_cons.mpr ⟨cw_1719, List.forall_mem_cons.mpr ⟨cw_1721, List.forall_mem_cons.mpr ⟨cw_1723, fun _ h => absurd h List.not_mem_nil⟩⟩⟩⟩⟩⟩⟩⟩⟩⟩⟩⟩⟩⟩⟩⟩⟩⟩⟩⟩⟩⟩⟩⟩⟩⟩⟩⟩⟩⟩⟩⟩⟩⟩⟩⟩⟩⟩⟩⟩⟩⟩⟩⟩⟩⟩⟩⟩⟩⟩⟩⟩⟩⟩⟩⟩⟩⟩⟩⟩⟩⟩⟩⟩⟩⟩⟩⟩⟩⟩⟩⟩⟩⟩⟩⟩⟩⟩⟩⟩⟩⟩⟩⟩⟩⟩⟩⟩⟩⟩⟩⟩⟩⟩⟩⟩⟩⟩⟩⟩⟩⟩⟩⟩⟩⟩⟩⟩⟩⟩⟩⟩⟩
set_option maxRecDepth 10000 in
theorem cok_12 : (∀ w ∈ u_ws RX12 TX12 113, w ∈ gU) ∧ Cond.instantiable RX12 113 ∈ gU ∧ Cond.initialized RX12 ∈ gU ∧ ∃ (ty0 : Nat → FieldType) (df : List ri_V), (∀ k, k < 113 → parseFieldDescriptor (TX12 k).2.2.1 = some (ty0 k)) ∧ (∀ a, a < 113 → ∀ b, b < 113 → a ≠ b → (TX12 a).2.1 ≠ (TX12 b).2.1) ∧ ri_df[12]? = some df ∧ df.length = 113 ∧ ∀ (k : Nat) (a : ri_V), df[k]? = some a → ∀ (τ : Nat → Int) (ad : List Nat), ri_gV τ ad a (defaultValue (ty0 k)) := ⟨cl_12, cw_1373, cw_15, tyX12, _, tyX12_ok, nmX12, rfl, rfl, ri_dv_of rfl (by decide +kernel)⟩
theorem co_all : ri_clsOK := by
  intro ci C T N h
  match ci, h with
  | 0, h => cases h; exact cok_0
  | 1, h => cases h; exact cok_1
  | 2, h => cases h; exact cok_2
  | 3, h => cases h; exact cok_3
  | 4, h => cases h; exact cok_4
  | 5, h => cases h; exact cok_5
  | 6, h => cases h; exact cok_6
  | 7, h => cases h; exact cok_7
  | 8, h => cases h; exact cok_8
  | 9, h => cases h; exact cok_9
  | 10, h => cases h; exact cok_10
  | 11, h => cases h; exact cok_11
  | 12, h => cases h; exact cok_12
  | k + 13, h => simp [vwCl] at h
