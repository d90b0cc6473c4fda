/-! what the tables must say of an entry: its decoding, its words, its resolved numbers -/
def zx_cds : List (List zx_I) := [zc_X0_init, zc_X0_refuses, zc_X0_refuse, zc_X0_refusesLengths, zc_X0_refusesStation, zc_X0_refusesTrain, zc_X0_refusesOrder, zc_X0_carryOut, zc_X0_makeLine, zc_X0_changeStation, zc_X0_addTrain, zc_X0_addOrder, zc_X1_init, zc_X2_init, zc_X2_copyFrom, zc_X2_exists, zc_X2_hasStation, zc_X2_hasBlock, zc_X2_trainWith, zc_X2_removeOrder, zc_X2_advance, zc_X2_countMinute, zc_X2_endRuns, zc_X2_admitTrains, zc_X2_bringInto, zc_X2_endReliefs, zc_X2_dispatchTrains, zc_X2_enter, zc_X2_beginRelief, zc_X2_rank, zc_X2_isAhead, zc_X2_obstacleOf, zc_X2_isCrewAlone, zc_X2_overHours, zc_X2_minutesFor, zc_X2_slowMinutes, zc_X2_occupant, zc_X2_takenTracks, zc_X2_hasFreeTrack, zc_X2_trainsIn, zc_X2_trainsThatAre, zc_X2_longestStay, zc_X2_allWaiting, zc_X2_isQuiet, zc_X2_reasonFor, zc_X2_numberFor, zc_X2_rivalOf, zc_X2_holder, zc_X2_conflictsIn, zc_X2_isConflict, zc_X2_minutesOfWay, zc_X3_init, zc_X3_make, zc_X3_takeRow, zc_X3_minuteFor, zc_X3_deviations, zc_X3_deviates, zc_X4_init, zc_X4_keep, zc_X4_numberAt, zc_X5_init, zc_X5_copyFrom, zc_X6_init, zc_X6_copyFrom, zc_X7_init, zc_X7_copyFrom, zc_X8_init, zc_X8_append, zc_X8_readText, zc_X8_readCommand, zc_X8_readLengths, zc_X8_readStation, zc_X8_readTrain, zc_X8_readOrder, zc_X8_readBound, zc_X8_peek, zc_X8_take, zc_X8_readDigit, zc_X8_readNumber, zc_X9_init, zc_X9_begin, zc_X9_changeTo, zc_X9_copyFrom, zc_X9_property, zc_X9_isInStation, zc_X9_isCounted, zc_X9_nextBlock, zc_X9_nextStation, zc_X9_takesTrackOf, zc_X9_entered, zc_X9_left, zc_X9_note, zc_X9_allSpent, zc_X10_init, zc_X10_feed, zc_X10_execute, zc_X10_refusal, zc_X10_relief, zc_X10_cancel, zc_X10_lift, zc_X10_pass, zc_X10_train, zc_X10_station, zc_X10_block, zc_X10_why, zc_X10_order, zc_X10_plan, zc_X10_timetable, zc_X10_drift, zc_X10_ahead, zc_X10_held, zc_X10_conflicts, zc_X10_account, zc_X10_image, zc_X10_undo, zc_X10_count, zc_X10_isByte, zc_X10_isMinutes, zc_X10_isKind, zc_X10_carryOutCommands, zc_X11_init, zc_X11_isIn, zc_X11_isStation, zc_X11_isBlock, zc_X11_isTrain, zc_X11_at, zc_X11_set, zc_X11_isUp, zc_X11_blockFrom, zc_X11_stationBehind, zc_X11_isInStation, zc_X11_goal, zc_X11_taken, zc_X11_hasTrack, zc_X11_trainIn, zc_X11_slowness, zc_X11_minutesFor, zc_X11_isWayFree, zc_X11_overtime, zc_X11_mayRun, zc_X11_isAhead, zc_X11_sortTrains, zc_X11_order, zc_X11_become, zc_X11_comeIn, zc_X11_account, zc_X11_arrive, zc_X11_enter, zc_X11_relieve, zc_X11_minute, zc_X11_pass, zc_X11_feed, zc_X11_sign, zc_X11_faultHere, zc_X11_goes, zc_X11_must, zc_X11_keepNumber, zc_X11_digit, zc_X11_readNumber, zc_X11_readCommand, zc_X11_readRest, zc_X11_refuse, zc_X11_makeLine, zc_X11_equip, zc_X11_bring, zc_X11_bringTrain, zc_X11_slow, zc_X11_bound, zc_X11_carryOut, zc_X11_go, zc_X11_execute, zc_X11_copy, zc_X11_refusal, zc_X11_relief, zc_X11_cancel, zc_X11_lift, zc_X11_train, zc_X11_station, zc_X11_block, zc_X11_whyOutside, zc_X11_firstAhead, zc_X11_whyStanding, zc_X11_why, zc_X11_tryMinutes, zc_X11_happened, zc_X11_plan, zc_X11_timetable, zc_X11_drift, zc_X11_counted, zc_X11_isStill, zc_X11_ahead, zc_X11_entered, zc_X11_left, zc_X11_held, zc_X11_conflicts, zc_X11_needed, zc_X11_account_, zc_X11_image, zc_X11_undo, zc_X11_longestStay, zc_X11_count]
def zx_mt : List (MethodName × ByteArray × Nat × Option FieldType × Nat × Nat × Nat) := [(yX0_init, cX0_init, 1, none, 0, 1, 2131),
  (yX0_refuses, cX0_refuses, 3, some (.boolean), 0, 3, 6023),
  (yX0_refuse, cX0_refuse, 3, some (.boolean), 0, 3, 6031),
  (yX0_refusesLengths, cX0_refusesLengths, 4, some (.boolean), 0, 2, 6027),
  (yX0_refusesStation, cX0_refusesStation, 4, some (.boolean), 0, 3, 6035),
  (yX0_refusesTrain, cX0_refusesTrain, 3, some (.boolean), 0, 3, 6055),
  (yX0_refusesOrder, cX0_refusesOrder, 3, some (.boolean), 0, 3, 6059),
  (yX0_carryOut, cX0_carryOut, 3, none, 0, 3, 6071),
  (yX0_makeLine, cX0_makeLine, 4, none, 0, 3, 6075),
  (yX0_changeStation, cX0_changeStation, 3, none, 0, 3, 6079),
  (yX0_addTrain, cX0_addTrain, 3, none, 0, 3, 6083),
  (yX0_addOrder, cX0_addOrder, 4, none, 0, 3, 6095),
  (yX1_init, cX1_init, 1, none, 1, 1, 2034),
  (yX2_init, cX2_init, 2, none, 2, 1, 2168),
  (yX2_copyFrom, cX2_copyFrom, 3, none, 2, 2, 6000),
  (yX2_exists, cX2_exists, 1, some (.boolean), 2, 1, 6039),
  (yX2_hasStation, cX2_hasStation, 2, some (.boolean), 2, 2, 6043),
  (yX2_hasBlock, cX2_hasBlock, 2, some (.boolean), 2, 2, 6063),
  (yX2_trainWith, cX2_trainWith, 2, some ((.object "LineDispatcher$Train")), 2, 2, 6116),
  (yX2_removeOrder, cX2_removeOrder, 3, none, 2, 2, 6125),
  (yX2_advance, cX2_advance, 3, none, 2, 2, 6137),
  (yX2_countMinute, cX2_countMinute, 3, none, 2, 1, 6141),
  (yX2_endRuns, cX2_endRuns, 3, none, 2, 1, 6150),
  (yX2_admitTrains, cX2_admitTrains, 3, none, 2, 1, 6164),
  (yX2_bringInto, cX2_bringInto, 3, none, 2, 3, 6154),
  (yX2_endReliefs, cX2_endReliefs, 3, none, 2, 1, 6173),
  (yX2_dispatchTrains, cX2_dispatchTrains, 4, none, 2, 1, 6177),
  (yX2_enter, cX2_enter, 4, none, 2, 3, 6217),
  (yX2_beginRelief, cX2_beginRelief, 3, none, 2, 2, 6225),
  (yX2_rank, cX2_rank, 3, none, 2, 1, 6181),
  (yX2_isAhead, cX2_isAhead, 5, some (.boolean), 2, 3, 6185),
  (yX2_obstacleOf, cX2_obstacleOf, 3, some (.int), 2, 2, 6189),
  (yX2_isCrewAlone, cX2_isCrewAlone, 3, some (.boolean), 2, 3, 6221),
  (yX2_overHours, cX2_overHours, 2, some (.int), 2, 2, 6205),
  (yX2_minutesFor, cX2_minutesFor, 3, some (.int), 2, 3, 6209),
  (yX2_slowMinutes, cX2_slowMinutes, 5, some (.int), 2, 2, 6213),
  (yX2_occupant, cX2_occupant, 3, some (.int), 2, 2, 6201),
  (yX2_takenTracks, cX2_takenTracks, 4, some (.int), 2, 2, 6047),
  (yX2_hasFreeTrack, cX2_hasFreeTrack, 2, some (.boolean), 2, 2, 6168),
  (yX2_trainsIn, cX2_trainsIn, 4, some (.int), 2, 2, 8006),
  (yX2_trainsThatAre, cX2_trainsThatAre, 4, some (.int), 2, 2, 8082),
  (yX2_longestStay, cX2_longestStay, 3, some (.int), 2, 1, 8150),
  (yX2_allWaiting, cX2_allWaiting, 3, some (.int), 2, 1, 8086),
  (yX2_isQuiet, cX2_isQuiet, 4, some (.boolean), 2, 1, 8090),
  (yX2_reasonFor, cX2_reasonFor, 3, some (.int), 2, 2, 8025),
  (yX2_numberFor, cX2_numberFor, 3, some (.int), 2, 3, 8033),
  (yX2_rivalOf, cX2_rivalOf, 4, some (.int), 2, 2, 8029),
  (yX2_holder, cX2_holder, 5, some (.int), 2, 3, 8098),
  (yX2_conflictsIn, cX2_conflictsIn, 5, some (.int), 2, 2, 8115),
  (yX2_isConflict, cX2_isConflict, 6, some (.boolean), 2, 4, 8119),
  (yX2_minutesOfWay, cX2_minutesOfWay, 6, some (.int), 2, 2, 8134),
  (yX3_init, cX3_init, 1, none, 3, 1, 2146),
  (yX3_make, cX3_make, 7, some (.int), 3, 4, 8046),
  (yX3_takeRow, cX3_takeRow, 8, some (.int), 3, 4, 8051),
  (yX3_minuteFor, cX3_minuteFor, 4, some (.int), 3, 4, 8062),
  (yX3_deviations, cX3_deviations, 6, some (.int), 3, 2, 8070),
  (yX3_deviates, cX3_deviates, 6, some (.boolean), 3, 4, 8074),
  (yX4_init, cX4_init, 1, none, 4, 1, 2117),
  (yX4_keep, cX4_keep, 4, none, 4, 4, 6067),
  (yX4_numberAt, cX4_numberAt, 2, some (.int), 4, 2, 6104),
  (yX5_init, cX5_init, 1, none, 5, 1, 2205),
  (yX5_copyFrom, cX5_copyFrom, 2, none, 5, 2, 6008),
  (yX6_init, cX6_init, 1, none, 6, 1, 2229),
  (yX6_copyFrom, cX6_copyFrom, 2, none, 6, 2, 6012),
  (yX7_init, cX7_init, 1, none, 7, 1, 2181),
  (yX7_copyFrom, cX7_copyFrom, 2, none, 7, 2, 6004),
  (yX8_init, cX8_init, 2, none, 8, 1, 2027),
  (yX8_append, cX8_append, 2, none, 8, 2, 4184),
  (yX8_readText, cX8_readText, 2, some (.boolean), 8, 1, 4192),
  (yX8_readCommand, cX8_readCommand, 2, some (.boolean), 8, 2, 4196),
  (yX8_readLengths, cX8_readLengths, 3, some (.boolean), 8, 2, 4204),
  (yX8_readStation, cX8_readStation, 2, some (.boolean), 8, 2, 4220),
  (yX8_readTrain, cX8_readTrain, 2, some (.boolean), 8, 2, 4224),
  (yX8_readOrder, cX8_readOrder, 2, some (.boolean), 8, 2, 4228),
  (yX8_readBound, cX8_readBound, 2, some (.boolean), 8, 2, 4232),
  (yX8_peek, cX8_peek, 1, some (.int), 8, 1, 4200),
  (yX8_take, cX8_take, 2, some (.boolean), 8, 2, 4216),
  (yX8_readDigit, cX8_readDigit, 3, some (.int), 8, 2, 4212),
  (yX8_readNumber, cX8_readNumber, 4, some (.int), 8, 1, 4208),
  (yX9_init, cX9_init, 1, none, 9, 1, 4015),
  (yX9_begin, cX9_begin, 3, none, 9, 2, 6087),
  (yX9_changeTo, cX9_changeTo, 3, none, 9, 3, 6091),
  (yX9_copyFrom, cX9_copyFrom, 2, none, 9, 2, 6016),
  (yX9_property, cX9_property, 2, some (.int), 9, 2, 6236),
  (yX9_isInStation, cX9_isInStation, 1, some (.boolean), 9, 1, 8010),
  (yX9_isCounted, cX9_isCounted, 2, some (.boolean), 9, 2, 6145),
  (yX9_nextBlock, cX9_nextBlock, 1, some (.int), 9, 1, 6197),
  (yX9_nextStation, cX9_nextStation, 1, some (.int), 9, 1, 6193),
  (yX9_takesTrackOf, cX9_takesTrackOf, 2, some (.boolean), 9, 2, 6051),
  (yX9_entered, cX9_entered, 3, some (.int), 9, 2, 8102),
  (yX9_left, cX9_left, 3, some (.int), 9, 2, 8106),
  (yX9_note, cX9_note, 4, none, 9, 4, 6159),
  (yX9_allSpent, cX9_allSpent, 3, some (.int), 9, 1, 8130),
  (yX10_init, cX10_init, 1, none, 10, 1, 2019),
  (yX10_feed, cX10_feed, 8, some (.int), 10, 7, 4177),
  (yX10_execute, cX10_execute, 2, some (.int), 10, 1, 4188),
  (yX10_refusal, cX10_refusal, 2, some (.int), 10, 2, 6100),
  (yX10_relief, cX10_relief, 3, some (.int), 10, 2, 6108),
  (yX10_cancel, cX10_cancel, 3, some (.int), 10, 2, 6112),
  (yX10_lift, cX10_lift, 2, some (.int), 10, 2, 6121),
  (yX10_pass, cX10_pass, 2, some (.int), 10, 2, 6129),
  (yX10_train, cX10_train, 4, some (.int), 10, 3, 6232),
  (yX10_station, cX10_station, 3, some (.int), 10, 3, 8000),
  (yX10_block, cX10_block, 3, some (.int), 10, 3, 8014),
  (yX10_why, cX10_why, 5, some (.int), 10, 3, 8021),
  (yX10_order, cX10_order, 2, some (.int), 10, 2, 8037),
  (yX10_plan, cX10_plan, 2, some (.int), 10, 2, 8042),
  (yX10_timetable, cX10_timetable, 6, some (.int), 10, 4, 8055),
  (yX10_drift, cX10_drift, 1, some (.int), 10, 1, 8066),
  (yX10_ahead, cX10_ahead, 3, some (.int), 10, 3, 8078),
  (yX10_held, cX10_held, 3, some (.int), 10, 3, 8094),
  (yX10_conflicts, cX10_conflicts, 3, some (.int), 10, 1, 8111),
  (yX10_account, cX10_account, 4, some (.int), 10, 3, 8126),
  (yX10_image, cX10_image, 1, some (.int), 10, 1, 8138),
  (yX10_undo, cX10_undo, 1, some (.int), 10, 1, 8142),
  (yX10_count, cX10_count, 2, some (.int), 10, 2, 8146),
  (yX10_isByte, cX10_isByte, 1, some (.boolean), 10, 1, 4180),
  (yX10_isMinutes, cX10_isMinutes, 1, some (.boolean), 10, 1, 6133),
  (yX10_isKind, cX10_isKind, 1, some (.boolean), 10, 1, 8058),
  (yX10_carryOutCommands, cX10_carryOutCommands, 4, some (.int), 10, 1, 4236),
  (yX11_init, cX11_init, 1, none, 11, 1, 8155),
  (yX11_isIn, cX11_isIn, 3, some (.boolean), 11, 3, 8233),
  (yX11_isStation, cX11_isStation, 2, some (.boolean), 11, 2, 10149),
  (yX11_isBlock, cX11_isBlock, 2, some (.boolean), 11, 2, 10165),
  (yX11_isTrain, cX11_isTrain, 2, some (.boolean), 11, 2, 10188),
  (yX11_at, cX11_at, 3, some (.int), 11, 3, 8226),
  (yX11_set, cX11_set, 4, none, 11, 4, 10009),
  (yX11_isUp, cX11_isUp, 2, some (.boolean), 11, 2, 10021),
  (yX11_blockFrom, cX11_blockFrom, 3, some (.int), 11, 3, 10057),
  (yX11_stationBehind, cX11_stationBehind, 3, some (.int), 11, 3, 10053),
  (yX11_isInStation, cX11_isInStation, 3, some (.boolean), 11, 3, 10041),
  (yX11_goal, cX11_goal, 2, some (.int), 11, 2, 10017),
  (yX11_taken, cX11_taken, 5, some (.int), 11, 2, 10037),
  (yX11_hasTrack, cX11_hasTrack, 2, some (.boolean), 11, 2, 10033),
  (yX11_trainIn, cX11_trainIn, 3, some (.int), 11, 2, 10061),
  (yX11_slowness, cX11_slowness, 5, some (.int), 11, 2, 10073),
  (yX11_minutesFor, cX11_minutesFor, 3, some (.int), 11, 2, 10069),
  (yX11_isWayFree, cX11_isWayFree, 3, some (.boolean), 11, 2, 10049),
  (yX11_overtime, cX11_overtime, 2, some (.int), 11, 2, 10065),
  (yX11_mayRun, cX11_mayRun, 2, some (.boolean), 11, 2, 10045),
  (yX11_isAhead, cX11_isAhead, 5, some (.boolean), 11, 3, 8230),
  (yX11_sortTrains, cX11_sortTrains, 3, none, 11, 1, 8222),
  (yX11_order, cX11_order, 2, some (.int), 11, 2, 8218),
  (yX11_become, cX11_become, 4, none, 11, 4, 10029),
  (yX11_comeIn, cX11_comeIn, 3, none, 11, 3, 10025),
  (yX11_account, cX11_account, 5, none, 11, 1, 10005),
  (yX11_arrive, cX11_arrive, 3, none, 11, 2, 10013),
  (yX11_enter, cX11_enter, 5, none, 11, 2, 10077),
  (yX11_relieve, cX11_relieve, 3, none, 11, 2, 10081),
  (yX11_minute, cX11_minute, 3, none, 11, 1, 10001),
  (yX11_pass, cX11_pass, 3, some (.int), 11, 2, 8237),
  (yX11_feed, cX11_feed, 9, some (.int), 11, 7, 10085),
  (yX11_sign, cX11_sign, 1, some (.int), 11, 1, 10105),
  (yX11_faultHere, cX11_faultHere, 1, none, 11, 1, 10117),
  (yX11_goes, cX11_goes, 3, some (.boolean), 11, 2, 10109),
  (yX11_must, cX11_must, 2, none, 11, 2, 10129),
  (yX11_keepNumber, cX11_keepNumber, 2, none, 11, 2, 10121),
  (yX11_digit, cX11_digit, 3, none, 11, 2, 10125),
  (yX11_readNumber, cX11_readNumber, 3, none, 11, 1, 10113),
  (yX11_readCommand, cX11_readCommand, 1, none, 11, 1, 10101),
  (yX11_readRest, cX11_readRest, 1, none, 11, 1, 10133),
  (yX11_refuse, cX11_refuse, 3, none, 11, 3, 10093),
  (yX11_makeLine, cX11_makeLine, 5, none, 11, 1, 10141),
  (yX11_equip, cX11_equip, 3, none, 11, 1, 10145),
  (yX11_bring, cX11_bring, 3, none, 11, 1, 10153),
  (yX11_bringTrain, cX11_bringTrain, 3, none, 11, 1, 10157),
  (yX11_slow, cX11_slow, 3, none, 11, 1, 10161),
  (yX11_bound, cX11_bound, 1, none, 11, 1, 10169),
  (yX11_carryOut, cX11_carryOut, 1, none, 11, 1, 10137),
  (yX11_go, cX11_go, 3, none, 11, 2, 10097),
  (yX11_execute, cX11_execute, 1, some (.int), 11, 1, 10089),
  (yX11_copy, cX11_copy, 3, none, 11, 2, 10172),
  (yX11_refusal, cX11_refusal, 2, some (.int), 11, 2, 10176),
  (yX11_relief, cX11_relief, 3, some (.int), 11, 2, 10180),
  (yX11_cancel, cX11_cancel, 2, some (.int), 11, 2, 10184),
  (yX11_lift, cX11_lift, 3, some (.int), 11, 2, 10192),
  (yX11_train, cX11_train, 3, some (.int), 11, 3, 10196),
  (yX11_station, cX11_station, 5, some (.int), 11, 3, 10200),
  (yX11_block, cX11_block, 3, some (.int), 11, 3, 10204),
  (yX11_whyOutside, cX11_whyOutside, 4, some (.int), 11, 3, 10212),
  (yX11_firstAhead, cX11_firstAhead, 4, some (.int), 11, 2, 10220),
  (yX11_whyStanding, cX11_whyStanding, 6, some (.int), 11, 3, 10216),
  (yX11_why, cX11_why, 3, some (.int), 11, 3, 10208),
  (yX11_tryMinutes, cX11_tryMinutes, 3, none, 11, 2, 10229),
  (yX11_happened, cX11_happened, 3, some (.int), 11, 3, 10233),
  (yX11_plan, cX11_plan, 7, some (.int), 11, 2, 10225),
  (yX11_timetable, cX11_timetable, 5, some (.int), 11, 4, 10237),
  (yX11_drift, cX11_drift, 9, some (.int), 11, 1, 12001),
  (yX11_counted, cX11_counted, 4, some (.int), 11, 2, 12010),
  (yX11_isStill, cX11_isStill, 5, some (.boolean), 11, 1, 12014),
  (yX11_ahead, cX11_ahead, 5, some (.int), 11, 3, 12006),
  (yX11_entered, cX11_entered, 3, some (.int), 11, 3, 12022),
  (yX11_left, cX11_left, 4, some (.int), 11, 3, 12026),
  (yX11_held, cX11_held, 4, some (.int), 11, 3, 12018),
  (yX11_conflicts, cX11_conflicts, 6, some (.int), 11, 1, 12031),
  (yX11_needed, cX11_needed, 4, some (.int), 11, 2, 12039),
  (yX11_account_, cX11_account_, 5, some (.int), 11, 3, 12035),
  (yX11_image, cX11_image, 1, some (.int), 11, 1, 12043),
  (yX11_undo, cX11_undo, 1, some (.int), 11, 1, 12047),
  (yX11_longestStay, cX11_longestStay, 4, some (.int), 11, 1, 12055),
  (yX11_count, cX11_count, 2, some (.int), 11, 2, 12051)]
def zx_m (y : Nat) : MethodName × ByteArray × Nat × Option FieldType × Nat × Nat × Nat := zx_mt.getD y (yX0_init, cX0_init, 1, none, 0, 1, 0)
abbrev zx_nm (y : Nat) : MethodName := (zx_m y).1
abbrev zx_by (y : Nat) : ByteArray := (zx_m y).2.1
abbrev zx_ml (y : Nat) : Nat := (zx_m y).2.2.1
abbrev zx_ty (y : Nat) : Option FieldType := (zx_m y).2.2.2.1
abbrev zx_cl (y : Nat) : Nat := (zx_m y).2.2.2.2.1
abbrev zx_np (y : Nat) : Nat := (zx_m y).2.2.2.2.2.1
abbrev zx_cw (y : Nat) : Nat := (zx_m y).2.2.2.2.2.2
def zx_cd (y : Nat) : List zx_I := zx_cds.getD y []
def zx_tab : Nat → List Cond
  | 0 => k2_sels lw_privs
  | 1 => tables_1_1
  | 2 => tables_1_2
  | 3 => tables_1_3
  | 4 => tables_1_4
  | 5 => tables_1_5
  | 6 => tables_1_6
  | _ => []
theorem zx_tab_in (k : Nat) : ∀ c ∈ zx_tab k, c ∈ lw_tbl := by
  intro c h
  unfold lw_tbl tables_1
  match k, h with
  | 0, h => exact List.mem_append_left _ h
  | 1, h => exact List.mem_append_right _ (List.mem_append_left _ h)
  | 2, h => exact List.mem_append_right _ (List.mem_append_right _ (List.mem_append_left _ h))
  | 3, h => exact List.mem_append_right _ (List.mem_append_right _ (List.mem_append_right _ (List.mem_append_left _ h)))
  | 4, h => exact List.mem_append_right _ (List.mem_append_right _ (List.mem_append_right _ (List.mem_append_right _ (List.mem_append_left _ h))))
  | 5, h => exact List.mem_append_right _ (List.mem_append_right _ (List.mem_append_right _ (List.mem_append_right _ (List.mem_append_right _ (List.mem_append_left _ h)))))
  | 6, h => exact List.mem_append_right _ (List.mem_append_right _ (List.mem_append_right _ (List.mem_append_right _ (List.mem_append_right _ (List.mem_append_right _ h)))))
  | k + 7, h => exact absurd h List.not_mem_nil
def zx_U : List Cond := lw_tbl.filter goodWord
def zx_wd (p : Nat) (c : Cond) : Bool := decide ((zx_tab (p / 2000))[p % 2000]? = some c) && goodWord c
theorem zx_wd_in {p : Nat} {c : Cond} (h : zx_wd p c = true) : c ∈ zx_U := by
  simp only [zx_wd, Bool.and_eq_true, decide_eq_true_eq] at h
  exact List.mem_filter.mpr ⟨zx_tab_in _ _ (List.mem_of_getElem? h.1), h.2⟩
def zx_cs (a : Nat) : vw_C := vwCl.getD a (RX0, TX0, 0)
abbrev zx_R (a : Nat) : String := (zx_cs a).1
abbrev zx_T (a : Nat) : u_T := (zx_cs a).2.1
/-- the words that hold of the state, but not of the tables alone -/
def zx_ex_w : List Cond := [(Jvm.Cond.arrayOver (Jvm.ClassFile.FieldType.object "LineDispatcher$Command")),
  (Jvm.Cond.methodLinkNest "LineDispatcher$Tape" (31 : Nat) ({ cls := "LineDispatcher$Command", name := "<init>", desc := "()V" } : Jvm.MethodName) "LineDispatcher"),
  (Jvm.Cond.methodLinkNest "LineDispatcher" (18 : Nat) ({ cls := "LineDispatcher$Refusal", name := "<init>", desc := "()V" } : Jvm.MethodName) "LineDispatcher"),
  (Jvm.Cond.methodLinkNest "LineDispatcher" (25 : Nat) ({ cls := "LineDispatcher$Clerk", name := "<init>", desc := "()V" } : Jvm.MethodName) "LineDispatcher"),
  (Jvm.Cond.methodLinkNest "LineDispatcher" (32 : Nat) ({ cls := "LineDispatcher$Plan", name := "<init>", desc := "()V" } : Jvm.MethodName) "LineDispatcher"),
  (Jvm.Cond.arrayOver (Jvm.ClassFile.FieldType.array Jvm.ClassFile.FieldType.int)),
  (Jvm.Cond.arrayOver (Jvm.ClassFile.FieldType.object "LineDispatcher$Stop")),
  (Jvm.Cond.arrayOver (Jvm.ClassFile.FieldType.object "LineDispatcher$Section")),
  (Jvm.Cond.arrayOver (Jvm.ClassFile.FieldType.object "LineDispatcher$Train")),
  (Jvm.Cond.arrayOver (Jvm.ClassFile.FieldType.object "LineDispatcher$SlowOrder")),
  (Jvm.Cond.methodLinkNest "LineDispatcher$Line" (61 : Nat) ({ cls := "LineDispatcher$Stop", name := "<init>", desc := "()V" } : Jvm.MethodName) "LineDispatcher"),
  (Jvm.Cond.methodLinkNest "LineDispatcher$Line" (62 : Nat) ({ cls := "LineDispatcher$Section", name := "<init>", desc := "()V" } : Jvm.MethodName) "LineDispatcher"),
  (Jvm.Cond.methodLinkNest "LineDispatcher$Line" (63 : Nat) ({ cls := "LineDispatcher$SlowOrder", name := "<init>", desc := "()V" } : Jvm.MethodName) "LineDispatcher"),
  (Jvm.Cond.methodLinkNest "LineDispatcher$Line" (64 : Nat) ({ cls := "LineDispatcher$Train", name := "<init>", desc := "()V" } : Jvm.MethodName) "LineDispatcher")]
def zx_gb (own : String) (ini : Bool) (by_ : ByteArray) (e : zx_I) : Bool := match e with
  | (pc, i, a, b, c, t) =>
    let dec : Nat → Bool := fun l => decide (decode by_ pc = .ok (i, l))
    match i with
    | .iconst n => dec 1 && decide (Int32.ofInt n = c)
    | .bipush n => dec 2 && decide ((Int8.ofInt n).toInt32 = c)
    | .sipush n => dec 3 && decide ((Int16.ofInt n).toInt32 = c)
    | .ldc k => dec 2 && zx_wd (t.headD 0) (.constant own k c)
    | .aconst_null => dec 1
    | .iload_n k => dec 1 && decide ((k : Nat) = a)
    | .aload_n k => dec 1 && decide ((k : Nat) = a)
    | .istore_n k => dec 1 && decide ((k : Nat) = a)
    | .astore_n k => dec 1 && decide ((k : Nat) = a)
    | .iload k => dec 2 && decide (k = a)
    | .aload k => dec 2 && decide (k = a)
    | .istore k => dec 2 && decide (k = a)
    | .astore k => dec 2 && decide (k = a)
    | .iinc k n => dec 3 && decide (k = a) && decide (Int32.ofInt n = c)
    | .iadd => dec 1 | .isub => dec 1 | .imul => dec 1 | .iand => dec 1 | .ior => dec 1 | .ishl => dec 1
    | .dup => dec 1 | .dup2 => dec 1 | .pop => dec 1
    | .goto off => dec 3 && decide ((pc : Int) + off = (a : Int))
    | .ifCond _ off => dec 3 && decide ((pc : Int) + off = (a : Int))
    | .if_icmp _ off => dec 3 && decide ((pc : Int) + off = (a : Int))
    | .ifnull off => dec 3 && decide ((pc : Int) + off = (a : Int))
    | .ifnonnull off => dec 3 && decide ((pc : Int) + off = (a : Int))
    | .tableswitch d lo hi offs => (match decode by_ pc with | .ok (j, _) => decide (j = i) | _ => false) && decide (c.toInt = lo) && decide (hi = lo + (t.tail.length : Int) - 1) && decide (c.toInt + (t.tail.length : Int) < 2147483648) && decide (((t.headD 0 : Nat) : Int) = (pc : Int) + d) && decide (offs.toList = t.tail.map (fun (q : Nat) => (q : Int) - (pc : Int)))
    | .getfield k => dec 3 && zx_wd (t.headD 0) (.fieldLink own k (zx_T a b).1 (zx_T a b).2.1 (zx_T a b).2.2.1)
    | .putfield k => dec 3 && zx_wd (t.headD 0) (.fieldLink own k (zx_T a b).1 (zx_T a b).2.1 (zx_T a b).2.2.1) && (if (zx_T a b).2.2.2 = true then ini && decide ((zx_T a b).1 = own) else true) && (if (zx_T a b).2.2.1 = "Z" then decide (c = 1) else true)
    | .arraylength => dec 1 | .iaload => dec 1 | .aaload => dec 1 | .iastore => dec 1 | .aastore => dec 1
    | .new k => dec 3 && zx_wd (t.getD 0 0) (.classLink own k (zx_R a)) && zx_wd (t.getD 1 0) (.instantiable (zx_R a) (zx_cs a).2.2) && zx_wd (t.getD 2 0) (.initialized (zx_R a)) && decide (a < 12)
    | .newarray q => dec 2 && decide (q = .int) && zx_wd (t.headD 0) (.arrayClass .int)
    | .anewarray k => dec 3 && zx_wd (t.headD 0) (.classLink own k (zx_R (zx_ac a))) && decide (2 ≤ a ∧ a < 7)
    | .multianewarray k q => dec 4 && decide (q = 2) && zx_wd (t.getD 0 0) (.classLink own k ("[" ++ (FieldType.array .int).toString)) && zx_wd (t.getD 1 0) (.arrayClass .int)
    | .invokestatic k => dec 3 && (if a = 901 then zx_wd (t.getD 0 0) (.methodLink own k arraycopyName) && zx_wd (t.getD 1 0) (.native arraycopyName) && zx_wd (t.getD 2 0) (.static arraycopyName) && zx_wd (t.getD 3 0) (.initialized "java/lang/System")
        else if a = 902 then zx_wd (t.getD 0 0) (.methodLink own k Lib.Math.max.name) && zx_wd (t.getD 1 0) (.static Lib.Math.max.name) && zx_wd (t.getD 2 0) (.initialized "java/lang/Math") && zx_wd (t.getD 3 0) (.code Lib.Math.max.name Lib.Math.max.code 2 (some .int))
        else if a = 903 then zx_wd (t.getD 0 0) (.methodLink own k Lib.Math.min.name) && zx_wd (t.getD 1 0) (.static Lib.Math.min.name) && zx_wd (t.getD 2 0) (.initialized "java/lang/Math") && zx_wd (t.getD 3 0) (.code Lib.Math.min.name Lib.Math.min.code 2 (some .int))
        else decide (a < 201) && zx_wd (t.getD 1 0) (.methodLink own k (zx_nm a)) && zx_wd (t.getD 2 0) (.static (zx_nm a)) && zx_wd (t.getD 3 0) (.initialized (zx_nm a).cls) && decide (b = zx_np a) && decide ((parseMethodDescriptor (zx_nm a).desc).map (fun d => d.parameters.length) = some b) && decide ((zx_nm a).cls = own))
    | .invokevirtual k => dec 3 && decide (a < 201) && zx_wd (t.getD 1 0) (.methodLink own k (zx_nm a)) && zx_wd (t.getD 2 0) (.instanceMethod (zx_nm a)) && zx_wd (t.getD 3 0) (.selects (zx_nm a).cls (zx_nm a) (zx_nm a)) && zx_wd (t.getD 4 0) (.initialized (zx_nm a).cls) && decide (t.headD 0 < 12) && decide (zx_R (t.headD 0) = (zx_nm a).cls) && decide (b + 1 = zx_np a) && decide ((parseMethodDescriptor (zx_nm a).desc).map (fun d => d.parameters.length) = some b)
    | .invokespecial k => dec 3 && (if a = 900 then zx_wd (t.getD 0 0) (.methodLink own k Lib.objectInit) && zx_wd (t.getD 1 0) (.instanceMethod Lib.objectInit) && zx_wd (t.getD 2 0) (.code Lib.objectInit ⟨#[0xb1]⟩ 1 none)
        else decide (a < 201) && (if c = 1 then decide (Cond.methodLinkNest own k (zx_nm a) RX10 ∈ zx_ex_w) else zx_wd (t.getD 1 0) (.methodLink own k (zx_nm a))) && zx_wd (t.getD 2 0) (.instanceMethod (zx_nm a)) && zx_wd (t.getD 3 0) (.initialized (zx_nm a).cls) && decide ((zx_nm a).name = "<init>") && decide (zx_ty a = none) && decide (b + 1 = zx_np a) && decide ((parseMethodDescriptor (zx_nm a).desc).map (fun d => d.parameters.length) = some b))
    | .ireturn => dec 1
    | .areturn => dec 1
    | .return_ => dec 1
    | _ => false
/-- a method's own row: its class, its code's word -/
def zx_mb (y : Nat) : Bool := plainName (zx_nm y).cls && zx_wd (zx_cw y) (.code (zx_nm y) (zx_by y) (zx_ml y) (zx_ty y)) && decide ((zx_nm y).cls ≠ "java/lang/invoke/MethodHandle" ∧ (zx_nm y).cls ≠ "java/lang/invoke/VarHandle")
  && decide (zx_ml y ≤ 12) && decide (zx_np y ≤ zx_ml y) && decide (zx_cl y < 12) && decide (zx_R (zx_cl y) = (zx_nm y).cls)
def zx_rb (r : Option FieldType) (e : zx_I) : Bool := match e with
  | (_, i, _, _, c, _) => match i with
    | .ireturn => decide (r = some .int) || (decide (r = some .boolean) && decide (c = 1))
    | .areturn => match r with | some (.object _) => true | some (.array _) => true | _ => false
    | .return_ => decide (r = none)
    | _ => true
def zx_gy (y : Nat) : Bool := zx_mb y && (zx_cd y).all (fun e => zx_gb (zx_nm y).cls (decide ((zx_nm y).name = "<init>")) (zx_by y) e && zx_rb (zx_ty y) e)
theorem zx_gy_0 : zx_gy 0 = true := by decide +kernel
theorem zx_gy_1 : zx_gy 1 = true := by decide +kernel
theorem zx_gy_2 : zx_gy 2 = true := by decide +kernel
theorem zx_gy_3 : zx_gy 3 = true := by decide +kernel
theorem zx_gy_4 : zx_gy 4 = true := by decide +kernel
theorem zx_gy_5 : zx_gy 5 = true := by decide +kernel
theorem zx_gy_6 : zx_gy 6 = true := by decide +kernel
theorem zx_gy_7 : zx_gy 7 = true := by decide +kernel
theorem zx_gy_8 : zx_gy 8 = true := by decide +kernel
theorem zx_gy_9 : zx_gy 9 = true := by decide +kernel
theorem zx_gy_10 : zx_gy 10 = true := by decide +kernel
theorem zx_gy_11 : zx_gy 11 = true := by decide +kernel
theorem zx_gy_12 : zx_gy 12 = true := by decide +kernel
theorem zx_gy_13 : zx_gy 13 = true := by decide +kernel
theorem zx_gy_14 : zx_gy 14 = true := by decide +kernel
theorem zx_gy_15 : zx_gy 15 = true := by decide +kernel
theorem zx_gy_16 : zx_gy 16 = true := by decide +kernel
theorem zx_gy_17 : zx_gy 17 = true := by decide +kernel
theorem zx_gy_18 : zx_gy 18 = true := by decide +kernel
theorem zx_gy_19 : zx_gy 19 = true := by decide +kernel
theorem zx_gy_20 : zx_gy 20 = true := by decide +kernel
theorem zx_gy_21 : zx_gy 21 = true := by decide +kernel
theorem zx_gy_22 : zx_gy 22 = true := by decide +kernel
theorem zx_gy_23 : zx_gy 23 = true := by decide +kernel
theorem zx_gy_24 : zx_gy 24 = true := by decide +kernel
theorem zx_gy_25 : zx_gy 25 = true := by decide +kernel
theorem zx_gy_26 : zx_gy 26 = true := by decide +kernel
theorem zx_gy_27 : zx_gy 27 = true := by decide +kernel
theorem zx_gy_28 : zx_gy 28 = true := by decide +kernel
theorem zx_gy_29 : zx_gy 29 = true := by decide +kernel
theorem zx_gy_30 : zx_gy 30 = true := by decide +kernel
theorem zx_gy_31 : zx_gy 31 = true := by decide +kernel
theorem zx_gy_32 : zx_gy 32 = true := by decide +kernel
theorem zx_gy_33 : zx_gy 33 = true := by decide +kernel
theorem zx_gy_34 : zx_gy 34 = true := by decide +kernel
theorem zx_gy_35 : zx_gy 35 = true := by decide +kernel
theorem zx_gy_36 : zx_gy 36 = true := by decide +kernel
theorem zx_gy_37 : zx_gy 37 = true := by decide +kernel
theorem zx_gy_38 : zx_gy 38 = true := by decide +kernel
theorem zx_gy_39 : zx_gy 39 = true := by decide +kernel
theorem zx_gy_40 : zx_gy 40 = true := by decide +kernel
theorem zx_gy_41 : zx_gy 41 = true := by decide +kernel
theorem zx_gy_42 : zx_gy 42 = true := by decide +kernel
theorem zx_gy_43 : zx_gy 43 = true := by decide +kernel
theorem zx_gy_44 : zx_gy 44 = true := by decide +kernel
theorem zx_gy_45 : zx_gy 45 = true := by decide +kernel
theorem zx_gy_46 : zx_gy 46 = true := by decide +kernel
theorem zx_gy_47 : zx_gy 47 = true := by decide +kernel
theorem zx_gy_48 : zx_gy 48 = true := by decide +kernel
theorem zx_gy_49 : zx_gy 49 = true := by decide +kernel
theorem zx_gy_50 : zx_gy 50 = true := by decide +kernel
theorem zx_gy_51 : zx_gy 51 = true := by decide +kernel
theorem zx_gy_52 : zx_gy 52 = true := by decide +kernel
theorem zx_gy_53 : zx_gy 53 = true := by decide +kernel
theorem zx_gy_54 : zx_gy 54 = true := by decide +kernel
theorem zx_gy_55 : zx_gy 55 = true := by decide +kernel
theorem zx_gy_56 : zx_gy 56 = true := by decide +kernel
theorem zx_gy_57 : zx_gy 57 = true := by decide +kernel
theorem zx_gy_58 : zx_gy 58 = true := by decide +kernel
theorem zx_gy_59 : zx_gy 59 = true := by decide +kernel
theorem zx_gy_60 : zx_gy 60 = true := by decide +kernel
theorem zx_gy_61 : zx_gy 61 = true := by decide +kernel
theorem zx_gy_62 : zx_gy 62 = true := by decide +kernel
theorem zx_gy_63 : zx_gy 63 = true := by decide +kernel
theorem zx_gy_64 : zx_gy 64 = true := by decide +kernel
theorem zx_gy_65 : zx_gy 65 = true := by decide +kernel
theorem zx_gy_66 : zx_gy 66 = true := by decide +kernel
theorem zx_gy_67 : zx_gy 67 = true := by decide +kernel
theorem zx_gy_68 : zx_gy 68 = true := by decide +kernel
theorem zx_gy_69 : zx_gy 69 = true := by decide +kernel
theorem zx_gy_70 : zx_gy 70 = true := by decide +kernel
theorem zx_gy_71 : zx_gy 71 = true := by decide +kernel
theorem zx_gy_72 : zx_gy 72 = true := by decide +kernel
theorem zx_gy_73 : zx_gy 73 = true := by decide +kernel
theorem zx_gy_74 : zx_gy 74 = true := by decide +kernel
theorem zx_gy_75 : zx_gy 75 = true := by decide +kernel
theorem zx_gy_76 : zx_gy 76 = true := by decide +kernel
theorem zx_gy_77 : zx_gy 77 = true := by decide +kernel
theorem zx_gy_78 : zx_gy 78 = true := by decide +kernel
theorem zx_gy_79 : zx_gy 79 = true := by decide +kernel
theorem zx_gy_80 : zx_gy 80 = true := by decide +kernel
theorem zx_gy_81 : zx_gy 81 = true := by decide +kernel
theorem zx_gy_82 : zx_gy 82 = true := by decide +kernel
theorem zx_gy_83 : zx_gy 83 = true := by decide +kernel
theorem zx_gy_84 : zx_gy 84 = true := by decide +kernel
theorem zx_gy_85 : zx_gy 85 = true := by decide +kernel
theorem zx_gy_86 : zx_gy 86 = true := by decide +kernel
theorem zx_gy_87 : zx_gy 87 = true := by decide +kernel
theorem zx_gy_88 : zx_gy 88 = true := by decide +kernel
theorem zx_gy_89 : zx_gy 89 = true := by decide +kernel
theorem zx_gy_90 : zx_gy 90 = true := by decide +kernel
theorem zx_gy_91 : zx_gy 91 = true := by decide +kernel
theorem zx_gy_92 : zx_gy 92 = true := by decide +kernel
theorem zx_gy_93 : zx_gy 93 = true := by decide +kernel
theorem zx_gy_94 : zx_gy 94 = true := by decide +kernel
theorem zx_gy_95 : zx_gy 95 = true := by decide +kernel
theorem zx_gy_96 : zx_gy 96 = true := by decide +kernel
theorem zx_gy_97 : zx_gy 97 = true := by decide +kernel
theorem zx_gy_98 : zx_gy 98 = true := by decide +kernel
theorem zx_gy_99 : zx_gy 99 = true := by decide +kernel
theorem zx_gy_100 : zx_gy 100 = true := by decide +kernel
theorem zx_gy_101 : zx_gy 101 = true := by decide +kernel
theorem zx_gy_102 : zx_gy 102 = true := by decide +kernel
theorem zx_gy_103 : zx_gy 103 = true := by decide +kernel
theorem zx_gy_104 : zx_gy 104 = true := by decide +kernel
theorem zx_gy_105 : zx_gy 105 = true := by decide +kernel
theorem zx_gy_106 : zx_gy 106 = true := by decide +kernel
theorem zx_gy_107 : zx_gy 107 = true := by decide +kernel
theorem zx_gy_108 : zx_gy 108 = true := by decide +kernel
theorem zx_gy_109 : zx_gy 109 = true := by decide +kernel
theorem zx_gy_110 : zx_gy 110 = true := by decide +kernel
theorem zx_gy_111 : zx_gy 111 = true := by decide +kernel
theorem zx_gy_112 : zx_gy 112 = true := by decide +kernel
theorem zx_gy_113 : zx_gy 113 = true := by decide +kernel
theorem zx_gy_114 : zx_gy 114 = true := by decide +kernel
theorem zx_gy_115 : zx_gy 115 = true := by decide +kernel
theorem zx_gy_116 : zx_gy 116 = true := by decide +kernel
theorem zx_gy_117 : zx_gy 117 = true := by decide +kernel
theorem zx_gy_118 : zx_gy 118 = true := by decide +kernel
theorem zx_gy_119 : zx_gy 119 = true := by decide +kernel
theorem zx_gy_120 : zx_gy 120 = true := by decide +kernel
theorem zx_gy_121 : zx_gy 121 = true := by decide +kernel
theorem zx_gy_122 : zx_gy 122 = true := by decide +kernel
theorem zx_gy_123 : zx_gy 123 = true := by decide +kernel
theorem zx_gy_124 : zx_gy 124 = true := by decide +kernel
theorem zx_gy_125 : zx_gy 125 = true := by decide +kernel
theorem zx_gy_126 : zx_gy 126 = true := by decide +kernel
theorem zx_gy_127 : zx_gy 127 = true := by decide +kernel
theorem zx_gy_128 : zx_gy 128 = true := by decide +kernel
theorem zx_gy_129 : zx_gy 129 = true := by decide +kernel
theorem zx_gy_130 : zx_gy 130 = true := by decide +kernel
theorem zx_gy_131 : zx_gy 131 = true := by decide +kernel
theorem zx_gy_132 : zx_gy 132 = true := by decide +kernel
theorem zx_gy_133 : zx_gy 133 = true := by decide +kernel
theorem zx_gy_134 : zx_gy 134 = true := by decide +kernel
theorem zx_gy_135 : zx_gy 135 = true := by decide +kernel
theorem zx_gy_136 : zx_gy 136 = true := by decide +kernel
theorem zx_gy_137 : zx_gy 137 = true := by decide +kernel
theorem zx_gy_138 : zx_gy 138 = true := by decide +kernel
theorem zx_gy_139 : zx_gy 139 = true := by decide +kernel
theorem zx_gy_140 : zx_gy 140 = true := by decide +kernel
theorem zx_gy_141 : zx_gy 141 = true := by decide +kernel
theorem zx_gy_142 : zx_gy 142 = true := by decide +kernel
theorem zx_gy_143 : zx_gy 143 = true := by decide +kernel
theorem zx_gy_144 : zx_gy 144 = true := by decide +kernel
theorem zx_gy_145 : zx_gy 145 = true := by decide +kernel
theorem zx_gy_146 : zx_gy 146 = true := by decide +kernel
theorem zx_gy_147 : zx_gy 147 = true := by decide +kernel
theorem zx_gy_148 : zx_gy 148 = true := by decide +kernel
theorem zx_gy_149 : zx_gy 149 = true := by decide +kernel
theorem zx_gy_150 : zx_gy 150 = true := by decide +kernel
theorem zx_gy_151 : zx_gy 151 = true := by decide +kernel
theorem zx_gy_152 : zx_gy 152 = true := by decide +kernel
theorem zx_gy_153 : zx_gy 153 = true := by decide +kernel
theorem zx_gy_154 : zx_gy 154 = true := by decide +kernel
theorem zx_gy_155 : zx_gy 155 = true := by decide +kernel
theorem zx_gy_156 : zx_gy 156 = true := by decide +kernel
theorem zx_gy_157 : zx_gy 157 = true := by decide +kernel
theorem zx_gy_158 : zx_gy 158 = true := by decide +kernel
theorem zx_gy_159 : zx_gy 159 = true := by decide +kernel
theorem zx_gy_160 : zx_gy 160 = true := by decide +kernel
theorem zx_gy_161 : zx_gy 161 = true := by decide +kernel
theorem zx_gy_162 : zx_gy 162 = true := by decide +kernel
theorem zx_gy_163 : zx_gy 163 = true := by decide +kernel
theorem zx_gy_164 : zx_gy 164 = true := by decide +kernel
theorem zx_gy_165 : zx_gy 165 = true := by decide +kernel
theorem zx_gy_166 : zx_gy 166 = true := by decide +kernel
theorem zx_gy_167 : zx_gy 167 = true := by decide +kernel
theorem zx_gy_168 : zx_gy 168 = true := by decide +kernel
theorem zx_gy_169 : zx_gy 169 = true := by decide +kernel
theorem zx_gy_170 : zx_gy 170 = true := by decide +kernel
theorem zx_gy_171 : zx_gy 171 = true := by decide +kernel
theorem zx_gy_172 : zx_gy 172 = true := by decide +kernel
theorem zx_gy_173 : zx_gy 173 = true := by decide +kernel
theorem zx_gy_174 : zx_gy 174 = true := by decide +kernel
theorem zx_gy_175 : zx_gy 175 = true := by decide +kernel
theorem zx_gy_176 : zx_gy 176 = true := by decide +kernel
theorem zx_gy_177 : zx_gy 177 = true := by decide +kernel
theorem zx_gy_178 : zx_gy 178 = true := by decide +kernel
theorem zx_gy_179 : zx_gy 179 = true := by decide +kernel
theorem zx_gy_180 : zx_gy 180 = true := by decide +kernel
theorem zx_gy_181 : zx_gy 181 = true := by decide +kernel
theorem zx_gy_182 : zx_gy 182 = true := by decide +kernel
theorem zx_gy_183 : zx_gy 183 = true := by decide +kernel
theorem zx_gy_184 : zx_gy 184 = true := by decide +kernel
theorem zx_gy_185 : zx_gy 185 = true := by decide +kernel
theorem zx_gy_186 : zx_gy 186 = true := by decide +kernel
theorem zx_gy_187 : zx_gy 187 = true := by decide +kernel
theorem zx_gy_188 : zx_gy 188 = true := by decide +kernel
theorem zx_gy_189 : zx_gy 189 = true := by decide +kernel
theorem zx_gy_190 : zx_gy 190 = true := by decide +kernel
theorem zx_gy_191 : zx_gy 191 = true := by decide +kernel
theorem zx_gy_192 : zx_gy 192 = true := by decide +kernel
theorem zx_gy_193 : zx_gy 193 = true := by decide +kernel
theorem zx_gy_194 : zx_gy 194 = true := by decide +kernel
theorem zx_gy_195 : zx_gy 195 = true := by decide +kernel
theorem zx_gy_196 : zx_gy 196 = true := by decide +kernel
theorem zx_gy_197 : zx_gy 197 = true := by decide +kernel
theorem zx_gy_198 : zx_gy 198 = true := by decide +kernel
theorem zx_gy_199 : zx_gy 199 = true := by decide +kernel
theorem zx_gy_200 : zx_gy 200 = true := by decide +kernel
theorem zx_gy_all : ∀ y, y < 201 → zx_gy y = true := by
  intro y hy
  match y, hy with
  | 0, _ => exact zx_gy_0
  | 1, _ => exact zx_gy_1
  | 2, _ => exact zx_gy_2
  | 3, _ => exact zx_gy_3
  | 4, _ => exact zx_gy_4
  | 5, _ => exact zx_gy_5
  | 6, _ => exact zx_gy_6
  | 7, _ => exact zx_gy_7
  | 8, _ => exact zx_gy_8
  | 9, _ => exact zx_gy_9
  | 10, _ => exact zx_gy_10
  | 11, _ => exact zx_gy_11
  | 12, _ => exact zx_gy_12
  | 13, _ => exact zx_gy_13
  | 14, _ => exact zx_gy_14
  | 15, _ => exact zx_gy_15
  | 16, _ => exact zx_gy_16
  | 17, _ => exact zx_gy_17
  | 18, _ => exact zx_gy_18
  | 19, _ => exact zx_gy_19
  | 20, _ => exact zx_gy_20
  | 21, _ => exact zx_gy_21
  | 22, _ => exact zx_gy_22
  | 23, _ => exact zx_gy_23
  | 24, _ => exact zx_gy_24
  | 25, _ => exact zx_gy_25
  | 26, _ => exact zx_gy_26
  | 27, _ => exact zx_gy_27
  | 28, _ => exact zx_gy_28
  | 29, _ => exact zx_gy_29
  | 30, _ => exact zx_gy_30
  | 31, _ => exact zx_gy_31
  | 32, _ => exact zx_gy_32
  | 33, _ => exact zx_gy_33
  | 34, _ => exact zx_gy_34
  | 35, _ => exact zx_gy_35
  | 36, _ => exact zx_gy_36
  | 37, _ => exact zx_gy_37
  | 38, _ => exact zx_gy_38
  | 39, _ => exact zx_gy_39
  | 40, _ => exact zx_gy_40
  | 41, _ => exact zx_gy_41
  | 42, _ => exact zx_gy_42
  | 43, _ => exact zx_gy_43
  | 44, _ => exact zx_gy_44
  | 45, _ => exact zx_gy_45
  | 46, _ => exact zx_gy_46
  | 47, _ => exact zx_gy_47
  | 48, _ => exact zx_gy_48
  | 49, _ => exact zx_gy_49
  | 50, _ => exact zx_gy_50
  | 51, _ => exact zx_gy_51
  | 52, _ => exact zx_gy_52
  | 53, _ => exact zx_gy_53
  | 54, _ => exact zx_gy_54
  | 55, _ => exact zx_gy_55
  | 56, _ => exact zx_gy_56
  | 57, _ => exact zx_gy_57
  | 58, _ => exact zx_gy_58
  | 59, _ => exact zx_gy_59
  | 60, _ => exact zx_gy_60
  | 61, _ => exact zx_gy_61
  | 62, _ => exact zx_gy_62
  | 63, _ => exact zx_gy_63
  | 64, _ => exact zx_gy_64
  | 65, _ => exact zx_gy_65
  | 66, _ => exact zx_gy_66
  | 67, _ => exact zx_gy_67
  | 68, _ => exact zx_gy_68
  | 69, _ => exact zx_gy_69
  | 70, _ => exact zx_gy_70
  | 71, _ => exact zx_gy_71
  | 72, _ => exact zx_gy_72
  | 73, _ => exact zx_gy_73
  | 74, _ => exact zx_gy_74
  | 75, _ => exact zx_gy_75
  | 76, _ => exact zx_gy_76
  | 77, _ => exact zx_gy_77
  | 78, _ => exact zx_gy_78
  | 79, _ => exact zx_gy_79
  | 80, _ => exact zx_gy_80
  | 81, _ => exact zx_gy_81
  | 82, _ => exact zx_gy_82
  | 83, _ => exact zx_gy_83
  | 84, _ => exact zx_gy_84
  | 85, _ => exact zx_gy_85
  | 86, _ => exact zx_gy_86
  | 87, _ => exact zx_gy_87
  | 88, _ => exact zx_gy_88
  | 89, _ => exact zx_gy_89
  | 90, _ => exact zx_gy_90
  | 91, _ => exact zx_gy_91
  | 92, _ => exact zx_gy_92
  | 93, _ => exact zx_gy_93
  | 94, _ => exact zx_gy_94
  | 95, _ => exact zx_gy_95
  | 96, _ => exact zx_gy_96
  | 97, _ => exact zx_gy_97
  | 98, _ => exact zx_gy_98
  | 99, _ => exact zx_gy_99
  | 100, _ => exact zx_gy_100
  | 101, _ => exact zx_gy_101
  | 102, _ => exact zx_gy_102
  | 103, _ => exact zx_gy_103
  | 104, _ => exact zx_gy_104
  | 105, _ => exact zx_gy_105
  | 106, _ => exact zx_gy_106
  | 107, _ => exact zx_gy_107
  | 108, _ => exact zx_gy_108
  | 109, _ => exact zx_gy_109
  | 110, _ => exact zx_gy_110
  | 111, _ => exact zx_gy_111
  | 112, _ => exact zx_gy_112
  | 113, _ => exact zx_gy_113
  | 114, _ => exact zx_gy_114
  | 115, _ => exact zx_gy_115
  | 116, _ => exact zx_gy_116
  | 117, _ => exact zx_gy_117
  | 118, _ => exact zx_gy_118
  | 119, _ => exact zx_gy_119
  | 120, _ => exact zx_gy_120
  | 121, _ => exact zx_gy_121
  | 122, _ => exact zx_gy_122
  | 123, _ => exact zx_gy_123
  | 124, _ => exact zx_gy_124
  | 125, _ => exact zx_gy_125
  | 126, _ => exact zx_gy_126
  | 127, _ => exact zx_gy_127
  | 128, _ => exact zx_gy_128
  | 129, _ => exact zx_gy_129
  | 130, _ => exact zx_gy_130
  | 131, _ => exact zx_gy_131
  | 132, _ => exact zx_gy_132
  | 133, _ => exact zx_gy_133
  | 134, _ => exact zx_gy_134
  | 135, _ => exact zx_gy_135
  | 136, _ => exact zx_gy_136
  | 137, _ => exact zx_gy_137
  | 138, _ => exact zx_gy_138
  | 139, _ => exact zx_gy_139
  | 140, _ => exact zx_gy_140
  | 141, _ => exact zx_gy_141
  | 142, _ => exact zx_gy_142
  | 143, _ => exact zx_gy_143
  | 144, _ => exact zx_gy_144
  | 145, _ => exact zx_gy_145
  | 146, _ => exact zx_gy_146
  | 147, _ => exact zx_gy_147
  | 148, _ => exact zx_gy_148
  | 149, _ => exact zx_gy_149
  | 150, _ => exact zx_gy_150
  | 151, _ => exact zx_gy_151
  | 152, _ => exact zx_gy_152
  | 153, _ => exact zx_gy_153
  | 154, _ => exact zx_gy_154
  | 155, _ => exact zx_gy_155
  | 156, _ => exact zx_gy_156
  | 157, _ => exact zx_gy_157
  | 158, _ => exact zx_gy_158
  | 159, _ => exact zx_gy_159
  | 160, _ => exact zx_gy_160
  | 161, _ => exact zx_gy_161
  | 162, _ => exact zx_gy_162
  | 163, _ => exact zx_gy_163
  | 164, _ => exact zx_gy_164
  | 165, _ => exact zx_gy_165
  | 166, _ => exact zx_gy_166
  | 167, _ => exact zx_gy_167
  | 168, _ => exact zx_gy_168
  | 169, _ => exact zx_gy_169
  | 170, _ => exact zx_gy_170
  | 171, _ => exact zx_gy_171
  | 172, _ => exact zx_gy_172
  | 173, _ => exact zx_gy_173
  | 174, _ => exact zx_gy_174
  | 175, _ => exact zx_gy_175
  | 176, _ => exact zx_gy_176
  | 177, _ => exact zx_gy_177
  | 178, _ => exact zx_gy_178
  | 179, _ => exact zx_gy_179
  | 180, _ => exact zx_gy_180
  | 181, _ => exact zx_gy_181
  | 182, _ => exact zx_gy_182
  | 183, _ => exact zx_gy_183
  | 184, _ => exact zx_gy_184
  | 185, _ => exact zx_gy_185
  | 186, _ => exact zx_gy_186
  | 187, _ => exact zx_gy_187
  | 188, _ => exact zx_gy_188
  | 189, _ => exact zx_gy_189
  | 190, _ => exact zx_gy_190
  | 191, _ => exact zx_gy_191
  | 192, _ => exact zx_gy_192
  | 193, _ => exact zx_gy_193
  | 194, _ => exact zx_gy_194
  | 195, _ => exact zx_gy_195
  | 196, _ => exact zx_gy_196
  | 197, _ => exact zx_gy_197
  | 198, _ => exact zx_gy_198
  | 199, _ => exact zx_gy_199
  | 200, _ => exact zx_gy_200
  | y + 201, h => exact absurd h (by omega)

