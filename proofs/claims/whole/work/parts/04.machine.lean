def mT_0 : List (MethodName × ByteArray × Nat × Option FieldType × Nat) := [(yX0_init, cX0_init, 1, none, 0), (yX0_copyFrom, cX0_copyFrom, 2, none, 0), (yX0_readOne, cX0_readOne, 6, none, 0), (yX0_addToWay, cX0_addToWay, 3, none, 0), (yX0_yardOfWay, cX0_yardOfWay, 3, some .int, 0), (yX0_placeAfter, cX0_placeAfter, 4, some .int, 0), (yX0_yardAt, cX0_yardAt, 3, some .int, 0), (yX0_yardComeToAt, cX0_yardComeToAt, 5, some .int, 0), (yX0_lastComing, cX0_lastComing, 3, some .int, 0), (yX0_countOn, cX0_countOn, 4, some .int, 0), (yX0_yardsTakenAt, cX0_yardsTakenAt, 5, some .int, 0), (yX0_heatedAt, cX0_heatedAt, 4, some .int, 0), (yX0_heatedBy, cX0_heatedBy, 5, some .int, 0), (yX0_leastThatHeats, cX0_leastThatHeats, 4, some .int, 0), (yX0_wayAsBits, cX0_wayAsBits, 4, some .int, 0), (yX0_burns, cX0_burns, 3, some .int, 0), (yX0_burnsToItsEnd, cX0_burnsToItsEnd, 3, some .boolean, 0), (yX0_meeting, cX0_meeting, 15, some .int, 0), (yX1_init, cX1_init, 1, none, 1), (yX1_copyFrom, cX1_copyFrom, 2, none, 1), (yX1_readOne, cX1_readOne, 3, none, 1), (yX1_run, cX1_run, 3, some .int, 1), (yX1_ofFamily, cX1_ofFamily, 4, some .int, 1), (yX1_thatCanCarry, cX1_thatCanCarry, 4, some .int, 1), (yX1_inTurn, cX1_inTurn, 8, some .int, 1), (yX1_memberOf, cX1_memberOf, 4, some .int, 1), (yX2_init, cX2_init, 1, none, 2), (yX2_copyFrom, cX2_copyFrom, 2, none, 2), (yX2_readOne, cX2_readOne, 4, none, 2), (yX2_isOpen, cX2_isOpen, 2, some .boolean, 2), (yX2_makeOpen, cX2_makeOpen, 4, some .boolean, 2), (yX2_join, cX2_join, 6, some .boolean, 2), (yX2_around, cX2_around, 5, some .int, 2), (yX2_allReached, cX2_allReached, 4, some .int, 2), (yX2_stepsToAll, cX2_stepsToAll, 5, some .int, 2), (yX2_fewestGuards, cX2_fewestGuards, 6, some .int, 2), (yX2_meetsAll, cX2_meetsAll, 4, some .boolean, 2), (yX3_init, cX3_init, 2, none, 3), (yX3_add, cX3_add, 3, none, 3), (yX3_readText, cX3_readText, 5, none, 3)]
def mT_1 : List (MethodName × ByteArray × Nat × Option FieldType × Nat) := [(yX6_nextBySize, cX6_nextBySize, 3, some .int, 6), (yX3_readCondition, cX3_readCondition, 4, none, 3), (yX3_readAtoms, cX3_readAtoms, 4, none, 3), (yX3_readAtom, cX3_readAtom, 5, none, 3), (yX3_withTruth, cX3_withTruth, 2, some .int, 3), (yX3_readSum, cX3_readSum, 5, none, 3), (yX3_partAtHand, cX3_partAtHand, 1, some .int, 3), (yX3_backFrom, cX3_backFrom, 11, some .int, 3), (yX3_withTruth, cX3_withTruth, 2, some .int, 3), (yX3_partOf, cX3_partOf, 4, some .int, 3), (yX4_init, cX4_init, 2, none, 4), (yX4_forgetAll, cX4_forgetAll, 1, none, 4), (yX4_remember, cX4_remember, 2, none, 4), (yX4_takeBack, cX4_takeBack, 2, some .boolean, 4), (yX5_init, cX5_init, 1, none, 5), (yX5_prepare, cX5_prepare, 7, none, 5), (yX5_openersOf, cX5_openersOf, 7, some .int, 5), (yX5_bearerAt, cX5_bearerAt, 6, some .int, 5), (yX5_leastNext, cX5_leastNext, 6, some .int, 5), (yX6_has, cX6_has, 2, some .boolean, 6), (yX6_leastOfSize, cX6_leastOfSize, 1, some .int, 6), (yX6_nextOfSameSize, cX6_nextOfSameSize, 2, some .int, 6), (yX6_leastOf, cX6_leastOf, 1, some .int, 6), (yX7_init, cX7_init, 1, none, 7), (yX7_hasRoom, cX7_hasRoom, 2, some .boolean, 7), (yX7_addNumber, cX7_addNumber, 3, none, 7), (yX7_byteAt, cX7_byteAt, 2, some .int, 7), (yX7_pairAt, cX7_pairAt, 2, some .int, 7), (yX7_startReading, cX7_startReading, 1, some .boolean, 7), (yX7_stopReading, cX7_stopReading, 2, none, 7), (yX7_advance, cX7_advance, 5, none, 7), (yX7_refuse, cX7_refuse, 1, none, 7), (yX7_isNumber, cX7_isNumber, 1, some .boolean, 7), (yX7_isSign, cX7_isSign, 2, some .boolean, 7), (yX7_isWord, cX7_isWord, 3, some .boolean, 7), (yX7_takeSign, cX7_takeSign, 3, some .boolean, 7), (yX7_takeWord, cX7_takeWord, 3, some .boolean, 7), (yX7_wantSign, cX7_wantSign, 2, none, 7), (yX7_wantWord, cX7_wantWord, 2, none, 7), (yX7_wantNumber, cX7_wantNumber, 4, some .int, 7)]
def mT_2 : List (MethodName × ByteArray × Nat × Option FieldType × Nat) := [(yX7_numberAtHand, cX7_numberAtHand, 3, some .int, 7), (yX8_init, cX8_init, 1, none, 8), (yX8_stepsOf, cX8_stepsOf, 6, some .int, 8), (yX8_clashesOf, cX8_clashesOf, 8, some .int, 8), (yX8_firstChoices, cX8_firstChoices, 7, some .int, 8), (yX8_stepsIn, cX8_stepsIn, 2, some .int, 8), (yX9_init, cX9_init, 1, none, 9), (yX9_copyFrom, cX9_copyFrom, 2, none, 9), (yX9_readText, cX9_readText, 4, none, 9), (yX9_readLine, cX9_readLine, 2, none, 9), (yX9_passSeconds, cX9_passSeconds, 4, some .int, 9), (yX9_catchesNobody, cX9_catchesNobody, 4, some .boolean, 9), (yX9_secondsThatMatter, cX9_secondsThatMatter, 2, some .int, 9), (yX9_passSecond, cX9_passSecond, 4, some .int, 9), (yX9_catchPeople, cX9_catchPeople, 4, some .int, 9), (yX9_goBack, cX9_goBack, 8, none, 9), (yX9_pushAlong, cX9_pushAlong, 6, none, 9), (yX9_yardsInDanger, cX9_yardsInDanger, 3, some .int, 9), (yX10_init, cX10_init, 1, none, 10), (yX10_copyFrom, cX10_copyFrom, 2, none, 10), (yX10_readOne, cX10_readOne, 3, none, 10), (yX10_allAsBits, cX10_allAsBits, 1, some .int, 10), (yX10_sumOf, cX10_sumOf, 4, some .int, 10), (yX10_holdsOf, cX10_holdsOf, 4, some .int, 10), (yX10_roomIn, cX10_roomIn, 2, some .int, 10), (yX10_widenDoor, cX10_widenDoor, 3, none, 10), (yX10_catchIn, cX10_catchIn, 3, some .int, 10), (yX10_goInside, cX10_goInside, 4, some .int, 10), (yX10_comeOut, cX10_comeOut, 3, none, 10), (yX10_move, cX10_move, 5, some .int, 10), (yX11_init, cX11_init, 1, none, 11), (yX11_feed, cX11_feed, 6, some .int, 11), (yX11_end, cX11_end, 2, some .boolean, 11), (yX11_town, cX11_town, 1, some .int, 11), (yX11_law, cX11_law, 2, some .int, 11), (yX11_fault, cX11_fault, 1, some .int, 11), (yX11_yard, cX11_yard, 4, some .int, 11), (yX11_lane, cX11_lane, 4, some .int, 11), (yX11_barrel, cX11_barrel, 4, some .int, 11), (yX11_step, cX11_step, 3, some .int, 11)]
def mT_3 : List (MethodName × ByteArray × Nat × Option FieldType × Nat) := [(yX11_bearer, cX11_bearer, 3, some .int, 11), (yX11_seconds, cX11_seconds, 2, some .int, 11), (yX11_put, cX11_put, 3, some .boolean, 11), (yX11_come, cX11_come, 4, some .int, 11), (yX11_delay, cX11_delay, 4, some .int, 11), (yX11_door, cX11_door, 3, some .int, 11), (yX11_trial, cX11_trial, 2, some .int, 11), (yX11_opens, cX11_opens, 3, some .int, 11), (yX11_mends, cX11_mends, 5, some .int, 11), (yX11_isMendedBy, cX11_isMendedBy, 4, some .boolean, 11), (yX11_meet, cX11_meet, 3, some .int, 11), (yX11_starts, cX11_starts, 3, some .int, 11), (yX11_changes, cX11_changes, 3, some .int, 11), (yX11_last, cX11_last, 3, some .int, 11), (yX11_ambulance, cX11_ambulance, 6, some .int, 11), (yX11_keep, cX11_keep, 7, some .int, 11), (yX11_sparks, cX11_sparks, 3, some .int, 11), (yX11_let, cX11_let, 5, some .int, 11), (yX11_span, cX11_span, 7, some .int, 11), (yX11_checkCamera, cX11_checkCamera, 4, none, 11), (yX11_undo, cX11_undo, 1, some .boolean, 11), (yX11_image, cX11_image, 1, none, 11), (yX11_back, cX11_back, 1, some .boolean, 11), (yX11_count, cX11_count, 3, some .int, 11), (yX11_endReading, cX11_endReading, 1, none, 11), (yX11_checkYard, cX11_checkYard, 2, none, 11), (yX11_checkLane, cX11_checkLane, 2, none, 11), (yX11_checkBarrel, cX11_checkBarrel, 2, none, 11), (yX11_checkBounds, cX11_checkBounds, 3, none, 11), (yX12_thrown, cX12_thrown, 1, some .int, 12), (yX12_throwsIf, cX12_throwsIf, 3, some .boolean, 12), (yX12_in, cX12_in, 3, some .boolean, 12), (yX12_has, cX12_has, 2, some .boolean, 12), (yX12_init, cX12_init, 1, none, 12), (yX12_image, cX12_image, 2, none, 12), (yX12_back, cX12_back, 2, some .boolean, 12), (yX12_remembers, cX12_remembers, 2, none, 12), (yX12_undo, cX12_undo, 2, some .boolean, 12), (yX12_yards, cX12_yards, 1, some .int, 12), (yX12_lanes, cX12_lanes, 1, some .int, 12)]
def mT_4 : List (MethodName × ByteArray × Nat × Option FieldType × Nat) := [(yX12_barrels, cX12_barrels, 1, some .int, 12), (yX12_bearers, cX12_bearers, 1, some .int, 12), (yX12_of, cX12_of, 3, some .int, 12), (yX12_sets, cX12_sets, 4, none, 12), (yX12_ofLane, cX12_ofLane, 3, some .int, 12), (yX12_ofBarrel, cX12_ofBarrel, 3, some .int, 12), (yX12_setsBarrel, cX12_setsBarrel, 4, none, 12), (yX12_strong, cX12_strong, 2, some .int, 12), (yX12_family, cX12_family, 2, some .int, 12), (yX12_noYard, cX12_noYard, 2, some .boolean, 12), (yX12_noBarrel, cX12_noBarrel, 2, some .boolean, 12), (yX12_feed, cX12_feed, 7, some .int, 12), (yX12_end, cX12_end, 2, some .boolean, 12), (yX12_isAt, cX12_isAt, 3, some .boolean, 12), (yX12_blanks, cX12_blanks, 1, none, 12), (yX12_letters, cX12_letters, 1, none, 12), (yX12_isWord, cX12_isWord, 4, some .boolean, 12), (yX12_passes, cX12_passes, 2, some .boolean, 12), (yX12_sign, cX12_sign, 2, some .boolean, 12), (yX12_number, cX12_number, 4, some .int, 12), (yX12_after, cX12_after, 4, some .int, 12), (yX12_fault, cX12_fault, 1, some .int, 12), (yX12_uses, cX12_uses, 1, none, 12), (yX12_yardTold, cX12_yardTold, 1, some .int, 12), (yX12_readYard, cX12_readYard, 6, some .boolean, 12), (yX12_readLane, cX12_readLane, 4, some .boolean, 12), (yX12_isLane, cX12_isLane, 7, some .boolean, 12), (yX12_readWay, cX12_readWay, 4, some .boolean, 12), (yX12_readBarrel, cX12_readBarrel, 6, some .boolean, 12), (yX12_readBearer, cX12_readBearer, 4, some .boolean, 12), (yX12_readTownLine, cX12_readTownLine, 4, some .boolean, 12), (yX12_emits, cX12_emits, 3, none, 12), (yX12_readPart, cX12_readPart, 2, some .boolean, 12), (yX12_readSum, cX12_readSum, 1, some .boolean, 12), (yX12_readAtom, cX12_readAtom, 3, some .boolean, 12), (yX12_readAllOf, cX12_readAllOf, 1, some .boolean, 12), (yX12_readCond, cX12_readCond, 1, some .boolean, 12), (yX12_readLawLine, cX12_readLawLine, 3, some .boolean, 12), (yX12_readLine, cX12_readLine, 3, some .boolean, 12), (yX12_readAll, cX12_readAll, 3, some .int, 12)]
def mT_5 : List (MethodName × ByteArray × Nat × Option FieldType × Nat) := [(yX12_town, cX12_town, 3, some .int, 12), (yX12_law, cX12_law, 3, some .int, 12), (yX12_placeOf, cX12_placeOf, 5, some .int, 12), (yX12_yardOf, cX12_yardOf, 5, some .int, 12), (yX12_atOf, cX12_atOf, 2, some .int, 12), (yX12_isHeating, cX12_isHeating, 4, some .boolean, 12), (yX12_heater, cX12_heater, 3, some .int, 12), (yX12_factOf, cX12_factOf, 5, some .int, 12), (yX12_holdsLine, cX12_holdsLine, 11, some .boolean, 12), (yX12_goBack, cX12_goBack, 5, some .int, 12), (yX12_room, cX12_room, 2, some .int, 12), (yX12_goes, cX12_goes, 4, none, 12), (yX12_catches, cX12_catches, 4, none, 12), (yX12_parts, cX12_parts, 6, none, 12), (yX12_pushes, cX12_pushes, 6, none, 12), (yX12_second, cX12_second, 3, none, 12), (yX12_runs, cX12_runs, 4, some .int, 12), (yX12_besideOf, cX12_besideOf, 5, some .int, 12), (yX12_yard, cX12_yard, 3, some .int, 12), (yX12_lane, cX12_lane, 3, some .int, 12), (yX12_burns, cX12_burns, 2, some .int, 12), (yX12_barrel, cX12_barrel, 3, some .int, 12), (yX12_step, cX12_step, 3, some .int, 12), (yX12_bearer, cX12_bearer, 3, some .int, 12), (yX12_seconds, cX12_seconds, 2, some .int, 12), (yX12_put, cX12_put, 4, some .boolean, 12), (yX12_come, cX12_come, 4, some .int, 12), (yX12_delay, cX12_delay, 3, some .int, 12), (yX12_door, cX12_door, 3, some .int, 12), (yX12_keeps, cX12_keeps, 2, none, 12), (yX12_brings, cX12_brings, 2, none, 12), (yX12_trial, cX12_trial, 3, some .int, 12), (yX12_opens, cX12_opens, 4, some .int, 12), (yX12_mends, cX12_mends, 5, some .int, 12), (yX12_meetOf, cX12_meetOf, 12, some .int, 12), (yX12_meet, cX12_meet, 3, some .int, 12), (yX12_isClear, cX12_isClear, 4, some .boolean, 12), (yX12_starts, cX12_starts, 6, some .int, 12), (yX12_carries, cX12_carries, 3, some .int, 12), (yX12_needOf, cX12_needOf, 3, some .int, 12)]
def mT_6 : List (MethodName × ByteArray × Nat × Option FieldType × Nat) := [(yX12_canFollow, cX12_canFollow, 5, some .boolean, 12), (yX12_needs, cX12_needs, 8, some .int, 12), (yX12_changes, cX12_changes, 8, some .int, 12), (yX12_last, cX12_last, 9, some .int, 12), (yX12_taken, cX12_taken, 5, some .int, 12), (yX12_spread, cX12_spread, 4, some .int, 12), (yX12_ambulance, cX12_ambulance, 5, some .int, 12), (yX12_keep, cX12_keep, 7, some .int, 12), (yX12_danger, cX12_danger, 4, some .int, 12), (yX12_sparks, cX12_sparks, 7, some .int, 12), (yX12_let, cX12_let, 5, some .int, 12), (yX12_span, cX12_span, 8, some .int, 12), (yX12_count, cX12_count, 4, some .int, 12), (yJ6_bitCount_0f7a4, cJ6_bitCount_0f7a4, 1, some .int, 14), (yL_town, cL_town, 3, some .int, 13), (yL_law, cL_law, 3, some .int, 13), (yL_yard, cL_yard, 5, some .int, 13), (yL_lane, cL_lane, 5, some .int, 13), (yL_barrel, cL_barrel, 5, some .int, 13), (yL_step, cL_step, 5, some .int, 13), (yL_bearer, cL_bearer, 5, some .int, 13), (yL_seconds, cL_seconds, 4, some .int, 13), (yL_put, cL_put, 5, some .int, 13), (yL_come, cL_come, 5, some .int, 13), (yL_delay, cL_delay, 5, some .int, 13), (yL_door, cL_door, 5, some .int, 13), (yL_trial, cL_trial, 4, some .int, 13), (yL_opens, cL_opens, 4, some .int, 13), (yL_mends, cL_mends, 4, some .int, 13), (yL_meet, cL_meet, 5, some .int, 13), (yL_starts, cL_starts, 5, some .int, 13), (yL_changes, cL_changes, 5, some .int, 13), (yL_last, cL_last, 5, some .int, 13), (yL_ambulance, cL_ambulance, 5, some .int, 13), (yL_span, cL_span, 4, some .int, 13), (yL_law_, cL_law_, 7, some .boolean, 13)]
def mT : List (MethodName × ByteArray × Nat × Option FieldType × Nat) := mT_0 ++ (mT_1 ++ (mT_2 ++ (mT_3 ++ (mT_4 ++ (mT_5 ++ (mT_6))))))
def mfT_0 : List (Nat × Nat × Nat × Nat × Nat) := [(0, 11, 0, 1, 6), (0, 15, 0, 2, 6), (0, 18, 0, 3, 6), (0, 21, 0, 4, 6), (0, 24, 0, 5, 6), (0, 27, 0, 6, 6), (0, 30, 0, 0, 0), (1, 11, 1, 1, 6), (1, 15, 1, 2, 6), (1, 18, 1, 0, 0), (2, 11, 2, 2, 6), (2, 15, 2, 3, 6), (2, 18, 2, 0, 0), (2, 22, 2, 1, 0), (3, 9, 3, 2, 6), (3, 15, 3, 1, 0), (3, 25, 3, 0, 0), (3, 122, 8, 0, 6), (3, 128, 9, 1, 0), (3, 138, 8, 2, 6), (3, 142, 8, 6, 0), (3, 149, 9, 3, 6), (3, 151, 9, 2, 6), (3, 153, 9, 6, 6), (3, 155, 0, 4, 6), (3, 157, 8, 7, 0), (4, 11, 4, 2, 6), (4, 16, 4, 0, 0), (4, 20, 4, 1, 0), (5, 13, 5, 3, 6), (5, 17, 5, 4, 6), (5, 20, 5, 5, 6), (5, 23, 1, 0, 0), (5, 27, 5, 1, 0), (5, 30, 5, 2, 0), (5, 33, 5, 0, 0), (5, 36, 1, 2, 6), (7, 9, 6, 1, 0), (7, 15, 6, 2, 6), (7, 19, 6, 0, 0), (7, 26, 6, 3, 0), (7, 29, 6, 5, 0), (7, 38, 6, 4, 0), (8, 13, 7, 0, 6), (8, 17, 0, 0, 0), (9, 12, 8, 0, 6), (9, 21, 8, 1, 6), (9, 28, 8, 2, 6), (9, 35, 8, 3, 6), (9, 39, 8, 8, 0)]
def mfT_1 : List (Nat × Nat × Nat × Nat × Nat) := [(9, 56, 8, 4, 2), (9, 60, 8, 5, 0), (9, 63, 8, 6, 0), (9, 66, 8, 7, 0), (9, 98, 9, 0, 0), (9, 123, 2, 0, 0), (9, 179, 0, 0, 0), (9, 195, 9, 3, 6), (9, 210, 2, 2, 6), (9, 213, 2, 3, 6), (9, 215, 0, 4, 6), (9, 221, 9, 1, 0), (10, 11, 9, 2, 6), (10, 15, 9, 3, 6), (10, 18, 9, 4, 6), (10, 21, 9, 5, 6), (10, 24, 9, 6, 6), (10, 27, 9, 7, 6), (10, 30, 9, 0, 0), (10, 34, 9, 1, 0), (11, 10, 10, 0, 6), (11, 19, 10, 1, 6), (11, 23, 10, 2, 6), (11, 26, 10, 3, 6), (11, 32, 10, 4, 6), (11, 39, 10, 5, 6), (11, 46, 10, 6, 6), (11, 52, 10, 7, 6), (11, 56, 10, 9, 0), (11, 68, 6, 0, 0), (11, 82, 8, 5, 0), (11, 100, 8, 4, 2), (11, 104, 3, 0, 0), (11, 110, 8, 0, 6), (11, 114, 9, 2, 6), (11, 117, 9, 3, 6), (11, 120, 9, 4, 6), (11, 123, 9, 5, 6), (11, 126, 9, 6, 6), (11, 129, 9, 1, 0), (11, 132, 9, 7, 6), (11, 135, 8, 2, 6), (11, 139, 8, 6, 0), (11, 148, 8, 1, 6), (11, 166, 2, 2, 6), (11, 169, 2, 3, 6), (11, 179, 0, 1, 6), (11, 182, 0, 2, 6), (11, 185, 0, 3, 6), (11, 188, 0, 4, 6)]
def mfT_2 : List (Nat × Nat × Nat × Nat × Nat) := [(11, 191, 0, 5, 6), (11, 198, 8, 7, 0), (11, 213, 8, 3, 6), (11, 217, 1, 0, 0), (11, 227, 1, 2, 6), (11, 230, 1, 1, 6), (11, 270, 9, 0, 0), (11, 301, 5, 0, 0), (11, 354, 10, 8, 1), (11, 358, 2, 0, 0), (11, 359, 0, 0, 0), (11, 364, 8, 8, 0), (11, 370, 4, 0, 0), (11, 371, 6, 1, 0), (12, 3, 11, 0, 0), (12, 13, 11, 1, 6), (12, 17, 11, 2, 6), (12, 20, 11, 3, 6), (12, 23, 11, 4, 6), (12, 26, 11, 5, 6), (12, 29, 11, 8, 6), (12, 33, 11, 14, 0), (12, 36, 11, 15, 6), (12, 39, 11, 17, 6), (12, 42, 11, 18, 6), (12, 45, 11, 19, 6), (12, 48, 11, 20, 6), (12, 52, 11, 21, 6), (12, 55, 11, 22, 6), (12, 58, 11, 23, 6), (12, 61, 11, 6, 1), (12, 65, 11, 7, 0), (12, 79, 11, 9, 0), (12, 82, 11, 10, 0), (12, 85, 11, 11, 0), (12, 92, 11, 12, 0), (12, 200, 11, 16, 0), (12, 221, 11, 13, 0)]
def mfT : List (Nat × Nat × Nat × Nat × Nat) := mfT_0 ++ (mfT_1 ++ (mfT_2))
def mcT_0 : List (Nat × Nat × Nat × Nat × Nat) := [(0, 3, 10, 0, 1), (0, 34, 13, 0, 5), (0, 40, 0, 71, 1), (0, 47, 0, 78, 2), (0, 53, 0, 79, 3), (0, 61, 0, 3, 3), (0, 65, 0, 72, 1), (0, 69, 0, 4, 3), (0, 72, 0, 80, 1), (0, 76, 0, 31, 3), (0, 82, 0, 5, 3), (0, 85, 12, 0, 2), (0, 90, 0, 6, 3), (0, 93, 0, 12, 3), (0, 96, 2, 59, 2), (0, 101, 0, 15, 3), (0, 104, 11, 0, 2), (1, 3, 10, 0, 1), (1, 22, 13, 0, 5), (1, 28, 0, 71, 1), (1, 35, 0, 78, 2), (1, 39, 0, 79, 3), (1, 43, 0, 21, 3), (1, 46, 0, 23, 2), (1, 50, 2, 59, 2), (1, 56, 2, 253, 1), (1, 61, 2, 25, 2), (1, 64, 0, 22, 2), (1, 67, 2, 62, 1), (2, 3, 10, 0, 1), (2, 25, 13, 0, 5), (2, 31, 0, 71, 1), (2, 38, 0, 78, 2), (2, 42, 0, 79, 3), (2, 46, 0, 80, 1), (2, 50, 0, 30, 3), (2, 54, 2, 59, 2), (2, 60, 0, 29, 2), (2, 66, 0, 32, 3), (2, 70, 2, 36, 3)]
def mcT_1 : List (Nat × Nat × Nat × Nat × Nat) := [(2, 74, 2, 40, 2), (3, 3, 10, 0, 1), (3, 19, 0, 68, 1), (3, 30, 0, 78, 2), (3, 34, 0, 79, 3), (3, 40, 0, 76, 2), (3, 44, 0, 41, 3), (3, 48, 0, 38, 3), (3, 52, 0, 75, 2), (3, 56, 0, 69, 2), (3, 60, 0, 42, 3), (3, 65, 0, 43, 3), (3, 72, 0, 74, 2), (3, 75, 0, 73, 2), (3, 78, 0, 71, 1), (3, 81, 0, 77, 2), (3, 89, 0, 45, 2), (3, 93, 2, 46, 1), (3, 97, 0, 70, 1), (3, 114, 2, 49, 4), (3, 118, 2, 48, 2), (3, 132, 2, 59, 2), (3, 144, 0, 6, 3), (4, 1, 10, 0, 1), (4, 15, 3, 86, 1), (4, 23, 0, 87, 2), (4, 27, 11, 0, 2), (5, 5, 10, 0, 1), (5, 39, 0, 22, 2), (5, 43, 2, 62, 1), (5, 48, 0, 21, 3), (5, 52, 0, 56, 4), (5, 56, 2, 253, 1), (5, 61, 2, 59, 2), (5, 65, 0, 58, 3), (6, 7, 2, 61, 1), (6, 13, 2, 253, 1), (6, 18, 2, 60, 1), (6, 21, 2, 62, 1), (7, 3, 10, 0, 1)]
def mcT_2 : List (Nat × Nat × Nat × Nat × Nat) := [(7, 22, 0, 66, 2), (7, 32, 0, 70, 1), (7, 35, 0, 71, 1), (7, 41, 14, 0, 1), (7, 47, 15, 0, 2), (7, 51, 0, 73, 2), (7, 55, 0, 74, 2), (7, 59, 0, 75, 2), (7, 62, 0, 76, 2), (7, 65, 0, 80, 1), (8, 3, 10, 0, 1), (8, 21, 2, 83, 4), (8, 25, 0, 84, 4), (8, 29, 2, 85, 2), (8, 33, 0, 17, 5), (8, 37, 2, 62, 1), (9, 3, 10, 0, 1), (9, 11, 3, 98, 1), (9, 20, 3, 26, 1), (9, 27, 3, 0, 1), (9, 34, 3, 18, 1), (9, 43, 0, 99, 2), (9, 47, 0, 27, 2), (9, 50, 0, 1, 2), (9, 53, 0, 19, 2), (9, 69, 0, 68, 1), (9, 75, 0, 89, 2), (9, 79, 0, 75, 2), (9, 83, 0, 69, 2), (9, 89, 0, 74, 2), (9, 93, 0, 100, 2), (9, 101, 0, 28, 3), (9, 106, 0, 2, 4), (9, 111, 0, 20, 2), (9, 113, 0, 76, 2), (9, 116, 0, 79, 3), (9, 124, 0, 30, 3), (9, 130, 0, 71, 1), (9, 133, 0, 93, 1), (9, 137, 0, 92, 2)]
def mcT_3 : List (Nat × Nat × Nat × Nat × Nat) := [(9, 141, 0, 8, 1), (9, 144, 11, 0, 2), (9, 149, 12, 0, 2), (9, 152, 0, 94, 1), (9, 155, 0, 11, 2), (9, 158, 2, 59, 2), (9, 164, 0, 95, 3), (9, 168, 0, 108, 2), (9, 172, 0, 29, 2), (9, 176, 0, 96, 3), (9, 180, 0, 7, 3), (9, 183, 0, 106, 2), (9, 186, 0, 13, 3), (9, 189, 0, 47, 4), (9, 199, 0, 107, 3), (9, 202, 0, 32, 3), (9, 206, 0, 109, 4), (9, 218, 0, 14, 2), (10, 3, 10, 0, 1), (10, 37, 13, 0, 5), (10, 43, 0, 71, 1), (10, 50, 0, 78, 2), (10, 54, 0, 79, 3), (10, 61, 0, 76, 2), (10, 65, 2, 59, 2), (10, 71, 11, 0, 2), (10, 76, 12, 0, 2), (10, 79, 0, 104, 2), (11, 1, 10, 0, 1), (11, 9, 3, 63, 1), (11, 18, 3, 86, 1), (11, 31, 1, 50, 1), (11, 38, 3, 81, 1), (11, 45, 3, 54, 1), (11, 60, 0, 64, 2), (11, 64, 0, 65, 2), (11, 71, 0, 87, 2), (11, 75, 0, 88, 2), (11, 79, 0, 144, 1), (11, 92, 0, 51, 1)]
def mcT_4 : List (Nat × Nat × Nat × Nat × Nat) := [(11, 97, 1, 37, 2), (11, 99, 0, 39, 2), (11, 107, 0, 145, 2), (11, 142, 0, 11, 2), (11, 152, 0, 32, 3), (11, 163, 0, 146, 2), (11, 171, 0, 29, 2), (11, 176, 0, 147, 2), (11, 194, 0, 6, 3), (11, 201, 0, 15, 3), (11, 204, 0, 16, 3), (11, 210, 0, 4, 3), (11, 233, 2, 148, 3), (11, 237, 0, 52, 2), (11, 240, 0, 90, 2), (11, 243, 0, 30, 3), (11, 247, 0, 104, 2), (11, 250, 11, 0, 2), (11, 260, 0, 105, 3), (11, 264, 0, 92, 2), (11, 267, 0, 91, 2), (11, 271, 0, 129, 3), (11, 274, 2, 40, 2), (11, 279, 2, 59, 2), (11, 287, 0, 17, 5), (11, 291, 0, 82, 4), (11, 297, 0, 55, 4), (11, 304, 0, 57, 2), (11, 307, 0, 24, 3), (11, 310, 0, 10, 2), (11, 313, 0, 101, 1), (11, 317, 0, 34, 3), (11, 320, 0, 97, 1), (11, 323, 0, 35, 4), (11, 327, 0, 33, 2), (11, 332, 0, 66, 2), (11, 335, 0, 67, 2), (11, 338, 0, 139, 4), (11, 341, 0, 103, 2), (11, 350, 0, 53, 2)]
def mcT_5 : List (Nat × Nat × Nat × Nat × Nat) := [(11, 360, 0, 102, 2), (11, 367, 0, 9, 2), (12, 7, 10, 0, 1), (12, 68, 0, 158, 1), (12, 72, 2, 151, 3), (12, 76, 0, 160, 1), (12, 88, 0, 173, 3), (12, 95, 0, 174, 1), (12, 98, 14, 0, 1), (12, 103, 15, 0, 2), (12, 107, 0, 175, 1), (12, 110, 0, 176, 2), (12, 114, 0, 179, 3), (12, 120, 0, 180, 4), (12, 126, 0, 163, 4), (12, 132, 0, 177, 2), (12, 135, 0, 159, 1), (12, 138, 0, 183, 1), (12, 141, 0, 164, 3), (12, 146, 0, 165, 3), (12, 149, 0, 186, 4), (12, 153, 0, 166, 4), (12, 164, 0, 187, 2), (12, 168, 0, 161, 1), (12, 173, 0, 184, 1), (12, 179, 0, 185, 1), (12, 184, 0, 188, 1), (12, 189, 0, 189, 1), (12, 203, 0, 191, 3), (12, 215, 0, 192, 1), (12, 218, 0, 178, 2), (12, 224, 0, 196, 1), (12, 229, 0, 194, 1), (12, 232, 0, 193, 1), (12, 237, 0, 195, 1), (12, 246, 0, 190, 1), (12, 249, 0, 197, 2), (12, 252, 0, 182, 1), (12, 255, 0, 198, 3), (12, 259, 0, 199, 2)]
def mcT_6 : List (Nat × Nat × Nat × Nat × Nat) := [(12, 263, 0, 150, 3), (12, 266, 0, 202, 4), (12, 270, 0, 203, 4), (12, 273, 0, 205, 3), (12, 276, 0, 162, 3), (12, 279, 0, 204, 2), (12, 283, 0, 207, 5), (12, 287, 0, 208, 4), (12, 290, 12, 0, 2), (12, 295, 0, 209, 3), (12, 298, 11, 0, 2), (12, 301, 0, 210, 2), (12, 304, 0, 211, 4), (12, 307, 0, 206, 2), (12, 310, 0, 212, 2), (12, 314, 0, 213, 2), (12, 317, 0, 214, 2), (12, 320, 0, 215, 1), (12, 322, 0, 169, 2), (12, 325, 0, 217, 3), (12, 329, 0, 170, 2), (12, 332, 0, 220, 2), (12, 335, 0, 168, 2), (12, 338, 0, 167, 2), (12, 341, 0, 156, 1), (12, 344, 0, 216, 2), (12, 347, 0, 229, 1), (12, 350, 0, 230, 1), (12, 353, 2, 253, 1), (12, 358, 2, 152, 2), (12, 361, 0, 234, 5), (12, 364, 0, 236, 2), (12, 367, 0, 238, 3), (12, 371, 0, 240, 5), (12, 375, 0, 239, 3), (12, 378, 0, 241, 2), (12, 381, 0, 244, 2), (12, 384, 0, 245, 2), (12, 387, 0, 248, 1), (13, 7, 0, 113, 1)]
def mcT_7 : List (Nat × Nat × Nat × Nat × Nat) := [(13, 17, 0, 114, 1), (13, 20, 0, 116, 3), (13, 28, 0, 117, 3), (13, 31, 0, 118, 3), (13, 34, 0, 119, 3), (13, 37, 0, 120, 3), (13, 41, 0, 121, 2), (13, 45, 0, 122, 3), (13, 49, 0, 123, 3), (13, 52, 0, 124, 3), (13, 57, 0, 125, 3), (13, 60, 0, 126, 2), (13, 63, 0, 127, 2), (13, 66, 0, 128, 2), (13, 69, 0, 130, 3), (13, 72, 0, 131, 3), (13, 75, 0, 132, 3), (13, 78, 0, 133, 3), (13, 81, 0, 134, 3), (13, 84, 0, 138, 2), (13, 88, 1, 110, 1), (13, 91, 1, 153, 1), (13, 92, 0, 111, 6), (13, 96, 0, 171, 6), (13, 97, 0, 112, 2), (13, 101, 0, 172, 2), (13, 102, 2, 254, 2), (13, 107, 0, 200, 1), (13, 108, 0, 149, 1), (13, 111, 2, 255, 2), (13, 113, 0, 201, 1), (13, 114, 0, 115, 1), (13, 117, 0, 181, 1), (13, 118, 2, 256, 4), (13, 121, 0, 218, 3), (13, 122, 2, 257, 4), (13, 124, 0, 219, 3), (13, 125, 2, 258, 4), (13, 127, 0, 221, 3), (13, 128, 2, 259, 4)]
def mcT_8 : List (Nat × Nat × Nat × Nat × Nat) := [(13, 130, 0, 222, 3), (13, 131, 2, 260, 4), (13, 134, 0, 223, 3), (13, 135, 2, 261, 3), (13, 138, 0, 224, 2), (13, 139, 2, 262, 4), (13, 141, 0, 225, 3), (13, 142, 2, 263, 4), (13, 144, 0, 226, 3), (13, 145, 2, 264, 4), (13, 147, 0, 227, 3), (13, 148, 2, 265, 4), (13, 150, 0, 228, 3), (13, 151, 2, 266, 3), (13, 153, 0, 231, 2), (13, 154, 2, 267, 3), (13, 156, 0, 232, 2), (13, 157, 2, 268, 3), (13, 159, 0, 233, 2), (13, 160, 2, 269, 4), (13, 162, 0, 235, 3), (13, 163, 2, 270, 4), (13, 165, 0, 237, 3), (13, 166, 2, 271, 4), (13, 168, 0, 242, 3), (13, 169, 2, 272, 4), (13, 171, 0, 243, 3), (13, 172, 2, 273, 4), (13, 174, 0, 246, 3), (13, 175, 0, 135, 1), (13, 178, 0, 247, 1), (13, 179, 0, 136, 2), (13, 182, 0, 249, 2), (13, 183, 0, 137, 2), (13, 186, 0, 250, 2), (13, 187, 2, 274, 3), (13, 190, 0, 251, 2), (13, 191, 0, 140, 1), (13, 195, 0, 157, 1), (13, 196, 0, 141, 1)]
def mcT_9 : List (Nat × Nat × Nat × Nat × Nat) := [(13, 199, 0, 154, 1), (13, 200, 0, 142, 1), (13, 203, 0, 155, 1), (13, 204, 0, 143, 2), (13, 207, 0, 252, 2)]
def mcT : List (Nat × Nat × Nat × Nat × Nat) := mcT_0 ++ (mcT_1 ++ (mcT_2 ++ (mcT_3 ++ (mcT_4 ++ (mcT_5 ++ (mcT_6 ++ (mcT_7 ++ (mcT_8 ++ (mcT_9)))))))))
def mlT_0 : List (Nat × Nat × Nat × Nat) := [(0, 45, 0, 8), (0, 51, 0, 9), (0, 57, 0, 10), (0, 58, 0, 11), (0, 59, 0, 12), (0, 60, 0, 13), (1, 33, 0, 15), (2, 36, 0, 6), (3, 28, 0, 22), (3, 38, 0, 23), (3, 63, 0, 35), (3, 68, 0, 34), (3, 70, 0, 24), (3, 85, 0, 25), (3, 87, 0, 26), (3, 100, 0, 27), (3, 102, 0, 28), (3, 104, 0, 29), (3, 106, 0, 30), (3, 108, 0, 31), (3, 110, 0, 32), (3, 112, 0, 33), (9, 87, 0, 0), (9, 96, 0, 5), (9, 104, 0, 7), (9, 109, 0, 14), (9, 112, 0, 16), (9, 120, 0, 17), (9, 121, 0, 18), (9, 128, 0, 19), (10, 48, 0, 1), (10, 58, 0, 2), (10, 59, 0, 3), (10, 60, 0, 4), (11, 87, 0, 21), (11, 160, 0, 37), (11, 174, 0, 39), (11, 208, 0, 41), (11, 224, 0, 42), (11, 257, 0, 44), (11, 284, 0, 45), (11, 295, 0, 46), (11, 330, 0, 47), (11, 344, 0, 36), (11, 346, 0, 48), (11, 348, 0, 49), (11, 374, 0, 20), (11, 376, 0, 38), (11, 378, 0, 40), (11, 380, 0, 43), (12, 118, 0, 51), (12, 124, 0, 52), (12, 130, 0, 53), (12, 144, 0, 60), (12, 156, 0, 56), (12, 158, 0, 57), (12, 160, 0, 58), (12, 162, 0, 59), (12, 171, 0, 50), (12, 177, 0, 54), (12, 182, 0, 55), (12, 187, 0, 61), (12, 192, 0, 62), (12, 194, 0, 63), (12, 196, 0, 64), (12, 198, 0, 65), (12, 207, 0, 69), (12, 209, 0, 70), (12, 211, 0, 71), (12, 213, 0, 72), (12, 227, 0, 68), (12, 235, 0, 73), (12, 240, 0, 74), (12, 242, 0, 66), (12, 244, 0, 67), (12, 370, 1, 1000000), (14, 265, 1, 1431655765), (14, 266, 1, 858993459), (14, 267, 1, 252645135)]
def mlT : List (Nat × Nat × Nat × Nat) := mlT_0
def mnT_0 : List (Nat × Nat × Nat) := [(4, 9, 8), (9, 9, 9), (9, 18, 2), (9, 25, 0), (9, 32, 1), (11, 7, 6), (11, 16, 8), (11, 29, 4), (11, 36, 7), (11, 43, 5), (11, 95, 3), (13, 8, 10), (13, 89, 11)]
def mnT : List (Nat × Nat × Nat) := mnT_0
def mxT_0 : List (Nat × Nat × Nat × Nat × Nat × Nat × Nat) := [(113, 38, 1, 85, 87, 89, 0), (116, 158, 3, 158, 160, 162, 0), (117, 68, 3, 158, 174, 162, 0), (118, 142, 3, 158, 208, 162, 0), (120, 18, 2, 222, 224, 226, 0), (124, 36, 4, 255, 257, 259, 1), (130, 15, 0, 282, 284, 286, 1), (132, 10, 0, 282, 295, 286, 1), (138, 22, 0, 282, 330, 286, 1), (139, 18, 0, 282, 344, 286, 1), (139, 37, 0, 282, 346, 286, 1), (139, 64, 0, 282, 348, 286, 1), (144, 27, 0, 282, 374, 286, 1), (145, 18, 2, 222, 344, 226, 1), (146, 18, 2, 222, 376, 226, 1), (147, 18, 2, 222, 378, 226, 1), (148, 10, 0, 282, 380, 286, 1)]
def mxT : List (Nat × Nat × Nat × Nat × Nat × Nat × Nat) := mxT_0
def mhT_0 : List (Nat × Nat × Nat × Nat × Nat × Nat) := [(254, 0, 8, 11, 0, 1), (254, 0, 8, 14, 1, 2), (255, 0, 8, 11, 0, 1), (256, 0, 10, 13, 2, 1), (256, 0, 10, 17, 3, 2), (257, 0, 10, 13, 2, 1), (257, 0, 10, 17, 3, 2), (258, 0, 10, 13, 2, 1), (258, 0, 10, 17, 3, 2), (259, 0, 10, 13, 2, 1), (260, 0, 10, 13, 2, 1), (261, 0, 9, 12, 0, 1), (262, 0, 17, 20, 2, 1), (263, 0, 10, 13, 2, 1), (263, 0, 10, 17, 0, 2), (264, 0, 10, 13, 2, 1), (264, 0, 10, 17, 0, 2), (264, 0, 10, 21, 4, 3), (265, 0, 10, 13, 2, 1), (265, 0, 10, 17, 0, 2), (266, 0, 9, 12, 0, 1), (267, 0, 9, 12, 2, 1), (268, 0, 9, 12, 0, 1), (269, 0, 10, 13, 2, 1), (269, 0, 10, 17, 0, 2), (270, 0, 10, 13, 2, 1), (270, 0, 10, 17, 0, 2), (271, 0, 10, 13, 2, 1), (271, 0, 10, 17, 0, 2), (272, 0, 10, 13, 2, 1), (272, 0, 10, 17, 0, 2), (273, 0, 10, 13, 2, 1), (274, 0, 9, 12, 0, 1)]
def mhT : List (Nat × Nat × Nat × Nat × Nat × Nat) := mhT_0
def mtx_0 : List (List Nat) := [[121, 97, 114, 100], [121, 97, 114, 100], [119, 97, 108, 108], [100, 111, 111, 114], [116, 104, 97, 116, 99, 104], [108, 97, 110, 101], [108, 97, 110, 101], [98, 97, 114, 114, 101, 108], [98, 97, 114, 114, 101, 108], [97, 116], [112, 97, 99, 101], [116, 97, 114], [119, 101, 105, 103, 104, 116], [119, 97, 121], [98, 101, 97, 114, 101, 114], [98, 101, 97, 114, 101, 114], [119, 105, 110, 100], [112, 117, 115, 104], [115, 104, 117, 116], [111, 112, 101, 110], [116, 104, 101, 32, 116, 101, 120, 116, 32, 105, 115, 32, 119, 114, 111, 110, 103], [116, 104, 101, 114, 101, 32, 97, 114, 101, 32, 49, 48, 32, 116, 101, 120, 116, 115], [98, 97, 99, 107], [105, 102], [110, 111, 116], [116, 104, 97, 116, 99, 104], [97, 116], [112, 101, 111, 112, 108, 101], [104, 111, 108, 100, 115], [105, 110, 115, 105, 100, 101], [121, 97, 114, 100], [119, 101, 105, 103, 104, 116], [119, 105, 110, 100], [115, 101, 99, 111, 110, 100], [97, 110, 100], [111, 114], [116, 104, 101, 114, 101, 32, 105, 115, 32, 110, 111, 32, 115, 117, 99, 104, 32, 121, 97, 114, 100], [97, 32, 121, 97, 114, 100, 32, 104, 97, 115, 32, 110, 111, 32, 115, 117, 99, 104, 32, 116, 104, 105, 110, 103], [116, 104, 101, 114, 101, 32, 105, 115, 32, 110, 111, 32, 115, 117, 99, 104, 32, 108, 97, 110, 101], [97, 32, 108, 97, 110, 101, 32, 104, 97, 115, 32, 110, 111, 32, 115, 117, 99, 104, 32, 116, 104, 105, 110, 103], [116, 104, 101, 114, 101, 32, 105, 115, 32, 110, 111, 32, 115, 117, 99, 104, 32, 98, 97, 114, 114, 101, 108], [97, 32, 98, 97, 114, 114, 101, 108, 32, 104, 97, 115, 32, 110, 111, 32, 115, 117, 99, 104, 32, 116, 104, 105, 110, 103], [116, 104, 101, 114, 101, 32, 105, 115, 32, 110, 111, 32, 115, 117, 99, 104, 32, 98, 101, 97, 114, 101, 114], [116, 104, 101, 32, 110, 117, 109, 98, 101, 114, 32, 105, 115, 32, 111, 117, 116, 32, 111, 102, 32, 105, 116, 115, 32, 98, 111, 117, 110, 100, 115], [105, 116, 115, 32, 115, 116, 97, 114, 116, 32, 105, 115, 32, 110, 111, 116, 32, 97, 98, 111, 118, 101, 32, 116, 104, 101, 32, 115, 101, 99, 111, 110, 100], [98, 111, 116, 104, 32, 97, 114, 101, 32, 111, 110, 101, 32, 98, 97, 114, 114, 101, 108], [116, 104, 101, 114, 101, 32, 105, 115, 32, 110, 111, 32, 115, 117, 99, 104, 32, 112, 108, 97, 99, 101, 32, 105, 110, 32, 116, 104, 101, 32, 114, 111, 119], [116, 104, 101, 32, 108, 97, 115, 116, 32, 99, 97, 109, 101, 114, 97, 32, 105, 115, 32, 110, 111, 116, 32, 116, 111, 108, 100, 32, 119, 104, 111, 108, 101], [97, 32, 121, 97, 114, 100, 32, 105, 115, 32, 116, 111, 108, 100, 32, 116, 119, 105, 99, 101], [109, 111, 114, 101, 32, 97, 114, 101, 32, 116, 111, 108, 100, 32, 116, 104, 97, 110, 32, 116, 104, 101, 32, 121, 97, 114, 100, 32, 104, 111, 108, 100, 115], [121, 97, 114, 100], [119, 97, 108, 108], [100, 111, 111, 114], [116, 104, 97, 116, 99, 104], [108, 97, 110, 101], [98, 97, 114, 114, 101, 108], [97, 116], [112, 97, 99, 101], [116, 97, 114], [119, 101, 105, 103, 104, 116], [119, 97, 121], [98, 101, 97, 114, 101, 114], [119, 105, 110, 100], [112, 117, 115, 104], [111, 112, 101, 110], [115, 104, 117, 116], [98, 97, 99, 107], [105, 102], [110, 111, 116], [112, 101, 111, 112, 108, 101], [104, 111, 108, 100, 115], [105, 110, 115, 105, 100, 101], [115, 101, 99, 111, 110, 100], [97, 110, 100], [111, 114]]
def mtx : List (List Nat) := mtx_0
/-! THE ABSTRACT MACHINE: cells by their addresses, one step of one method, runs by fuel and depth -/
abbrev mS : Type := va_W × Nat × Nat
abbrev mO : Type := Option Value ⊕ Nat
abbrev mA : Type := (Nat × List Value × List Value × mS) ⊕ ((Nat × List Value × Nat × List Value × List Value × mS) ⊕ (mO × mS))
def mget (ws : va_W) (a : Nat) : Option va_E := (ws.find? (fun p => p.1 == a)).map (fun p => p.2)
def mset (ws : va_W) (a : Nat) (e : va_E) : va_W := ws.map (fun p => if p.1 == a then (a, e) else p)
def mfld (σ : mS) (a ci k : Nat) : Option Value := match mget σ.1 a with
  | some (.inr (c, fs)) => if c = ci then fs[k]? else none
  | _ => none
def mput (σ : mS) (a ci k : Nat) (v : Value) : Option mS := match mget σ.1 a with
  | some (.inr (c, fs)) => if c = ci ∧ k < fs.length then some (mset σ.1 a (.inr (c, fs.set k v)), σ.2) else none
  | _ => none
def mcls (σ : mS) (b ci : Nat) : Bool := match mget σ.1 b with
  | some (.inr (c, _)) => c == ci
  | _ => false
def minb (i : Int32) (n : Nat) : Bool := !(decide (i < 0) || decide (n ≤ i.toNatClampNeg))
def mild (κ : Nat → Nat) (t : Nat) (σ : mS) (a : Nat) (i : Int32) : Option Int32 := match mget σ.1 a with
  | some (.inl (c, n, .inl f)) => if c = κ t ∧ minb i n = true then some (f i.toNatClampNeg) else none
  | _ => none
def mist (κ : Nat → Nat) (t : Nat) (σ : mS) (a : Nat) (i x : Int32) : Option mS := match mget σ.1 a with
  | some (.inl (c, n, .inl f)) => if c = κ t ∧ minb i n = true then some (mset σ.1 a (.inl (c, n, .inl (upd f i.toNatClampNeg x))), σ.2) else none
  | _ => none
def mlld (κ : Nat → Nat) (σ : mS) (a : Nat) (i : Int32) : Option Int64 := match mget σ.1 a with
  | some (.inl (c, n, .inr (.inl f))) => if c = κ 3 ∧ minb i n = true then some (f i.toNatClampNeg) else none
  | _ => none
def mlst (κ : Nat → Nat) (σ : mS) (a : Nat) (i : Int32) (x : Int64) : Option mS := match mget σ.1 a with
  | some (.inl (c, n, .inr (.inl f))) => if c = κ 3 ∧ minb i n = true then some (mset σ.1 a (.inl (c, n, .inr (.inl (vp_updL f i.toNatClampNeg x)))), σ.2) else none
  | _ => none
def mald (κ : Nat → Nat) (σ : mS) (a : Nat) (i : Int32) : Option Value := match mget σ.1 a with
  | some (.inl (c, n, .inr (.inr (.inr (.inr f))))) => if c = κ 4 ∧ minb i n = true then some (va_rf (f i.toNatClampNeg)) else none
  | _ => none
def mast (κ : Nat → Nat) (σ : mS) (a : Nat) (i : Int32) (v : Nat) : Option mS := match mget σ.1 a with
  | some (.inl (c, n, .inr (.inr (.inr (.inr f))))) => if c = κ 4 ∧ minb i n = true ∧ mcls σ v 8 = true then some (mset σ.1 a (.inl (c, n, .inr (.inr (.inr (.inr (va_up f i.toNatClampNeg (some v))))))), σ.2) else none
  | _ => none
/-- the length, of an array of one of the five kinds -/
def mlen (κ : Nat → Nat) (σ : mS) (a : Nat) : Option Nat := match mget σ.1 a with
  | some (.inl (c, n, .inl _)) => if c = κ 0 ∨ c = κ 1 ∨ c = κ 2 then some n else none
  | _ => none
/-- the script: its address κ 5, its length κ 6, its ints κ 1000 .. -/
def mscr (κ : Nat → Nat) (a : Nat) (i : Int32) : Option Int32 := if a = κ 5 ∧ minb i (κ 6) = true then some (Int32.ofNat (κ (1000 + i.toNatClampNeg))) else none
def mscl (κ : Nat → Nat) (a : Nat) : Option Nat := if a = κ 5 then some (κ 6) else none
/-- System.arraycopy between two int arrays -/
def mcpy (κ : Nat → Nat) (σ : mS) (a : Nat) (sp : Int32) (b : Nat) (dp n : Int32) : Option mS := match mget σ.1 a, mget σ.1 b with
  | some (.inl (c0, n0, .inl f)), some (.inl (c1, n1, .inl g)) => if c0 = κ 0 ∧ c1 = κ 0 ∧ ¬ sp < 0 ∧ ¬ dp < 0 ∧ ¬ n < 0 ∧ sp.toNatClampNeg + n.toNatClampNeg ≤ n0 ∧ dp.toNatClampNeg + n.toNatClampNeg ≤ n1 then some (mset σ.1 b (.inl (c1, n1, .inl (va_cpy f g sp.toNatClampNeg dp.toNatClampNeg n.toNatClampNeg))), σ.2) else none
  | _, _ => none
/-- the text of a String constant, by its address -/
def mstr (κ : Nat → Nat) (q : Nat) : Option (List Nat) := ((List.range 75).find? (fun i => κ (10 + i) == q)).bind (fun i => mtx[i]?)
def mcat (st : List Value) : Nat := (st.map fun v => v.category).sum
def mcode (y : Nat) : Option (MethodName × ByteArray × Nat × Option FieldType × Nat) := mT[y]?
/-- the length that goes with an instruction -/
def milok : Instr → Nat → Bool
  | .iload _, n => n == 2
  | .istore _, n => n == 2
  | .astore _, n => n == 2
  | .bipush _, n => n == 2
  | .ldc _, n => n == 2
  | .newarray _, n => n == 2
  | .sipush _, n => n == 3
  | .ldc_w _, n => n == 3
  | .iinc _ _, n => n == 3
  | .ifCond _ _, n => n == 3
  | .if_icmp _ _, n => n == 3
  | .ifnonnull _, n => n == 3
  | .goto _, n => n == 3
  | .getfield _, n => n == 3
  | .putfield _, n => n == 3
  | .invokevirtual _, n => n == 3
  | .invokespecial _, n => n == 3
  | .invokestatic _, n => n == 3
  | .new _, n => n == 3
  | .anewarray _, n => n == 3
  | .tableswitch _ _ _ _, _ => true
  | _, n => n == 1
def mcd (y pc : Nat) : Option (Instr × Nat) := match mT[y]? with
  | some m => match decode m.2.1 pc with
    | .ok r => if milok r.1 r.2 = true then some r else none
    | _ => none
  | none => none
def mown (y : Nat) : Nat := match mT[y]? with | some m => m.2.2.2.2 | none => 99
def mret (y : Nat) : Option FieldType := match mT[y]? with | some m => m.2.2.2.1 | none => none
def mmaxL (y : Nat) : Nat := match mT[y]? with | some m => m.2.2.1 | none => 0
def mfL (oc idx : Nat) : Option (Nat × Nat × Nat) := (mfT.find? (fun r => r.1 == oc && r.2.1 == idx)).map (fun r => r.2.2)
def mcL (oc idx : Nat) : Option (Nat × Nat × Nat) := (mcT.find? (fun r => r.1 == oc && r.2.1 == idx)).map (fun r => r.2.2)
def mlL (oc idx : Nat) : Option (Nat × Nat) := (mlT.find? (fun r => r.1 == oc && r.2.1 == idx)).map (fun r => r.2.2)
def mnL (oc idx : Nat) : Option Nat := (mnT.find? (fun r => r.1 == oc && r.2.1 == idx)).map (fun r => r.2.2)
def mxL (y pc : Nat) : Option (Nat × Nat × Nat × Nat × Nat) := (mxT.find? (fun r => r.1 == y && r.2.1 == pc)).map (fun r => r.2.2)
def mhL (y pc E : Nat) : Option Nat := (mhT.find? (fun r => r.1 == y && (decide (r.2.1 ≤ pc) && (decide (pc < r.2.2.1) && r.2.2.2.2.1 == E)))).map (fun r => r.2.2.2.2.2)
/-- the class of the objects that the methods of class oc stand on -/
def mci : List Nat := [0, 1, 2, 3, 4, 5, 99, 6, 7, 8, 9, 10, 11, 99, 99]
/-- the fields of a new object -/
def mdef (ci : Nat) : List Value := [[.int 0, .null, .null, .null, .null, .null, .null], [.int 0, .null, .null], [.int 0, .int 0, .null, .null], [.int 0, .int 0, .null], [.int 0, .int 0, .null], [.int 0, .int 0, .int 0, .null, .null, .null], [.int 0, .int 0, .null, .int 0, .int 0, .int 0], [.null], [.null, .null, .null, .null, .null, .int 0, .int 0, .int 0, .int 0], [.int 0, .int 0, .null, .null, .null, .null, .null, .null], [.null, .null, .null, .null, .null, .null, .null, .null, .int 0, .int 0], [.int 0, .null, .null, .null, .null, .null, .int 0, .int 0, .null, .int 0, .int 0, .int 0, .int 0, .int 0, .int 0, .null, .int 0, .null, .null, .null, .null, .null, .null, .null]].getD ci []
def mnx (pc : Nat) (L st : List Value) (σ : mS) : Option mA := some (.inl (pc, L, st, σ))
def mjp (pc : Nat) (off : Int) (L st : List Value) (σ : mS) : Option mA := if 0 ≤ (pc : Int) + off then mnx ((pc : Int) + off).toNat L st σ else none
/-- a call: kind 0 virtual, 1 a constructor, 2 static, 3 a nest mate's constructor; the JDK's own 10 .. 15 -/
def mcallOf (κ : Nat → Nat) (k y' na pc n : Nat) (L st : List Value) (σ : mS) : Option mA :=
  if st.length < na ∨ 8 < mcat (st.drop na) then none else
  match k with
  | 0 => match (st.take na).reverse with
    | .ref b :: r => if mcls σ b (mci.getD (mown y') 99) = true then some (.inr (.inl (y', .ref b :: r, pc + n, L, st.drop na, σ))) else none
    | _ => none
  | 1 => match (st.take na).reverse with
    | .ref b :: r => some (.inr (.inl (y', .ref b :: r, pc + n, L, st.drop na, σ)))
    | _ => none
  | 2 => some (.inr (.inl (y', (st.take na).reverse, pc + n, L, st.drop na, σ)))
  | 3 => match (st.take na).reverse with
    | .ref b :: r => some (.inr (.inl (y', .ref b :: r, pc + n, L, st.drop na, σ)))
    | _ => none
  | 10 => match st with
    | .ref _ :: r => mnx (pc + n) L r σ
    | _ => none
  | 11 => match st with
    | .int b :: .int a :: r => mnx (pc + n) L (.int (if b < a then b else a) :: r) σ
    | _ => none
  | 12 => match st with
    | .int b :: .int a :: r => mnx (pc + n) L (.int (if a < b then b else a) :: r) σ
    | _ => none
  | 13 => match st with
    | .int c :: .int dp :: .ref b :: .int sp :: .ref a :: r => (mcpy κ σ a sp b dp c).bind (fun σ' => mnx (pc + n) L r σ')
    | _ => none
  | 14 => match st with
    | .ref q :: r => (mstr κ q).bind (fun t => mnx (pc + n) L (.int (Int32.ofNat t.length) :: r) σ)
    | _ => none
  | 15 => match st with
    | .int i :: .ref q :: r => (mstr κ q).bind (fun t => if minb i t.length = true then mnx (pc + n) L (.int (Int32.ofNat (t.getD i.toNatClampNeg 0)) :: r) σ else none)
    | _ => none
  | _ => none
def mbr (c : Prop) [Decidable c] (a b : Option mA) : Option mA := if c then a else b
def mop1 (pc : Nat) (L st : List Value) (σ : mS) (f : Int32 → Option Int32) : Option mA := match st with
  | .int a :: r => (f a).bind (fun x => mnx (pc + 1) L (.int x :: r) σ)
  | _ => none
def mop2 (pc : Nat) (L st : List Value) (σ : mS) (f : Int32 → Int32 → Option Int32) : Option mA := match st with
  | .int b :: .int a :: r => (f a b).bind (fun x => mnx (pc + 1) L (.int x :: r) σ)
  | _ => none
def mifc (pc : Nat) (off : Int) (L st : List Value) (σ : mS) (f : Int32 → Bool) : Option mA := match st with
  | .int a :: r => if 0 ≤ (pc : Int) + off then (if f a = true then mnx ((pc : Int) + off).toNat L r σ else mnx (pc + 3) L r σ) else none
  | _ => none
def mific (pc : Nat) (off : Int) (L st : List Value) (σ : mS) (f : Int32 → Int32 → Bool) : Option mA := match st with
  | .int b :: .int a :: r => if 0 ≤ (pc : Int) + off then (if f a b = true then mnx ((pc : Int) + off).toNat L r σ else mnx (pc + 3) L r σ) else none
  | _ => none
def mild1 (pc n : Nat) (L st : List Value) (σ : mS) (k : Nat) : Option mA := match L[k]? with
  | some (.int x) => mnx (pc + n) L (.int x :: st) σ
  | _ => none
def mist1 (pc n : Nat) (L st : List Value) (σ : mS) (k : Nat) : Option mA := match st with
  | .int x :: r => if k < L.length then mnx (pc + n) (L.set k (.int x)) r σ else none
  | _ => none
def mast1 (pc n : Nat) (L st : List Value) (σ : mS) (k : Nat) : Option mA := match st with
  | .ref x :: r => if k < L.length then mnx (pc + n) (L.set k (.ref x)) r σ else none
  | _ => none
def mldc (κ : Nat → Nat) (y pc n idx : Nat) (L st : List Value) (σ : mS) : Option mA := match mlL (mown y) idx with
  | some (0, i) => mnx (pc + n) L (.ref (κ (10 + i)) :: st) σ
  | some (1, v) => mnx (pc + n) L (.int (Int32.ofNat v) :: st) σ
  | _ => none
def mput1 (pc oc idx : Nat) (L st : List Value) (σ : mS) (ini : Bool) : Option mA := match mfL oc idx with
  | some (ci, k, tc) => match tc, st with
    | 0, .int x :: .ref a :: r => (mput σ a ci k (.int x)).bind (fun σ' => mnx (pc + 3) L r σ')
    | 1, .int x :: .ref a :: r => if x = 0 ∨ x = 1 then (mput σ a ci k (.int x)).bind (fun σ' => mnx (pc + 3) L r σ') else none
    | 2, .ref v :: .ref a :: r => (mput σ a ci k (.ref v)).bind (fun σ' => mnx (pc + 3) L r σ')
    | 2, .null :: .ref a :: r => (mput σ a ci k .null).bind (fun σ' => mnx (pc + 3) L r σ')
    | 6, .ref v :: .ref a :: r => if ini = true ∧ ci = mci.getD oc 99 then (mput σ a ci k (.ref v)).bind (fun σ' => mnx (pc + 3) L r σ') else none
    | _, _ => none
  | none => none
def mini (y : Nat) : Bool := match mT[y]? with | some m => m.1.name == "<init>" | none => false
def mnewa (κ : Nat → Nat) (t pc : Nat) (L st : List Value) (σ : mS) (a : Nat → vp_A) : Option mA := match st with
  | .int n :: r => if n < 0 ∨ 20000 < n.toNatClampNeg then none else mnx (pc + 2) L (.ref σ.2.1 :: r) (σ.1 ++ [(σ.2.1, .inl (κ t, a n.toNatClampNeg))], σ.2.1 + 1, σ.2.2 + n.toNatClampNeg)
  | _ => none
def mstep (κ : Nat → Nat) (y pc : Nat) (L st : List Value) (σ : mS) : Option mA :=
  match mcd y pc with
  | none => none
  | some (i, n) => match i with
    | .iconst c => mnx (pc + n) L (.int (Int32.ofInt c) :: st) σ
    | .bipush c => mnx (pc + n) L (.int (Int8.ofInt c).toInt32 :: st) σ
    | .sipush c => mnx (pc + n) L (.int (Int16.ofInt c).toInt32 :: st) σ
    | .iload_n k => mild1 pc n L st σ k.val
    | .iload k => mild1 pc n L st σ k
    | .aload_n k => match L[k.val]? with
      | some (.ref x) => mnx (pc + n) L (.ref x :: st) σ
      | _ => none
    | .istore_n k => mist1 pc n L st σ k.val
    | .istore k => mist1 pc n L st σ k
    | .astore_n k => mast1 pc n L st σ k.val
    | .astore k => mast1 pc n L st σ k
    | .iinc k c => match L[k]? with
      | some (.int x) => mnx (pc + n) (L.set k (.int (x + Int32.ofInt c))) st σ
      | _ => none
    | .iadd => mop2 pc L st σ (fun a b => some (a + b))
    | .isub => mop2 pc L st σ (fun a b => some (a - b))
    | .imul => mop2 pc L st σ (fun a b => some (a * b))
    | .iand => mop2 pc L st σ (fun a b => some (a &&& b))
    | .ior => mop2 pc L st σ (fun a b => some (a ||| b))
    | .ixor => mop2 pc L st σ (fun a b => some (a ^^^ b))
    | .ishl => mop2 pc L st σ (fun a b => some (a <<< (b &&& 31)))
    | .ishr => mop2 pc L st σ (fun a b => some (a >>> (b &&& 31)))
    | .iushr => mop2 pc L st σ (fun a b => some (a.toUInt32 >>> (b.toUInt32 &&& Int32.toUInt32 31)).toInt32)
    | .idiv => mop2 pc L st σ (fun a b => if b = 0 then none else some (a / b))
    | .irem => mop2 pc L st σ (fun a b => if b = 0 then none else some (a - a / b * b))
    | .ineg => mop1 pc L st σ (fun a => some (-a))
    | .i2b => mop1 pc L st σ (fun a => some a.toInt8.toInt32)
    | .i2l => match st with
      | .int a :: r => mnx (pc + n) L (.long a.toInt64 :: r) σ
      | _ => none
    | .lconst k => mnx (pc + n) L (.long (Int64.ofNat k.val) :: st) σ
    | .lcmp => match st with
      | .long b :: .long a :: r => mnx (pc + n) L (.int (lg_cmp a b) :: r) σ
      | _ => none
    | .dup => match st with
      | .int a :: r => mnx (pc + n) L (.int a :: .int a :: r) σ
      | .ref a :: r => mnx (pc + n) L (.ref a :: .ref a :: r) σ
      | _ => none
    | .dup2 => match st with
      | .int b :: .ref a :: r => mnx (pc + n) L (.int b :: .ref a :: .int b :: .ref a :: r) σ
      | _ => none
    | .pop => match st with
      | .int _ :: r => mnx (pc + n) L r σ
      | _ => none
    | .ifCond .eq off => mifc pc off L st σ (fun a => decide (a = 0))
    | .ifCond .ne off => mifc pc off L st σ (fun a => decide (¬ a = 0))
    | .ifCond .lt off => mifc pc off L st σ (fun a => decide (a < 0))
    | .ifCond .ge off => mifc pc off L st σ (fun a => decide (0 ≤ a))
    | .ifCond .gt off => mifc pc off L st σ (fun a => decide (0 < a))
    | .ifCond .le off => mifc pc off L st σ (fun a => decide (a ≤ 0))
    | .if_icmp .eq off => mific pc off L st σ (fun a b => decide (a = b))
    | .if_icmp .ne off => mific pc off L st σ (fun a b => decide (¬ a = b))
    | .if_icmp .lt off => mific pc off L st σ (fun a b => decide (a < b))
    | .if_icmp .ge off => mific pc off L st σ (fun a b => decide (b ≤ a))
    | .if_icmp .gt off => mific pc off L st σ (fun a b => decide (b < a))
    | .if_icmp .le off => mific pc off L st σ (fun a b => decide (a ≤ b))
    | .ifnonnull off => match st with
      | .ref _ :: r => mjp pc off L r σ
      | .null :: r => mnx (pc + 3) L r σ
      | _ => none
    | .goto off => mjp pc off L st σ
    | .tableswitch d lo hi offs => match st with
      | .int x :: r => if x.toInt < lo ∨ hi < x.toInt then mjp pc d L r σ else (offs[(x.toInt - lo).toNat]?).bind (fun off => mjp pc off L r σ)
      | _ => none
    | .ldc idx => mldc κ y pc n idx L st σ
    | .ldc_w idx => match mlL (mown y) idx with
      | some (1, v) => mnx (pc + n) L (.int (Int32.ofNat v) :: st) σ
      | _ => none
    | .getfield idx => match mfL (mown y) idx with
      | some (ci, k, _) => match st with
        | .ref a :: r => (mfld σ a ci k).bind (fun v => mnx (pc + n) L (v :: r) σ)
        | _ => none
      | none => none
    | .putfield idx => mput1 pc (mown y) idx L st σ (mini y)
    | .iaload => match st with
      | .int j :: .ref a :: r => (if y = 275 then mscr κ a j else mild κ 0 σ a j).bind (fun x => mnx (pc + n) L (.int x :: r) σ)
      | _ => none
    | .baload => match st with
      | .int j :: .ref a :: r => match mild κ 1 σ a j with
        | some x => mnx (pc + n) L (.int x :: r) σ
        | none => (mild κ 2 σ a j).bind (fun x => mnx (pc + n) L (.int x :: r) σ)
      | _ => none
    | .laload => match st with
      | .int j :: .ref a :: r => (mlld κ σ a j).bind (fun x => mnx (pc + n) L (.long x :: r) σ)
      | _ => none
    | .aaload => match st with
      | .int j :: .ref a :: r => (mald κ σ a j).bind (fun x => mnx (pc + n) L (x :: r) σ)
      | _ => none
    | .iastore => match st with
      | .int x :: .int j :: .ref a :: r => (mist κ 0 σ a j x).bind (fun σ' => mnx (pc + n) L r σ')
      | _ => none
    | .bastore => match st with
      | .int x :: .int j :: .ref a :: r => match mist κ 1 σ a j x.toInt8.toInt32 with
        | some σ' => mnx (pc + n) L r σ'
        | none => if x = 0 ∨ x = 1 then (mist κ 2 σ a j x).bind (fun σ' => mnx (pc + n) L r σ') else none
      | _ => none
    | .lastore => match st with
      | .long x :: .int j :: .ref a :: r => (mlst κ σ a j x).bind (fun σ' => mnx (pc + n) L r σ')
      | _ => none
    | .aastore => match st with
      | .ref x :: .int j :: .ref a :: r => (mast κ σ a j x).bind (fun σ' => mnx (pc + n) L r σ')
      | _ => none
    | .arraylength => match st with
      | .ref a :: r => (if y = 275 then mscl κ a else mlen κ σ a).bind (fun k => mnx (pc + n) L (.int (Int32.ofNat k) :: r) σ)
      | _ => none
    | .newarray .int => mnewa κ 0 pc L st σ (fun k => (k, .inl (fun _ => 0)))
    | .newarray .byte => mnewa κ 1 pc L st σ (fun k => (k, .inl (fun _ => 0)))
    | .newarray .boolean => mnewa κ 2 pc L st σ (fun k => (k, .inl (fun _ => 0)))
    | .newarray .long => mnewa κ 3 pc L st σ (fun k => (k, .inr (.inl (fun _ => 0))))
    | .anewarray idx => match st with
      | .int k :: r => if k < 0 ∨ 20000 < k.toNatClampNeg ∨ ¬ (mown y = 4 ∧ idx = 9) then none else mnx (pc + 3) L (.ref σ.2.1 :: r) (σ.1 ++ [(σ.2.1, .inl (κ 4, k.toNatClampNeg, .inr (.inr (.inr (.inr (fun _ => none))))))], σ.2.1 + 1, σ.2.2 + k.toNatClampNeg)
      | _ => none
    | .new idx => match mxL y pc with
      | some (E, _) => if mcat st ≤ 8 then some (.inr (.inr (.inr E, (σ.1, σ.2.1 + 1, σ.2.2 + 6)))) else none
      | none => match mnL (mown y) idx with
        | some ci => mnx (pc + 3) L (.ref σ.2.1 :: st) (σ.1 ++ [(σ.2.1, .inr (ci, mdef ci))], σ.2.1 + 1, σ.2.2 + (mdef ci).length)
        | none => none
    | .invokevirtual idx => match mcL (mown y) idx with
      | some (k, y', na) => if k = 0 ∨ k = 14 ∨ k = 15 then mcallOf κ k y' na pc n L st σ else none
      | none => none
    | .invokespecial idx => match mcL (mown y) idx with
      | some (k, y', na) => if k = 1 ∨ k = 3 ∨ k = 10 then mcallOf κ k y' na pc n L st σ else none
      | none => none
    | .invokestatic idx => match mcL (mown y) idx with
      | some (k, y', na) => if k = 2 ∨ k = 11 ∨ k = 12 ∨ k = 13 then mcallOf κ k y' na pc n L st σ else none
      | none => none
    | .ireturn => match st with
      | [.int x] => match mret y with
        | some .int => some (.inr (.inr (.inl (some (.int x)), σ)))
        | some .boolean => if x = 0 ∨ x = 1 then some (.inr (.inr (.inl (some (.int x)), σ))) else none
        | _ => none
      | _ => none
    | .return_ => match st with
      | [] => match mret y with
        | none => some (.inr (.inr (.inl none, σ)))
        | _ => none
      | _ => none
    | _ => none
def mloc (y : Nat) (args : List Value) : List Value := args ++ List.replicate (mmaxL y - args.length) .null
/-- what may be handed to a method -/
def mok (y : Nat) (args : List Value) : Bool := decide (args.length ≤ mmaxL y) && args.all (fun v => v.category == 1)
/-- runs: fuel n, depth d of further calls -/
def mrun (κ : Nat → Nat) : Nat → Nat → Nat → Nat → List Value → List Value → mS → Option (mO × mS)
  | 0, _, _, _, _, _, _ => none
  | n + 1, d, y, pc, L, st, σ => match mstep κ y pc L st σ with
    | none => none
    | some (.inl (pc', L', st', σ')) => mrun κ n d y pc' L' st' σ'
    | some (.inr (.inl (y', args, pc', L', st', σ'))) => match d with
      | 0 => none
      | d' + 1 => if mok y' args = true then (match mrun κ n d' y' 0 (mloc y' args) [] σ' with
        | none => none
        | some (.inl v, σ1) => mrun κ n (d' + 1) y pc' L' (v.toList ++ st') σ1
        | some (.inr E, σ1) => if mini y' = true then none else match mhL y pc E with
          | some k => some (.inl (some (.int (Int32.ofNat k))), σ1)
          | none => if y < 254 then some (.inr E, σ1) else none) else none
    | some (.inr (.inr r)) => some r
theorem mrun_mono (κ : Nat → Nat) : ∀ (n d y pc : Nat) (L st : List Value) (σ : mS) (r : mO × mS), mrun κ n d y pc L st σ = some r → ∀ k, mrun κ (n + k) d y pc L st σ = some r := by
  intro n
  induction n with
  | zero => intro d y pc L st σ r h; simp [mrun] at h
  | succ n ih =>
    intro d y pc L st σ r h k
    rw [Nat.succ_add]
    unfold mrun at h ⊢
    cases hs : mstep κ y pc L st σ with
    | none => rw [hs] at h; cases h
    | some a =>
      rw [hs] at h
      rcases a with ⟨pc', L', st', σ'⟩ | ⟨y', args, pc', L', st', σ'⟩ | q
      · exact ih _ _ _ _ _ _ _ h k
      · cases d with
        | zero => cases h
        | succ d' =>
          simp only at h ⊢
          split at h
          case isFalse => cases h
          case isTrue =>
            rename_i hml
            rw [if_pos hml]
            cases h1 : mrun κ n d' y' 0 (mloc y' args) [] σ' with
            | none => rw [h1] at h; cases h
            | some q =>
              rw [h1] at h
              rw [ih _ _ _ _ _ _ _ h1 k]
              rcases q with ⟨v | E, σ1⟩
              · exact ih _ _ _ _ _ _ _ h k
              · exact h
      · exact h
theorem mrun_det {κ : Nat → Nat} {n k d y pc : Nat} {L st : List Value} {σ : mS} {r q : mO × mS} (h : mrun κ n d y pc L st σ = some r) (h2 : mrun κ k d y pc L st σ = some q) : r = q := by
  have a := mrun_mono κ n d y pc L st σ r h k
  have b := mrun_mono κ k d y pc L st σ q h2 n
  rw [Nat.add_comm] at b
  exact Option.some.inj (a.symm.trans b)
/-- what a frame comes to -/
noncomputable def Ar (κ : Nat → Nat) (d y pc : Nat) (L st : List Value) (σ : mS) : Option (mO × mS) :=
  @dite _ (∃ n, (mrun κ n d y pc L st σ).isSome = true) (Classical.propDecidable _) (fun h => mrun κ (Classical.choose h) d y pc L st σ) (fun _ => none)
theorem Ar_of {κ : Nat → Nat} {n d y pc : Nat} {L st : List Value} {σ : mS} {r : mO × mS} (h : mrun κ n d y pc L st σ = some r) : Ar κ d y pc L st σ = some r := by
  have hx : ∃ n, (mrun κ n d y pc L st σ).isSome = true := ⟨n, by rw [h]; rfl⟩
  unfold Ar
  rw [dif_pos hx]
  obtain ⟨q, hq⟩ := Option.isSome_iff_exists.mp (Classical.choose_spec hx)
  rw [hq, mrun_det hq h]
theorem Ar_run {κ : Nat → Nat} {d y pc : Nat} {L st : List Value} {σ : mS} {r : mO × mS} (h : Ar κ d y pc L st σ = some r) : ∃ n, mrun κ n d y pc L st σ = some r := by
  unfold Ar at h
  split at h
  · exact ⟨_, h⟩
  · cases h
theorem Ar_ext {κ : Nat → Nat} {d y pc d' y' pc' : Nat} {L st L' st' : List Value} {σ σ' : mS} (h : ∀ r, (∃ n, mrun κ n d y pc L st σ = some r) ↔ ∃ n, mrun κ n d' y' pc' L' st' σ' = some r) : Ar κ d y pc L st σ = Ar κ d' y' pc' L' st' σ' := by
  cases h1 : Ar κ d' y' pc' L' st' σ' with
  | some r =>
    obtain ⟨n, hn⟩ := (h r).mpr (Ar_run h1)
    exact Ar_of hn
  | none =>
    cases h2 : Ar κ d y pc L st σ with
    | none => rfl
    | some r =>
      obtain ⟨n, hn⟩ := (h r).mp (Ar_run h2)
      rw [Ar_of hn] at h1
      cases h1
/-- what a call comes to -/
noncomputable def Fr (κ : Nat → Nat) (d y : Nat) (args : List Value) (σ : mS) : Option (mO × mS) := if mok y args = true then Ar κ d y 0 (mloc y args) [] σ else none
theorem Ar_next {κ : Nat → Nat} {d y pc pc' : Nat} {L st L' st' : List Value} {σ σ' : mS} (h : mstep κ y pc L st σ = some (.inl (pc', L', st', σ'))) : Ar κ d y pc L st σ = Ar κ d y pc' L' st' σ' := by
  apply Ar_ext
  intro r
  constructor
  · rintro ⟨n, hn⟩
    cases n with
    | zero => cases hn
    | succ n =>
      unfold mrun at hn
      rw [h] at hn
      exact ⟨n, hn⟩
  · rintro ⟨n, hn⟩
    refine ⟨n + 1, ?_⟩
    unfold mrun
    rw [h]
    exact hn
theorem Ar_done {κ : Nat → Nat} {d y pc : Nat} {L st : List Value} {σ : mS} {r : mO × mS} (h : mstep κ y pc L st σ = some (.inr (.inr r))) : Ar κ d y pc L st σ = some r := by
  refine Ar_of (n := 1) ?_
  unfold mrun
  rw [h]
theorem Ar_none {κ : Nat → Nat} {d y pc : Nat} {L st : List Value} {σ : mS} (h : mstep κ y pc L st σ = none) : Ar κ d y pc L st σ = none := by
  cases h1 : Ar κ d y pc L st σ with
  | none => rfl
  | some r =>
    obtain ⟨n, hn⟩ := Ar_run h1
    cases n with
    | zero => cases hn
    | succ n =>
      unfold mrun at hn
      rw [h] at hn
      cases hn
/-- behind a call -/
noncomputable def Cr (κ : Nat → Nat) (d y pc y' pc' : Nat) (L st : List Value) (r : mO × mS) : Option (mO × mS) := match r with
  | (.inl v, σ1) => Ar κ d y pc' L (v.toList ++ st) σ1
  | (.inr E, σ1) => if mini y' = true then none else match mhL y pc E with
    | some k => some (.inl (some (.int (Int32.ofNat k))), σ1)
    | none => if y < 254 then some (.inr E, σ1) else none
theorem Ar_call {κ : Nat → Nat} {d y pc y' pc' : Nat} {L st args L' st' : List Value} {σ σ' : mS} (h : mstep κ y pc L st σ = some (.inr (.inl (y', args, pc', L', st', σ')))) : Ar κ (d + 1) y pc L st σ = (Fr κ d y' args σ').bind (Cr κ (d + 1) y pc y' pc' L' st') := by
  cases hml : mok y' args with
  | false =>
    have e1 : Fr κ d y' args σ' = none := by
      unfold Fr
      rw [hml]
      rfl
    rw [e1]
    cases h1 : Ar κ (d + 1) y pc L st σ with
    | none => rfl
    | some r =>
      obtain ⟨n, hn⟩ := Ar_run h1
      cases n with
      | zero => cases hn
      | succ n =>
        unfold mrun at hn
        rw [h] at hn
        simp only [hml] at hn
        cases hn
  | true =>
    have e1 : Fr κ d y' args σ' = Ar κ d y' 0 (mloc y' args) [] σ' := by
      unfold Fr
      rw [hml]
      rfl
    rw [e1]
    cases hF : Ar κ d y' 0 (mloc y' args) [] σ' with
    | none =>
      cases h1 : Ar κ (d + 1) y pc L st σ with
      | none => rfl
      | some r =>
        obtain ⟨n, hn⟩ := Ar_run h1
        cases n with
        | zero => cases hn
        | succ n =>
          unfold mrun at hn
          rw [h] at hn
          simp only [hml, if_true] at hn
          cases h2 : mrun κ n d y' 0 (mloc y' args) [] σ' with
          | none => rw [h2] at hn; cases hn
          | some q => rw [Ar_of h2] at hF; cases hF
    | some q =>
      obtain ⟨n, hn⟩ := Ar_run hF
      rw [Option.bind_some]
      apply Option.ext
      intro r
      rcases q with ⟨v | E, σ1⟩
      · show _ ↔ Ar κ (d + 1) y pc' L' (v.toList ++ st') σ1 = some r
        constructor
        · intro hr
          obtain ⟨k, hk⟩ := Ar_run hr
          cases k with
          | zero => cases hk
          | succ k =>
            unfold mrun at hk
            rw [h] at hk
            simp only [hml, if_true] at hk
            cases h2 : mrun κ k d y' 0 (mloc y' args) [] σ' with
            | none => rw [h2] at hk; cases hk
            | some q =>
              have e := mrun_det h2 hn
              subst e
              rw [h2] at hk
              exact Ar_of hk
        · intro hr
          obtain ⟨k, hk⟩ := Ar_run hr
          refine Ar_of (n := (n + k) + 1) ?_
          unfold mrun
          rw [h]
          simp only [hml, if_true]
          rw [mrun_mono κ n d y' 0 _ _ _ _ hn k]
          have := mrun_mono κ k (d + 1) y pc' L' _ _ _ hk n
          rw [Nat.add_comm] at this
          exact this
      · constructor
        · intro hr
          obtain ⟨k, hk⟩ := Ar_run hr
          cases k with
          | zero => cases hk
          | succ k =>
            unfold mrun at hk
            rw [h] at hk
            simp only [hml, if_true] at hk
            cases h2 : mrun κ k d y' 0 (mloc y' args) [] σ' with
            | none => rw [h2] at hk; cases hk
            | some q =>
              have e := mrun_det h2 hn
              subst e
              rw [h2] at hk
              exact hk
        · intro hr
          refine Ar_of (n := n + 1) ?_
          unfold mrun
          rw [h]
          simp only [hml, if_true]
          rw [hn]
          exact hr
