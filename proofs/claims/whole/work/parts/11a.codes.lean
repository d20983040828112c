set_option maxRecDepth 100000 in
theorem mCd_X0_init : mCode mX0_init ∈ lw_tbl := List.mem_of_getElem? (i := 337) rfl
set_option maxRecDepth 100000 in
theorem mCd_X0_waysToBeat : mCode mX0_waysToBeat ∈ lw_tbl := List.mem_of_getElem? (i := 480) rfl
set_option maxRecDepth 100000 in
theorem mCd_X0_waysToTie : mCode mX0_waysToTie ∈ lw_tbl := List.mem_of_getElem? (i := 1295) rfl
set_option maxRecDepth 100000 in
theorem mCd_X0_isBetter : mCode mX0_isBetter ∈ lw_tbl := List.mem_of_getElem? (i := 476) rfl
set_option maxRecDepth 100000 in
theorem mCd_X0_strongestDie : mCode mX0_strongestDie ∈ lw_tbl := List.mem_of_getElem? (i := 468) rfl
set_option maxRecDepth 100000 in
theorem mCd_X0_weakerOnes : mCode mX0_weakerOnes ∈ lw_tbl := List.mem_of_getElem? (i := 472) rfl
set_option maxRecDepth 100000 in
theorem mCd_X0_ringAt : mCode mX0_ringAt ∈ lw_tbl := List.mem_of_getElem? (i := 501) rfl
set_option maxRecDepth 100000 in
theorem mCd_X0_evenestTwo : mCode mX0_evenestTwo ∈ lw_tbl := List.mem_of_getElem? (i := 509) rfl
set_option maxRecDepth 100000 in
theorem mCd_X1_init : mCode mX1_init ∈ lw_tbl := List.mem_of_getElem? (i := 307) rfl
set_option maxRecDepth 100000 in
theorem mCd_X1_begin : mCode mX1_begin ∈ lw_tbl := List.mem_of_getElem? (i := 447) rfl
set_option maxRecDepth 100000 in
theorem mCd_X1_draw : mCode mX1_draw ∈ lw_tbl := List.mem_of_getElem? (i := 455) rfl
set_option maxRecDepth 100000 in
theorem mCd_X2_init : mCode mX2_init ∈ lw_tbl := List.mem_of_getElem? (i := 266) rfl
set_option maxRecDepth 100000 in
theorem mCd_X2_begin : mCode mX2_begin ∈ lw_tbl := List.mem_of_getElem? (i := 752) rfl
set_option maxRecDepth 100000 in
theorem mCd_X2_copyFrom : mCode mX2_copyFrom ∈ lw_tbl := List.mem_of_getElem? (i := 1500) rfl
set_option maxRecDepth 100000 in
theorem mCd_X2_hasDie : mCode mX2_hasDie ∈ lw_tbl := List.mem_of_getElem? (i := 771) rfl
set_option maxRecDepth 100000 in
theorem mCd_X2_hasHand : mCode mX2_hasHand ∈ lw_tbl := List.mem_of_getElem? (i := 815) rfl
set_option maxRecDepth 100000 in
theorem mCd_X2_weight : mCode mX2_weight ∈ lw_tbl := List.mem_of_getElem? (i := 484) rfl
set_option maxRecDepth 100000 in
theorem mCd_X2_total : mCode mX2_total ∈ lw_tbl := List.mem_of_getElem? (i := 492) rfl
set_option maxRecDepth 100000 in
theorem mCd_X2_allTotals : mCode mX2_allTotals ∈ lw_tbl := List.mem_of_getElem? (i := 559) rfl
set_option maxRecDepth 100000 in
theorem mCd_X2_isGone : mCode mX2_isGone ∈ lw_tbl := List.mem_of_getElem? (i := 488) rfl
set_option maxRecDepth 100000 in
theorem mCd_X2_goneDice : mCode mX2_goneDice ∈ lw_tbl := List.mem_of_getElem? (i := 554) rfl
set_option maxRecDepth 100000 in
theorem mCd_X2_isSalt : mCode mX2_isSalt ∈ lw_tbl := List.mem_of_getElem? (i := 797) rfl
set_option maxRecDepth 100000 in
theorem mCd_X2_makeSalt : mCode mX2_makeSalt ∈ lw_tbl := List.mem_of_getElem? (i := 844) rfl
set_option maxRecDepth 100000 in
theorem mCd_X2_heat : mCode mX2_heat ∈ lw_tbl := List.mem_of_getElem? (i := 820) rfl
set_option maxRecDepth 100000 in
theorem mCd_X2_cool : mCode mX2_cool ∈ lw_tbl := List.mem_of_getElem? (i := 1070) rfl
set_option maxRecDepth 100000 in
theorem mCd_X2_dieByLot : mCode mX2_dieByLot ∈ lw_tbl := List.mem_of_getElem? (i := 825) rfl
set_option maxRecDepth 100000 in
theorem mCd_X2_wear : mCode mX2_wear ∈ lw_tbl := List.mem_of_getElem? (i := 901) rfl
set_option maxRecDepth 100000 in
theorem mCd_X2_hasRoomForThrow : mCode mX2_hasRoomForThrow ∈ lw_tbl := List.mem_of_getElem? (i := 881) rfl
set_option maxRecDepth 100000 in
theorem mCd_X2_whyNot : mCode mX2_whyNot ∈ lw_tbl := List.mem_of_getElem? (i := 922) rfl
set_option maxRecDepth 100000 in
theorem mCd_X2_whyNotTold : mCode mX2_whyNotTold ∈ lw_tbl := List.mem_of_getElem? (i := 984) rfl
set_option maxRecDepth 100000 in
theorem mCd_X2_throwToldOne : mCode mX2_throwToldOne ∈ lw_tbl := List.mem_of_getElem? (i := 990) rfl
set_option maxRecDepth 100000 in
theorem mCd_X2_faceByDraw : mCode mX2_faceByDraw ∈ lw_tbl := List.mem_of_getElem? (i := 887) rfl
set_option maxRecDepth 100000 in
theorem mCd_X2_throwFace : mCode mX2_throwFace ∈ lw_tbl := List.mem_of_getElem? (i := 891) rfl
set_option maxRecDepth 100000 in
theorem mCd_X2_undo : mCode mX2_undo ∈ lw_tbl := List.mem_of_getElem? (i := 935) rfl
set_option maxRecDepth 100000 in
theorem mCd_X2_toldThrow : mCode mX2_toldThrow ∈ lw_tbl := List.mem_of_getElem? (i := 537) rfl
set_option maxRecDepth 100000 in
theorem mCd_X2_dieOfThrow : mCode mX2_dieOfThrow ∈ lw_tbl := List.mem_of_getElem? (i := 533) rfl
set_option maxRecDepth 100000 in
theorem mCd_X2_handOfThrow : mCode mX2_handOfThrow ∈ lw_tbl := List.mem_of_getElem? (i := 833) rfl
set_option maxRecDepth 100000 in
theorem mCd_X2_faceOfThrow : mCode mX2_faceOfThrow ∈ lw_tbl := List.mem_of_getElem? (i := 545) rfl
set_option maxRecDepth 100000 in
theorem mCd_X2_faceForAnts : mCode mX2_faceForAnts ∈ lw_tbl := List.mem_of_getElem? (i := 1018) rfl
set_option maxRecDepth 100000 in
theorem mCd_X2_feedAnts : mCode mX2_feedAnts ∈ lw_tbl := List.mem_of_getElem? (i := 1014) rfl
set_option maxRecDepth 100000 in
theorem mCd_X2_weightAfterAnts : mCode mX2_weightAfterAnts ∈ lw_tbl := List.mem_of_getElem? (i := 1029) rfl
set_option maxRecDepth 100000 in
theorem mCd_X2_lastFaceForAnts : mCode mX2_lastFaceForAnts ∈ lw_tbl := List.mem_of_getElem? (i := 1050) rfl
set_option maxRecDepth 100000 in
theorem mCd_X2_drawLots : mCode mX2_drawLots ∈ lw_tbl := List.mem_of_getElem? (i := 451) rfl
set_option maxRecDepth 100000 in
theorem mCd_X2_dieLeft : mCode mX2_dieLeft ∈ lw_tbl := List.mem_of_getElem? (i := 460) rfl
set_option maxRecDepth 100000 in
theorem mCd_X3_init : mCode mX3_init ∈ lw_tbl := List.mem_of_getElem? (i := 363) rfl
set_option maxRecDepth 100000 in
theorem mCd_X3_throwsOfDie : mCode mX3_throwsOfDie ∈ lw_tbl := List.mem_of_getElem? (i := 529) rfl
set_option maxRecDepth 100000 in
theorem mCd_X3_throwsOfHand : mCode mX3_throwsOfHand ∈ lw_tbl := List.mem_of_getElem? (i := 829) rfl
set_option maxRecDepth 100000 in
theorem mCd_X3_timesShown : mCode mX3_timesShown ∈ lw_tbl := List.mem_of_getElem? (i := 541) rfl
set_option maxRecDepth 100000 in
theorem mCd_X3_longestRow : mCode mX3_longestRow ∈ lw_tbl := List.mem_of_getElem? (i := 1423) rfl
set_option maxRecDepth 100000 in
theorem mCd_X3_howFarOff : mCode mX3_howFarOff ∈ lw_tbl := List.mem_of_getElem? (i := 525) rfl
set_option maxRecDepth 100000 in
theorem mCd_X3_farthestOff : mCode mX3_farthestOff ∈ lw_tbl := List.mem_of_getElem? (i := 521) rfl
set_option maxRecDepth 100000 in
theorem mCd_X4_init : mCode mX4_init ∈ lw_tbl := List.mem_of_getElem? (i := 317) rfl
set_option maxRecDepth 100000 in
theorem mCd_X4_wholeOf : mCode mX4_wholeOf ∈ lw_tbl := List.mem_of_getElem? (i := 1094) rfl
set_option maxRecDepth 100000 in
theorem mCd_X4_waysOfSum : mCode mX4_waysOfSum ∈ lw_tbl := List.mem_of_getElem? (i := 1110) rfl
set_option maxRecDepth 100000 in
theorem mCd_X4_waysOfSumOrMore : mCode mX4_waysOfSumOrMore ∈ lw_tbl := List.mem_of_getElem? (i := 1133) rfl
set_option maxRecDepth 100000 in
theorem mCd_X4_waysOfOneFace : mCode mX4_waysOfOneFace ∈ lw_tbl := List.mem_of_getElem? (i := 1145) rfl
set_option maxRecDepth 100000 in
theorem mCd_X4_likeliestSum : mCode mX4_likeliestSum ∈ lw_tbl := List.mem_of_getElem? (i := 1156) rfl
set_option maxRecDepth 100000 in
theorem mCd_X4_possibleSums : mCode mX4_possibleSums ∈ lw_tbl := List.mem_of_getElem? (i := 1167) rfl
set_option maxRecDepth 100000 in
theorem mCd_X4_allSumsWeighed : mCode mX4_allSumsWeighed ∈ lw_tbl := List.mem_of_getElem? (i := 1179) rfl
set_option maxRecDepth 100000 in
theorem mCd_X4_bestSetFor : mCode mX4_bestSetFor ∈ lw_tbl := List.mem_of_getElem? (i := 1195) rfl
set_option maxRecDepth 100000 in
theorem mCd_X4_waysOfUnlikeFaces : mCode mX4_waysOfUnlikeFaces ∈ lw_tbl := List.mem_of_getElem? (i := 1214) rfl
set_option maxRecDepth 100000 in
theorem mCd_X4_waysOfEveryFace : mCode mX4_waysOfEveryFace ∈ lw_tbl := List.mem_of_getElem? (i := 1261) rfl
set_option maxRecDepth 100000 in
theorem mCd_X4_waysOfMore : mCode mX4_waysOfMore ∈ lw_tbl := List.mem_of_getElem? (i := 1316) rfl
set_option maxRecDepth 100000 in
theorem mCd_X4_bestByStopping : mCode mX4_bestByStopping ∈ lw_tbl := List.mem_of_getElem? (i := 1336) rfl
set_option maxRecDepth 100000 in
theorem mCd_X4_leastFaceToStop : mCode mX4_leastFaceToStop ∈ lw_tbl := List.mem_of_getElem? (i := 1332) rfl
set_option maxRecDepth 100000 in
theorem mCd_X4_countSums : mCode mX4_countSums ∈ lw_tbl := List.mem_of_getElem? (i := 1114) rfl
set_option maxRecDepth 100000 in
theorem mCd_X4_countThrows : mCode mX4_countThrows ∈ lw_tbl := List.mem_of_getElem? (i := 1320) rfl
set_option maxRecDepth 100000 in
theorem mCd_X4_addToSums : mCode mX4_addToSums ∈ lw_tbl := List.mem_of_getElem? (i := 1121) rfl
set_option maxRecDepth 100000 in
theorem mCd_X4_addToFaceSets : mCode mX4_addToFaceSets ∈ lw_tbl := List.mem_of_getElem? (i := 1218) rfl
set_option maxRecDepth 100000 in
theorem mCd_X4_begin : mCode mX4_begin ∈ lw_tbl := List.mem_of_getElem? (i := 1117) rfl
set_option maxRecDepth 100000 in
theorem mCd_X4_isIn : mCode mX4_isIn ∈ lw_tbl := List.mem_of_getElem? (i := 1097) rfl
set_option maxRecDepth 100000 in
theorem mCd_X4_isWithoutGap : mCode mX4_isWithoutGap ∈ lw_tbl := List.mem_of_getElem? (i := 1221) rfl
set_option maxRecDepth 100000 in
theorem mCd_X5_init : mCode mX5_init ∈ lw_tbl := List.mem_of_getElem? (i := 212) rfl
set_option maxRecDepth 100000 in
theorem mCd_X5_read : mCode mX5_read ∈ lw_tbl := List.mem_of_getElem? (i := 639) rfl
set_option maxRecDepth 100000 in
theorem mCd_X5_clear : mCode mX5_clear ∈ lw_tbl := List.mem_of_getElem? (i := 643) rfl
set_option maxRecDepth 100000 in
theorem mCd_X5_readsLine : mCode mX5_readsLine ∈ lw_tbl := List.mem_of_getElem? (i := 728) rfl
set_option maxRecDepth 100000 in
theorem mCd_X5_readsDie : mCode mX5_readsDie ∈ lw_tbl := List.mem_of_getElem? (i := 732) rfl
set_option maxRecDepth 100000 in
theorem mCd_X5_readsHand : mCode mX5_readsHand ∈ lw_tbl := List.mem_of_getElem? (i := 744) rfl
set_option maxRecDepth 100000 in
theorem mCd_X5_readsAnts : mCode mX5_readsAnts ∈ lw_tbl := List.mem_of_getElem? (i := 748) rfl
set_option maxRecDepth 100000 in
theorem mCd_X5_readsNumber : mCode mX5_readsNumber ∈ lw_tbl := List.mem_of_getElem? (i := 740) rfl
set_option maxRecDepth 100000 in
theorem mCd_X5_isFaulty : mCode mX5_isFaulty ∈ lw_tbl := List.mem_of_getElem? (i := 736) rfl
set_option maxRecDepth 100000 in
theorem mCd_X5_nextToken : mCode mX5_nextToken ∈ lw_tbl := List.mem_of_getElem? (i := 647) rfl
set_option maxRecDepth 100000 in
theorem mCd_X5_nextNumber : mCode mX5_nextNumber ∈ lw_tbl := List.mem_of_getElem? (i := 661) rfl
set_option maxRecDepth 100000 in
theorem mCd_X5_nextWord : mCode mX5_nextWord ∈ lw_tbl := List.mem_of_getElem? (i := 668) rfl
set_option maxRecDepth 100000 in
theorem mCd_X5_isWord : mCode mX5_isWord ∈ lw_tbl := List.mem_of_getElem? (i := 673) rfl
set_option maxRecDepth 100000 in
theorem mCd_X5_isBlank : mCode mX5_isBlank ∈ lw_tbl := List.mem_of_getElem? (i := 654) rfl
set_option maxRecDepth 100000 in
theorem mCd_X5_isDigit : mCode mX5_isDigit ∈ lw_tbl := List.mem_of_getElem? (i := 657) rfl
set_option maxRecDepth 100000 in
theorem mCd_X5_isLetter : mCode mX5_isLetter ∈ lw_tbl := List.mem_of_getElem? (i := 664) rfl
set_option maxRecDepth 100000 in
theorem mCd_X6_init : mCode mX6_init ∈ lw_tbl := List.mem_of_getElem? (i := 197) rfl
set_option maxRecDepth 100000 in
theorem mCd_X6_hasRoomForFeed : mCode mX6_hasRoomForFeed ∈ lw_tbl := List.mem_of_getElem? (i := 431) rfl
set_option maxRecDepth 100000 in
theorem mCd_X6_put : mCode mX6_put ∈ lw_tbl := List.mem_of_getElem? (i := 435) rfl
set_option maxRecDepth 100000 in
theorem mCd_X6_byteAt : mCode mX6_byteAt ∈ lw_tbl := List.mem_of_getElem? (i := 651) rfl
set_option maxRecDepth 100000 in
theorem mCd_X7_init : mCode mX7_init ∈ lw_tbl := List.mem_of_getElem? (i := 374) rfl
set_option maxRecDepth 100000 in
theorem mCd_X7_lay : mCode mX7_lay ∈ lw_tbl := List.mem_of_getElem? (i := 1444) rfl
set_option maxRecDepth 100000 in
theorem mCd_X7_put : mCode mX7_put ∈ lw_tbl := List.mem_of_getElem? (i := 1472) rfl
set_option maxRecDepth 100000 in
theorem mCd_X7_number : mCode mX7_number ∈ lw_tbl := List.mem_of_getElem? (i := 980) rfl
set_option maxRecDepth 100000 in
theorem mCd_X7_cut : mCode mX7_cut ∈ lw_tbl := List.mem_of_getElem? (i := 1476) rfl
set_option maxRecDepth 100000 in
theorem mCd_X7_holdsToldFaces : mCode mX7_holdsToldFaces ∈ lw_tbl := List.mem_of_getElem? (i := 1356) rfl
set_option maxRecDepth 100000 in
theorem mCd_X7_face : mCode mX7_face ∈ lw_tbl := List.mem_of_getElem? (i := 1367) rfl
set_option maxRecDepth 100000 in
theorem mCd_X8_init : mCode mX8_init ∈ lw_tbl := List.mem_of_getElem? (i := 347) rfl
set_option maxRecDepth 100000 in
theorem mCd_X8_likeliestDie : mCode mX8_likeliestDie ∈ lw_tbl := List.mem_of_getElem? (i := 1363) rfl
set_option maxRecDepth 100000 in
theorem mCd_X8_rowsOfDice : mCode mX8_rowsOfDice ∈ lw_tbl := List.mem_of_getElem? (i := 1381) rfl
set_option maxRecDepth 100000 in
theorem mCd_X8_rowOfHands : mCode mX8_rowOfHands ∈ lw_tbl := List.mem_of_getElem? (i := 1392) rfl
set_option maxRecDepth 100000 in
theorem mCd_X8_totalBehind : mCode mX8_totalBehind ∈ lw_tbl := List.mem_of_getElem? (i := 1396) rfl
set_option maxRecDepth 100000 in
theorem mCd_X8_begin : mCode mX8_begin ∈ lw_tbl := List.mem_of_getElem? (i := 1400) rfl
set_option maxRecDepth 100000 in
theorem mCd_X9_init : mCode mX9_init ∈ lw_tbl := List.mem_of_getElem? (i := 189) rfl
set_option maxRecDepth 100000 in
theorem mCd_X9_feed : mCode mX9_feed ∈ lw_tbl := List.mem_of_getElem? (i := 427) rfl
set_option maxRecDepth 100000 in
theorem mCd_X9_table : mCode mX9_table ∈ lw_tbl := List.mem_of_getElem? (i := 567) rfl
set_option maxRecDepth 100000 in
theorem mCd_X9_fault : mCode mX9_fault ∈ lw_tbl := List.mem_of_getElem? (i := 439) rfl
set_option maxRecDepth 100000 in
theorem mCd_X9_die : mCode mX9_die ∈ lw_tbl := List.mem_of_getElem? (i := 763) rfl
set_option maxRecDepth 100000 in
theorem mCd_X9_hand : mCode mX9_hand ∈ lw_tbl := List.mem_of_getElem? (i := 807) rfl
set_option maxRecDepth 100000 in
theorem mCd_X9_salts : mCode mX9_salts ∈ lw_tbl := List.mem_of_getElem? (i := 840) rfl
set_option maxRecDepth 100000 in
theorem mCd_X9_cast : mCode mX9_cast ∈ lw_tbl := List.mem_of_getElem? (i := 853) rfl
set_option maxRecDepth 100000 in
theorem mCd_X9_shows : mCode mX9_shows ∈ lw_tbl := List.mem_of_getElem? (i := 912) rfl
set_option maxRecDepth 100000 in
theorem mCd_X9_back : mCode mX9_back ∈ lw_tbl := List.mem_of_getElem? (i := 930) rfl
set_option maxRecDepth 100000 in
theorem mCd_X9_past : mCode mX9_past ∈ lw_tbl := List.mem_of_getElem? (i := 942) rfl
set_option maxRecDepth 100000 in
theorem mCd_X9_evening : mCode mX9_evening ∈ lw_tbl := List.mem_of_getElem? (i := 953) rfl
set_option maxRecDepth 100000 in
theorem mCd_X9_judge : mCode mX9_judge ∈ lw_tbl := List.mem_of_getElem? (i := 962) rfl
set_option maxRecDepth 100000 in
theorem mCd_X9_perform : mCode mX9_perform ∈ lw_tbl := List.mem_of_getElem? (i := 998) rfl
set_option maxRecDepth 100000 in
theorem mCd_X9_ants : mCode mX9_ants ∈ lw_tbl := List.mem_of_getElem? (i := 1005) rfl
set_option maxRecDepth 100000 in
theorem mCd_X9_eaten : mCode mX9_eaten ∈ lw_tbl := List.mem_of_getElem? (i := 1025) rfl
set_option maxRecDepth 100000 in
theorem mCd_X9_lasts : mCode mX9_lasts ∈ lw_tbl := List.mem_of_getElem? (i := 1039) rfl
set_option maxRecDepth 100000 in
theorem mCd_X9_lastFace : mCode mX9_lastFace ∈ lw_tbl := List.mem_of_getElem? (i := 1046) rfl
set_option maxRecDepth 100000 in
theorem mCd_X9_rain : mCode mX9_rain ∈ lw_tbl := List.mem_of_getElem? (i := 1057) rfl
set_option maxRecDepth 100000 in
theorem mCd_X9_fan : mCode mX9_fan ∈ lw_tbl := List.mem_of_getElem? (i := 1066) rfl
set_option maxRecDepth 100000 in
theorem mCd_X9_lot : mCode mX9_lot ∈ lw_tbl := List.mem_of_getElem? (i := 443) rfl
set_option maxRecDepth 100000 in
theorem mCd_X9_whole : mCode mX9_whole ∈ lw_tbl := List.mem_of_getElem? (i := 1077) rfl
set_option maxRecDepth 100000 in
theorem mCd_X9_sum : mCode mX9_sum ∈ lw_tbl := List.mem_of_getElem? (i := 1106) rfl
set_option maxRecDepth 100000 in
theorem mCd_X9_least : mCode mX9_least ∈ lw_tbl := List.mem_of_getElem? (i := 1129) rfl
set_option maxRecDepth 100000 in
theorem mCd_X9_alike : mCode mX9_alike ∈ lw_tbl := List.mem_of_getElem? (i := 1141) rfl
set_option maxRecDepth 100000 in
theorem mCd_X9_mode : mCode mX9_mode ∈ lw_tbl := List.mem_of_getElem? (i := 1152) rfl
set_option maxRecDepth 100000 in
theorem mCd_X9_sums : mCode mX9_sums ∈ lw_tbl := List.mem_of_getElem? (i := 1163) rfl
set_option maxRecDepth 100000 in
theorem mCd_X9_mean : mCode mX9_mean ∈ lw_tbl := List.mem_of_getElem? (i := 1174) rfl
set_option maxRecDepth 100000 in
theorem mCd_X9_bestSet : mCode mX9_bestSet ∈ lw_tbl := List.mem_of_getElem? (i := 1186) rfl
set_option maxRecDepth 100000 in
theorem mCd_X9_unlike : mCode mX9_unlike ∈ lw_tbl := List.mem_of_getElem? (i := 1210) rfl
set_option maxRecDepth 100000 in
theorem mCd_X9_run : mCode mX9_run ∈ lw_tbl := List.mem_of_getElem? (i := 1228) rfl
set_option maxRecDepth 100000 in
theorem mCd_X9_cannot : mCode mX9_cannot ∈ lw_tbl := List.mem_of_getElem? (i := 1235) rfl
set_option maxRecDepth 100000 in
theorem mCd_X9_once : mCode mX9_once ∈ lw_tbl := List.mem_of_getElem? (i := 1242) rfl
set_option maxRecDepth 100000 in
theorem mCd_X9_allFaces : mCode mX9_allFaces ∈ lw_tbl := List.mem_of_getElem? (i := 1257) rfl
set_option maxRecDepth 100000 in
theorem mCd_X9_coins : mCode mX9_coins ∈ lw_tbl := List.mem_of_getElem? (i := 1268) rfl
set_option maxRecDepth 100000 in
theorem mCd_X9_beats : mCode mX9_beats ∈ lw_tbl := List.mem_of_getElem? (i := 1279) rfl
set_option maxRecDepth 100000 in
theorem mCd_X9_ties : mCode mX9_ties ∈ lw_tbl := List.mem_of_getElem? (i := 1291) rfl
set_option maxRecDepth 100000 in
theorem mCd_X9_strongest : mCode mX9_strongest ∈ lw_tbl := List.mem_of_getElem? (i := 464) rfl
set_option maxRecDepth 100000 in
theorem mCd_X9_ring : mCode mX9_ring ∈ lw_tbl := List.mem_of_getElem? (i := 497) rfl
set_option maxRecDepth 100000 in
theorem mCd_X9_series : mCode mX9_series ∈ lw_tbl := List.mem_of_getElem? (i := 1302) rfl
set_option maxRecDepth 100000 in
theorem mCd_X9_more : mCode mX9_more ∈ lw_tbl := List.mem_of_getElem? (i := 1312) rfl
set_option maxRecDepth 100000 in
theorem mCd_X9_evenest : mCode mX9_evenest ∈ lw_tbl := List.mem_of_getElem? (i := 505) rfl
set_option maxRecDepth 100000 in
theorem mCd_X9_stopping : mCode mX9_stopping ∈ lw_tbl := List.mem_of_getElem? (i := 1327) rfl
set_option maxRecDepth 100000 in
theorem mCd_X9_likelier : mCode mX9_likelier ∈ lw_tbl := List.mem_of_getElem? (i := 1348) rfl
set_option maxRecDepth 100000 in
theorem mCd_X9_fits : mCode mX9_fits ∈ lw_tbl := List.mem_of_getElem? (i := 1377) rfl
set_option maxRecDepth 100000 in
theorem mCd_X9_worn : mCode mX9_worn ∈ lw_tbl := List.mem_of_getElem? (i := 1388) rfl
set_option maxRecDepth 100000 in
theorem mCd_X9_tally : mCode mX9_tally ∈ lw_tbl := List.mem_of_getElem? (i := 1411) rfl
set_option maxRecDepth 100000 in
theorem mCd_X9_streak : mCode mX9_streak ∈ lw_tbl := List.mem_of_getElem? (i := 1419) rfl
set_option maxRecDepth 100000 in
theorem mCd_X9_off : mCode mX9_off ∈ lw_tbl := List.mem_of_getElem? (i := 1431) rfl
set_option maxRecDepth 100000 in
theorem mCd_X9_loaded : mCode mX9_loaded ∈ lw_tbl := List.mem_of_getElem? (i := 517) rfl
set_option maxRecDepth 100000 in
theorem mCd_X9_tray : mCode mX9_tray ∈ lw_tbl := List.mem_of_getElem? (i := 1439) rfl
set_option maxRecDepth 100000 in
theorem mCd_X9_write : mCode mX9_write ∈ lw_tbl := List.mem_of_getElem? (i := 1452) rfl
set_option maxRecDepth 100000 in
theorem mCd_X9_pour : mCode mX9_pour ∈ lw_tbl := List.mem_of_getElem? (i := 1483) rfl
set_option maxRecDepth 100000 in
theorem mCd_X9_image : mCode mX9_image ∈ lw_tbl := List.mem_of_getElem? (i := 1491) rfl
set_option maxRecDepth 100000 in
theorem mCd_X9_restore : mCode mX9_restore ∈ lw_tbl := List.mem_of_getElem? (i := 1507) rfl
set_option maxRecDepth 100000 in
theorem mCd_X9_count : mCode mX9_count ∈ lw_tbl := List.mem_of_getElem? (i := 550) rfl
set_option maxRecDepth 100000 in
theorem mCd_X9_needDie : mCode mX9_needDie ∈ lw_tbl := List.mem_of_getElem? (i := 767) rfl
set_option maxRecDepth 100000 in
theorem mCd_X9_needHand : mCode mX9_needHand ∈ lw_tbl := List.mem_of_getElem? (i := 811) rfl
set_option maxRecDepth 100000 in
theorem mCd_X9_needNotGone : mCode mX9_needNotGone ∈ lw_tbl := List.mem_of_getElem? (i := 857) rfl
set_option maxRecDepth 100000 in
theorem mCd_X9_needTwoDice : mCode mX9_needTwoDice ∈ lw_tbl := List.mem_of_getElem? (i := 1283) rfl
set_option maxRecDepth 100000 in
theorem mCd_X9_needRoomForThrow : mCode mX9_needRoomForThrow ∈ lw_tbl := List.mem_of_getElem? (i := 877) rfl
set_option maxRecDepth 100000 in
theorem mCd_X9_needFace : mCode mX9_needFace ∈ lw_tbl := List.mem_of_getElem? (i := 916) rfl
set_option maxRecDepth 100000 in
theorem mCd_X9_needWhat : mCode mX9_needWhat ∈ lw_tbl := List.mem_of_getElem? (i := 791) rfl
set_option maxRecDepth 100000 in
theorem mCd_X9_needMinutes : mCode mX9_needMinutes ∈ lw_tbl := List.mem_of_getElem? (i := 1009) rfl
set_option maxRecDepth 100000 in
theorem mCd_X9_needThrowsUpToEight : mCode mX9_needThrowsUpToEight ∈ lw_tbl := List.mem_of_getElem? (i := 1246) rfl
set_option maxRecDepth 100000 in
theorem mCd_X9_needOneToThree : mCode mX9_needOneToThree ∈ lw_tbl := List.mem_of_getElem? (i := 1190) rfl
set_option maxRecDepth 100000 in
theorem mCd_X9_needSet : mCode mX9_needSet ∈ lw_tbl := List.mem_of_getElem? (i := 1085) rfl
set_option maxRecDepth 100000 in
theorem mCd_X9_needNoneGone : mCode mX9_needNoneGone ∈ lw_tbl := List.mem_of_getElem? (i := 1090) rfl
set_option maxRecDepth 100000 in
theorem mCd_X9_needSetNotGone : mCode mX9_needSetNotGone ∈ lw_tbl := List.mem_of_getElem? (i := 1081) rfl
set_option maxRecDepth 100000 in
theorem mCd_X9_needFaces : mCode mX9_needFaces ∈ lw_tbl := List.mem_of_getElem? (i := 1352) rfl
set_option maxRecDepth 100000 in
theorem mCd_X9_needImagePlace : mCode mX9_needImagePlace ∈ lw_tbl := List.mem_of_getElem? (i := 1495) rfl
set_option maxRecDepth 100000 in
theorem mCd_X9_anyTray : mCode mX9_anyTray ∈ lw_tbl := List.mem_of_getElem? (i := 970) rfl
set_option maxRecDepth 100000 in
theorem mCd_X9_neededTray : mCode mX9_neededTray ∈ lw_tbl := List.mem_of_getElem? (i := 966) rfl
set_option maxRecDepth 100000 in
theorem mCd_X9_throwTold : mCode mX9_throwTold ∈ lw_tbl := List.mem_of_getElem? (i := 976) rfl
set_option maxRecDepth 100000 in
theorem mCd_X9_isFace : mCode mX9_isFace ∈ lw_tbl := List.mem_of_getElem? (i := 894) rfl
set_option maxRecDepth 100000 in
theorem mCd_X9_power : mCode mX9_power ∈ lw_tbl := List.mem_of_getElem? (i := 1250) rfl
set_option maxRecDepth 100000 in
theorem mCd_X9_waysToGoal : mCode mX9_waysToGoal ∈ lw_tbl := List.mem_of_getElem? (i := 1272) rfl
set_option maxRecDepth 100000 in
theorem mCd_X9_waysToLead : mCode mX9_waysToLead ∈ lw_tbl := List.mem_of_getElem? (i := 1305) rfl
set_option maxRecDepth 100000 in
theorem mCd_X10_init : mCode mX10_init ∈ lw_tbl := List.mem_of_getElem? (i := 1513) rfl
set_option maxRecDepth 100000 in
theorem mCd_X10_thrown : mCode mX10_thrown ∈ lw_tbl := List.mem_of_getElem? (i := 1604) rfl
set_option maxRecDepth 100000 in
theorem mCd_X10_fails : mCode mX10_fails ∈ lw_tbl := List.mem_of_getElem? (i := 1619) rfl
set_option maxRecDepth 100000 in
theorem mCd_X10_within : mCode mX10_within ∈ lw_tbl := List.mem_of_getElem? (i := 1615) rfl
set_option maxRecDepth 100000 in
theorem mCd_X10_begins : mCode mX10_begins ∈ lw_tbl := List.mem_of_getElem? (i := 1517) rfl
set_option maxRecDepth 100000 in
theorem mCd_X10_copies : mCode mX10_copies ∈ lw_tbl := List.mem_of_getElem? (i := 1784) rfl
set_option maxRecDepth 100000 in
theorem mCd_X10_feed : mCode mX10_feed ∈ lw_tbl := List.mem_of_getElem? (i := 1608) rfl
set_option maxRecDepth 100000 in
theorem mCd_X10_see : mCode mX10_see ∈ lw_tbl := List.mem_of_getElem? (i := 1630) rfl
set_option maxRecDepth 100000 in
theorem mCd_X10_isLetter : mCode mX10_isLetter ∈ lw_tbl := List.mem_of_getElem? (i := 1626) rfl
set_option maxRecDepth 100000 in
theorem mCd_X10_isDigit : mCode mX10_isDigit ∈ lw_tbl := List.mem_of_getElem? (i := 1633) rfl
set_option maxRecDepth 100000 in
theorem mCd_X10_reads : mCode mX10_reads ∈ lw_tbl := List.mem_of_getElem? (i := 1623) rfl
set_option maxRecDepth 100000 in
theorem mCd_X10_blames : mCode mX10_blames ∈ lw_tbl := List.mem_of_getElem? (i := 1652) rfl
set_option maxRecDepth 100000 in
theorem mCd_X10_isWord : mCode mX10_isWord ∈ lw_tbl := List.mem_of_getElem? (i := 1642) rfl
set_option maxRecDepth 100000 in
theorem mCd_X10_took : mCode mX10_took ∈ lw_tbl := List.mem_of_getElem? (i := 1661) rfl
set_option maxRecDepth 100000 in
theorem mCd_X10_number : mCode mX10_number ∈ lw_tbl := List.mem_of_getElem? (i := 1656) rfl
set_option maxRecDepth 100000 in
theorem mCd_X10_readDie : mCode mX10_readDie ∈ lw_tbl := List.mem_of_getElem? (i := 1648) rfl
set_option maxRecDepth 100000 in
theorem mCd_X10_readHand : mCode mX10_readHand ∈ lw_tbl := List.mem_of_getElem? (i := 1666) rfl
set_option maxRecDepth 100000 in
theorem mCd_X10_readLine : mCode mX10_readLine ∈ lw_tbl := List.mem_of_getElem? (i := 1637) rfl
set_option maxRecDepth 100000 in
theorem mCd_X10_table : mCode mX10_table ∈ lw_tbl := List.mem_of_getElem? (i := 1612) rfl
set_option maxRecDepth 100000 in
theorem mCd_X10_fault : mCode mX10_fault ∈ lw_tbl := List.mem_of_getElem? (i := 1671) rfl
set_option maxRecDepth 100000 in
theorem mCd_X10_dice : mCode mX10_dice ∈ lw_tbl := List.mem_of_getElem? (i := 1683) rfl
set_option maxRecDepth 100000 in
theorem mCd_X10_hands : mCode mX10_hands ∈ lw_tbl := List.mem_of_getElem? (i := 1724) rfl
set_option maxRecDepth 100000 in
theorem mCd_X10_isDie : mCode mX10_isDie ∈ lw_tbl := List.mem_of_getElem? (i := 1679) rfl
set_option maxRecDepth 100000 in
theorem mCd_X10_isHand : mCode mX10_isHand ∈ lw_tbl := List.mem_of_getElem? (i := 1720) rfl
set_option maxRecDepth 100000 in
theorem mCd_X10_isFace : mCode mX10_isFace ∈ lw_tbl := List.mem_of_getElem? (i := 1755) rfl
set_option maxRecDepth 100000 in
theorem mCd_X10_weight : mCode mX10_weight ∈ lw_tbl := List.mem_of_getElem? (i := 1688) rfl
set_option maxRecDepth 100000 in
theorem mCd_X10_isSalt : mCode mX10_isSalt ∈ lw_tbl := List.mem_of_getElem? (i := 1696) rfl
set_option maxRecDepth 100000 in
theorem mCd_X10_total : mCode mX10_total ∈ lw_tbl := List.mem_of_getElem? (i := 1692) rfl
set_option maxRecDepth 100000 in
theorem mCd_X10_isGone : mCode mX10_isGone ∈ lw_tbl := List.mem_of_getElem? (i := 1700) rfl
set_option maxRecDepth 100000 in
theorem mCd_X10_throwsNow : mCode mX10_throwsNow ∈ lw_tbl := List.mem_of_getElem? (i := 1708) rfl
set_option maxRecDepth 100000 in
theorem mCd_X10_pastOf : mCode mX10_pastOf ∈ lw_tbl := List.mem_of_getElem? (i := 1712) rfl
set_option maxRecDepth 100000 in
theorem mCd_X10_times : mCode mX10_times ∈ lw_tbl := List.mem_of_getElem? (i := 1704) rfl
set_option maxRecDepth 100000 in
theorem mCd_X10_die : mCode mX10_die ∈ lw_tbl := List.mem_of_getElem? (i := 1675) rfl
set_option maxRecDepth 100000 in
theorem mCd_X10_hand : mCode mX10_hand ∈ lw_tbl := List.mem_of_getElem? (i := 1716) rfl
set_option maxRecDepth 100000 in
theorem mCd_X10_salts : mCode mX10_salts ∈ lw_tbl := List.mem_of_getElem? (i := 1729) rfl
set_option maxRecDepth 100000 in
theorem mCd_X10_draw : mCode mX10_draw ∈ lw_tbl := List.mem_of_getElem? (i := 1737) rfl
set_option maxRecDepth 100000 in
theorem mCd_X10_faceBy : mCode mX10_faceBy ∈ lw_tbl := List.mem_of_getElem? (i := 1742) rfl
set_option maxRecDepth 100000 in
theorem mCd_X10_goes : mCode mX10_goes ∈ lw_tbl := List.mem_of_getElem? (i := 1746) rfl
set_option maxRecDepth 100000 in
theorem mCd_X10_cast : mCode mX10_cast ∈ lw_tbl := List.mem_of_getElem? (i := 1733) rfl
set_option maxRecDepth 100000 in
theorem mCd_X10_shows : mCode mX10_shows ∈ lw_tbl := List.mem_of_getElem? (i := 1752) rfl
set_option maxRecDepth 100000 in
theorem mCd_X10_back : mCode mX10_back ∈ lw_tbl := List.mem_of_getElem? (i := 1760) rfl
set_option maxRecDepth 100000 in
theorem mCd_X10_past : mCode mX10_past ∈ lw_tbl := List.mem_of_getElem? (i := 1764) rfl
set_option maxRecDepth 100000 in
theorem mCd_X10_evening : mCode mX10_evening ∈ lw_tbl := List.mem_of_getElem? (i := 1768) rfl
set_option maxRecDepth 100000 in
theorem mCd_X10_trayFault : mCode mX10_trayFault ∈ lw_tbl := List.mem_of_getElem? (i := 1777) rfl
set_option maxRecDepth 100000 in
theorem mCd_X10_whyTold : mCode mX10_whyTold ∈ lw_tbl := List.mem_of_getElem? (i := 1792) rfl
set_option maxRecDepth 100000 in
theorem mCd_X10_goesBy : mCode mX10_goesBy ∈ lw_tbl := List.mem_of_getElem? (i := 1788) rfl
set_option maxRecDepth 100000 in
theorem mCd_X10_totals : mCode mX10_totals ∈ lw_tbl := List.mem_of_getElem? (i := 1797) rfl
set_option maxRecDepth 100000 in
theorem mCd_X10_judge : mCode mX10_judge ∈ lw_tbl := List.mem_of_getElem? (i := 1773) rfl
set_option maxRecDepth 100000 in
theorem mCd_X10_perform : mCode mX10_perform ∈ lw_tbl := List.mem_of_getElem? (i := 1801) rfl
set_option maxRecDepth 100000 in
theorem mCd_X10_eatenNext : mCode mX10_eatenNext ∈ lw_tbl := List.mem_of_getElem? (i := 1814) rfl
set_option maxRecDepth 100000 in
theorem mCd_X10_eats : mCode mX10_eats ∈ lw_tbl := List.mem_of_getElem? (i := 1810) rfl
set_option maxRecDepth 100000 in
theorem mCd_X10_ants : mCode mX10_ants ∈ lw_tbl := List.mem_of_getElem? (i := 1805) rfl
set_option maxRecDepth 100000 in
theorem mCd_X10_laysRow : mCode mX10_laysRow ∈ lw_tbl := List.mem_of_getElem? (i := 1822) rfl
set_option maxRecDepth 100000 in
theorem mCd_X10_putsRow : mCode mX10_putsRow ∈ lw_tbl := List.mem_of_getElem? (i := 1826) rfl
set_option maxRecDepth 100000 in
theorem mCd_X10_eaten : mCode mX10_eaten ∈ lw_tbl := List.mem_of_getElem? (i := 1818) rfl
set_option maxRecDepth 100000 in
theorem mCd_X10_lasts : mCode mX10_lasts ∈ lw_tbl := List.mem_of_getElem? (i := 1830) rfl
set_option maxRecDepth 100000 in
theorem mCd_X10_lastFace : mCode mX10_lastFace ∈ lw_tbl := List.mem_of_getElem? (i := 1834) rfl
set_option maxRecDepth 100000 in
theorem mCd_X10_rain : mCode mX10_rain ∈ lw_tbl := List.mem_of_getElem? (i := 1838) rfl
set_option maxRecDepth 100000 in
theorem mCd_X10_fan : mCode mX10_fan ∈ lw_tbl := List.mem_of_getElem? (i := 1843) rfl
set_option maxRecDepth 100000 in
theorem mCd_X10_lot : mCode mX10_lot ∈ lw_tbl := List.mem_of_getElem? (i := 1847) rfl
set_option maxRecDepth 100000 in
theorem mCd_X10_has : mCode mX10_has ∈ lw_tbl := List.mem_of_getElem? (i := 1858) rfl
set_option maxRecDepth 100000 in
theorem mCd_X10_setFault : mCode mX10_setFault ∈ lw_tbl := List.mem_of_getElem? (i := 1855) rfl
set_option maxRecDepth 100000 in
theorem mCd_X10_laysWays : mCode mX10_laysWays ∈ lw_tbl := List.mem_of_getElem? (i := 1870) rfl
set_option maxRecDepth 100000 in
theorem mCd_X10_all : mCode mX10_all ∈ lw_tbl := List.mem_of_getElem? (i := 1862) rfl
set_option maxRecDepth 100000 in
theorem mCd_X10_atLeast : mCode mX10_atLeast ∈ lw_tbl := List.mem_of_getElem? (i := 1879) rfl
set_option maxRecDepth 100000 in
theorem mCd_X10_whole : mCode mX10_whole ∈ lw_tbl := List.mem_of_getElem? (i := 1851) rfl
set_option maxRecDepth 100000 in
theorem mCd_X10_sum : mCode mX10_sum ∈ lw_tbl := List.mem_of_getElem? (i := 1866) rfl
set_option maxRecDepth 100000 in
theorem mCd_X10_least : mCode mX10_least ∈ lw_tbl := List.mem_of_getElem? (i := 1875) rfl
set_option maxRecDepth 100000 in
theorem mCd_X10_alike : mCode mX10_alike ∈ lw_tbl := List.mem_of_getElem? (i := 1883) rfl
set_option maxRecDepth 100000 in
theorem mCd_X10_mode : mCode mX10_mode ∈ lw_tbl := List.mem_of_getElem? (i := 1887) rfl
set_option maxRecDepth 100000 in
theorem mCd_X10_sums : mCode mX10_sums ∈ lw_tbl := List.mem_of_getElem? (i := 1891) rfl
set_option maxRecDepth 100000 in
theorem mCd_X10_mean : mCode mX10_mean ∈ lw_tbl := List.mem_of_getElem? (i := 1895) rfl
set_option maxRecDepth 100000 in
theorem mCd_X10_laysUnlike : mCode mX10_laysUnlike ∈ lw_tbl := List.mem_of_getElem? (i := 1907) rfl
set_option maxRecDepth 100000 in
theorem mCd_X10_isRow : mCode mX10_isRow ∈ lw_tbl := List.mem_of_getElem? (i := 1910) rfl
set_option maxRecDepth 100000 in
theorem mCd_X10_unlikeOf : mCode mX10_unlikeOf ∈ lw_tbl := List.mem_of_getElem? (i := 1903) rfl
set_option maxRecDepth 100000 in
theorem mCd_X10_unlike : mCode mX10_unlike ∈ lw_tbl := List.mem_of_getElem? (i := 1899) rfl
set_option maxRecDepth 100000 in
theorem mCd_X10_run : mCode mX10_run ∈ lw_tbl := List.mem_of_getElem? (i := 1914) rfl
set_option maxRecDepth 100000 in
theorem mCd_X10_cannot : mCode mX10_cannot ∈ lw_tbl := List.mem_of_getElem? (i := 1918) rfl
set_option maxRecDepth 100000 in
theorem mCd_X10_power : mCode mX10_power ∈ lw_tbl := List.mem_of_getElem? (i := 1926) rfl
set_option maxRecDepth 100000 in
theorem mCd_X10_once : mCode mX10_once ∈ lw_tbl := List.mem_of_getElem? (i := 1922) rfl
set_option maxRecDepth 100000 in
theorem mCd_X10_allFaces : mCode mX10_allFaces ∈ lw_tbl := List.mem_of_getElem? (i := 1930) rfl
set_option maxRecDepth 100000 in
theorem mCd_X10_coins : mCode mX10_coins ∈ lw_tbl := List.mem_of_getElem? (i := 1934) rfl
set_option maxRecDepth 100000 in
theorem mCd_X10_size : mCode mX10_size ∈ lw_tbl := List.mem_of_getElem? (i := 1942) rfl
set_option maxRecDepth 100000 in
theorem mCd_X10_bestSet : mCode mX10_bestSet ∈ lw_tbl := List.mem_of_getElem? (i := 1939) rfl
set_option maxRecDepth 100000 in
theorem mCd_X10_beatsOf : mCode mX10_beatsOf ∈ lw_tbl := List.mem_of_getElem? (i := 1954) rfl
set_option maxRecDepth 100000 in
theorem mCd_X10_tiesOf : mCode mX10_tiesOf ∈ lw_tbl := List.mem_of_getElem? (i := 1962) rfl
set_option maxRecDepth 100000 in
theorem mCd_X10_twoFault : mCode mX10_twoFault ∈ lw_tbl := List.mem_of_getElem? (i := 1950) rfl
set_option maxRecDepth 100000 in
theorem mCd_X10_beats : mCode mX10_beats ∈ lw_tbl := List.mem_of_getElem? (i := 1946) rfl
set_option maxRecDepth 100000 in
theorem mCd_X10_ties : mCode mX10_ties ∈ lw_tbl := List.mem_of_getElem? (i := 1958) rfl
set_option maxRecDepth 100000 in
theorem mCd_X10_isBetter : mCode mX10_isBetter ∈ lw_tbl := List.mem_of_getElem? (i := 1970) rfl
set_option maxRecDepth 100000 in
theorem mCd_X10_strongest : mCode mX10_strongest ∈ lw_tbl := List.mem_of_getElem? (i := 1966) rfl
set_option maxRecDepth 100000 in
theorem mCd_X10_isRing : mCode mX10_isRing ∈ lw_tbl := List.mem_of_getElem? (i := 1978) rfl
set_option maxRecDepth 100000 in
theorem mCd_X10_ring : mCode mX10_ring ∈ lw_tbl := List.mem_of_getElem? (i := 1974) rfl
set_option maxRecDepth 100000 in
theorem mCd_X10_games : mCode mX10_games ∈ lw_tbl := List.mem_of_getElem? (i := 1986) rfl
set_option maxRecDepth 100000 in
theorem mCd_X10_series : mCode mX10_series ∈ lw_tbl := List.mem_of_getElem? (i := 1982) rfl
set_option maxRecDepth 100000 in
theorem mCd_X10_moreOf : mCode mX10_moreOf ∈ lw_tbl := List.mem_of_getElem? (i := 1994) rfl
set_option maxRecDepth 100000 in
theorem mCd_X10_more : mCode mX10_more ∈ lw_tbl := List.mem_of_getElem? (i := 1990) rfl
set_option maxRecDepth 100000 in
theorem mCd_X10_evenest : mCode mX10_evenest ∈ lw_tbl := List.mem_of_getElem? (i := 1998) rfl
set_option maxRecDepth 100000 in
theorem mCd_X10_stopping : mCode mX10_stopping ∈ lw_tbl := List.mem_of_getElem? (i := 2003) rfl
set_option maxRecDepth 100000 in
theorem mCd_X10_facesFault : mCode mX10_facesFault ∈ lw_tbl := List.mem_of_getElem? (i := 2013) rfl
set_option maxRecDepth 100000 in
theorem mCd_X10_faceTold : mCode mX10_faceTold ∈ lw_tbl := List.mem_of_getElem? (i := 2017) rfl
set_option maxRecDepth 100000 in
theorem mCd_X10_likelier : mCode mX10_likelier ∈ lw_tbl := List.mem_of_getElem? (i := 2009) rfl
set_option maxRecDepth 100000 in
theorem mCd_X10_fits : mCode mX10_fits ∈ lw_tbl := List.mem_of_getElem? (i := 2021) rfl
set_option maxRecDepth 100000 in
theorem mCd_X10_wears : mCode mX10_wears ∈ lw_tbl := List.mem_of_getElem? (i := 2029) rfl
set_option maxRecDepth 100000 in
theorem mCd_X10_worn : mCode mX10_worn ∈ lw_tbl := List.mem_of_getElem? (i := 2025) rfl
set_option maxRecDepth 100000 in
theorem mCd_X10_tally : mCode mX10_tally ∈ lw_tbl := List.mem_of_getElem? (i := 2033) rfl
set_option maxRecDepth 100000 in
theorem mCd_X10_streak : mCode mX10_streak ∈ lw_tbl := List.mem_of_getElem? (i := 2037) rfl
set_option maxRecDepth 100000 in
theorem mCd_X10_offOf : mCode mX10_offOf ∈ lw_tbl := List.mem_of_getElem? (i := 2045) rfl
set_option maxRecDepth 100000 in
theorem mCd_X10_off : mCode mX10_off ∈ lw_tbl := List.mem_of_getElem? (i := 2041) rfl
set_option maxRecDepth 100000 in
theorem mCd_X10_loaded : mCode mX10_loaded ∈ lw_tbl := List.mem_of_getElem? (i := 2049) rfl
set_option maxRecDepth 100000 in
theorem mCd_X10_isTray : mCode mX10_isTray ∈ lw_tbl := List.mem_of_getElem? (i := 1780) rfl
set_option maxRecDepth 100000 in
theorem mCd_X10_tray : mCode mX10_tray ∈ lw_tbl := List.mem_of_getElem? (i := 2053) rfl
set_option maxRecDepth 100000 in
theorem mCd_X10_cut : mCode mX10_cut ∈ lw_tbl := List.mem_of_getElem? (i := 2061) rfl
set_option maxRecDepth 100000 in
theorem mCd_X10_write : mCode mX10_write ∈ lw_tbl := List.mem_of_getElem? (i := 2057) rfl
set_option maxRecDepth 100000 in
theorem mCd_X10_pour : mCode mX10_pour ∈ lw_tbl := List.mem_of_getElem? (i := 2065) rfl
set_option maxRecDepth 100000 in
theorem mCd_X10_image : mCode mX10_image ∈ lw_tbl := List.mem_of_getElem? (i := 2069) rfl
set_option maxRecDepth 100000 in
theorem mCd_X10_restore : mCode mX10_restore ∈ lw_tbl := List.mem_of_getElem? (i := 2073) rfl
set_option maxRecDepth 100000 in
theorem mCd_X10_count : mCode mX10_count ∈ lw_tbl := List.mem_of_getElem? (i := 2077) rfl
set_option maxRecDepth 100000 in
theorem mCd_J6_bitCount_0f7a4 : mCode mJ6_bitCount_0f7a4 ∈ lw_tbl := List.mem_of_getElem? (i := 1199) rfl
set_option maxRecDepth 100000 in
theorem mCd_J9_abs_0f7a4 : mCode mJ9_abs_0f7a4 ∈ lw_tbl := List.mem_of_getElem? (i := 513) rfl
set_option maxRecDepth 100000 in
theorem mCd_J9_max_7cf53 : mCode mJ9_max_7cf53 ∈ lw_tbl := List.mem_of_getElem? (i := 1032) rfl
set_option maxRecDepth 100000 in
theorem mCd_J9_max_f86c9 : mCode mJ9_max_f86c9 ∈ lw_tbl := List.mem_of_getElem? (i := 1339) rfl
set_option maxRecDepth 100000 in
theorem mCd_J9_min_7cf53 : mCode mJ9_min_7cf53 ∈ lw_tbl := List.mem_of_getElem? (i := 905) rfl
set_option maxRecDepth 100000 in
theorem mCd_J0_length_8abf5 : mCode mJ0_length_8abf5 ∈ lw_tbl := List.mem_of_getElem? (i := 677) rfl
set_option maxRecDepth 100000 in
theorem mCd_J0_charAt_5068e : mCode mJ0_charAt_5068e ∈ lw_tbl := List.mem_of_getElem? (i := 687) rfl
set_option maxRecDepth 100000 in
theorem mCd_J0_coder_7d493 : mCode mJ0_coder_7d493 ∈ lw_tbl := List.mem_of_getElem? (i := 681) rfl
set_option maxRecDepth 100000 in
theorem mCd_J0_isLatin1_aae02 : mCode mJ0_isLatin1_aae02 ∈ lw_tbl := List.mem_of_getElem? (i := 691) rfl
set_option maxRecDepth 100000 in
theorem mCd_J1_charAt_3b067 : mCode mJ1_charAt_3b067 ∈ lw_tbl := List.mem_of_getElem? (i := 694) rfl
set_option maxRecDepth 100000 in
theorem mCd_J2_length_9d52b : mCode mJ2_length_9d52b ∈ lw_tbl := List.mem_of_getElem? (i := 711) rfl
set_option maxRecDepth 100000 in
theorem mCd_J2_charAt_3b067 : mCode mJ2_charAt_3b067 ∈ lw_tbl := List.mem_of_getElem? (i := 705) rfl
set_option maxRecDepth 100000 in
theorem mCd_L_table : mCode mL_table ∈ lw_tbl := List.mem_of_getElem? (i := 562) rfl
set_option maxRecDepth 100000 in
theorem mCd_L_die : mCode mL_die ∈ lw_tbl := List.mem_of_getElem? (i := 758) rfl
set_option maxRecDepth 100000 in
theorem mCd_L_hand : mCode mL_hand ∈ lw_tbl := List.mem_of_getElem? (i := 803) rfl
set_option maxRecDepth 100000 in
theorem mCd_L_salts : mCode mL_salts ∈ lw_tbl := List.mem_of_getElem? (i := 836) rfl
set_option maxRecDepth 100000 in
theorem mCd_L_cast : mCode mL_cast ∈ lw_tbl := List.mem_of_getElem? (i := 848) rfl
set_option maxRecDepth 100000 in
theorem mCd_L_shows : mCode mL_shows ∈ lw_tbl := List.mem_of_getElem? (i := 908) rfl
set_option maxRecDepth 100000 in
theorem mCd_L_back : mCode mL_back ∈ lw_tbl := List.mem_of_getElem? (i := 926) rfl
set_option maxRecDepth 100000 in
theorem mCd_L_past : mCode mL_past ∈ lw_tbl := List.mem_of_getElem? (i := 938) rfl
set_option maxRecDepth 100000 in
theorem mCd_L_evening : mCode mL_evening ∈ lw_tbl := List.mem_of_getElem? (i := 949) rfl
set_option maxRecDepth 100000 in
theorem mCd_L_judge : mCode mL_judge ∈ lw_tbl := List.mem_of_getElem? (i := 958) rfl
set_option maxRecDepth 100000 in
theorem mCd_L_perform : mCode mL_perform ∈ lw_tbl := List.mem_of_getElem? (i := 994) rfl
set_option maxRecDepth 100000 in
theorem mCd_L_ants : mCode mL_ants ∈ lw_tbl := List.mem_of_getElem? (i := 1001) rfl
set_option maxRecDepth 100000 in
theorem mCd_L_eaten : mCode mL_eaten ∈ lw_tbl := List.mem_of_getElem? (i := 1021) rfl
set_option maxRecDepth 100000 in
theorem mCd_L_lasts : mCode mL_lasts ∈ lw_tbl := List.mem_of_getElem? (i := 1035) rfl
set_option maxRecDepth 100000 in
theorem mCd_L_lastFace : mCode mL_lastFace ∈ lw_tbl := List.mem_of_getElem? (i := 1042) rfl
set_option maxRecDepth 100000 in
theorem mCd_L_rain : mCode mL_rain ∈ lw_tbl := List.mem_of_getElem? (i := 1053) rfl
set_option maxRecDepth 100000 in
theorem mCd_L_fan : mCode mL_fan ∈ lw_tbl := List.mem_of_getElem? (i := 1062) rfl
set_option maxRecDepth 100000 in
theorem mCd_L_whole : mCode mL_whole ∈ lw_tbl := List.mem_of_getElem? (i := 1073) rfl
set_option maxRecDepth 100000 in
theorem mCd_L_sum : mCode mL_sum ∈ lw_tbl := List.mem_of_getElem? (i := 1102) rfl
set_option maxRecDepth 100000 in
theorem mCd_L_least : mCode mL_least ∈ lw_tbl := List.mem_of_getElem? (i := 1125) rfl
set_option maxRecDepth 100000 in
theorem mCd_L_alike : mCode mL_alike ∈ lw_tbl := List.mem_of_getElem? (i := 1137) rfl
set_option maxRecDepth 100000 in
theorem mCd_L_mode : mCode mL_mode ∈ lw_tbl := List.mem_of_getElem? (i := 1148) rfl
set_option maxRecDepth 100000 in
theorem mCd_L_sums : mCode mL_sums ∈ lw_tbl := List.mem_of_getElem? (i := 1159) rfl
set_option maxRecDepth 100000 in
theorem mCd_L_mean : mCode mL_mean ∈ lw_tbl := List.mem_of_getElem? (i := 1170) rfl
set_option maxRecDepth 100000 in
theorem mCd_L_bestSet : mCode mL_bestSet ∈ lw_tbl := List.mem_of_getElem? (i := 1182) rfl
set_option maxRecDepth 100000 in
theorem mCd_L_unlike : mCode mL_unlike ∈ lw_tbl := List.mem_of_getElem? (i := 1206) rfl
set_option maxRecDepth 100000 in
theorem mCd_L_run : mCode mL_run ∈ lw_tbl := List.mem_of_getElem? (i := 1224) rfl
set_option maxRecDepth 100000 in
theorem mCd_L_cannot : mCode mL_cannot ∈ lw_tbl := List.mem_of_getElem? (i := 1231) rfl
set_option maxRecDepth 100000 in
theorem mCd_L_once : mCode mL_once ∈ lw_tbl := List.mem_of_getElem? (i := 1238) rfl
set_option maxRecDepth 100000 in
theorem mCd_L_allFaces : mCode mL_allFaces ∈ lw_tbl := List.mem_of_getElem? (i := 1253) rfl
set_option maxRecDepth 100000 in
theorem mCd_L_coins : mCode mL_coins ∈ lw_tbl := List.mem_of_getElem? (i := 1264) rfl
set_option maxRecDepth 100000 in
theorem mCd_L_beats : mCode mL_beats ∈ lw_tbl := List.mem_of_getElem? (i := 1275) rfl
set_option maxRecDepth 100000 in
theorem mCd_L_ties : mCode mL_ties ∈ lw_tbl := List.mem_of_getElem? (i := 1287) rfl
set_option maxRecDepth 100000 in
theorem mCd_L_series : mCode mL_series ∈ lw_tbl := List.mem_of_getElem? (i := 1298) rfl
set_option maxRecDepth 100000 in
theorem mCd_L_more : mCode mL_more ∈ lw_tbl := List.mem_of_getElem? (i := 1308) rfl
set_option maxRecDepth 100000 in
theorem mCd_L_stopping : mCode mL_stopping ∈ lw_tbl := List.mem_of_getElem? (i := 1323) rfl
set_option maxRecDepth 100000 in
theorem mCd_L_likelier : mCode mL_likelier ∈ lw_tbl := List.mem_of_getElem? (i := 1344) rfl
set_option maxRecDepth 100000 in
theorem mCd_L_fits : mCode mL_fits ∈ lw_tbl := List.mem_of_getElem? (i := 1373) rfl
set_option maxRecDepth 100000 in
theorem mCd_L_worn : mCode mL_worn ∈ lw_tbl := List.mem_of_getElem? (i := 1384) rfl
set_option maxRecDepth 100000 in
theorem mCd_L_tally : mCode mL_tally ∈ lw_tbl := List.mem_of_getElem? (i := 1407) rfl
set_option maxRecDepth 100000 in
theorem mCd_L_streak : mCode mL_streak ∈ lw_tbl := List.mem_of_getElem? (i := 1415) rfl
set_option maxRecDepth 100000 in
theorem mCd_L_off : mCode mL_off ∈ lw_tbl := List.mem_of_getElem? (i := 1427) rfl
set_option maxRecDepth 100000 in
theorem mCd_L_tray : mCode mL_tray ∈ lw_tbl := List.mem_of_getElem? (i := 1435) rfl
set_option maxRecDepth 100000 in
theorem mCd_L_write : mCode mL_write ∈ lw_tbl := List.mem_of_getElem? (i := 1447) rfl
set_option maxRecDepth 100000 in
theorem mCd_L_pour : mCode mL_pour ∈ lw_tbl := List.mem_of_getElem? (i := 1479) rfl
set_option maxRecDepth 100000 in
theorem mCd_L_image : mCode mL_image ∈ lw_tbl := List.mem_of_getElem? (i := 1487) rfl
set_option maxRecDepth 100000 in
theorem mCd_L_restore : mCode mL_restore ∈ lw_tbl := List.mem_of_getElem? (i := 1503) rfl
