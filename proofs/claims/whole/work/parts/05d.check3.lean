set_option maxRecDepth 100000 in
theorem ok_X3_within : xm_okM lw_tbl vwCl xm_TX xm_P mm_X3_within = true := by decide +kernel
set_option maxRecDepth 100000 in
theorem oc_X3_within : Cond.code yX3_within cX3_within 4 (some .int) ∈ lw_tbl := List.mem_of_getElem? (i := 1029) rfl
set_option maxRecDepth 100000 in
theorem ok_X10_most : xm_okM lw_tbl vwCl xm_TX xm_P mm_X10_most = true := by decide +kernel
set_option maxRecDepth 100000 in
theorem oc_X10_most : Cond.code yX10_most cX10_most 3 (some .int) ∈ lw_tbl := List.mem_of_getElem? (i := 1033) rfl
set_option maxRecDepth 100000 in
theorem ok_X3_stateAt : xm_okM lw_tbl vwCl xm_TX xm_P mm_X3_stateAt = true := by decide +kernel
set_option maxRecDepth 100000 in
theorem oc_X3_stateAt : Cond.code yX3_stateAt cX3_stateAt 2 (some .int) ∈ lw_tbl := List.mem_of_getElem? (i := 1037) rfl
set_option maxRecDepth 100000 in
theorem ok_X10_ways : xm_okM lw_tbl vwCl xm_TX xm_P mm_X10_ways = true := by decide +kernel
set_option maxRecDepth 100000 in
theorem oc_X10_ways : Cond.code yX10_ways cX10_ways 2 (some .long) ∈ lw_tbl := List.mem_of_getElem? (i := 1044) rfl
set_option maxRecDepth 100000 in
theorem ok_X10_isWaysLength : xm_okM lw_tbl vwCl xm_TX xm_P mm_X10_isWaysLength = true := by decide +kernel
set_option maxRecDepth 100000 in
theorem oc_X10_isWaysLength : Cond.code yX10_isWaysLength cX10_isWaysLength 1 (some .boolean) ∈ lw_tbl := List.mem_of_getElem? (i := 1047) rfl
set_option maxRecDepth 100000 in
theorem ok_X10_exploreFromFirst : xm_okM lw_tbl vwCl xm_TX xm_P mm_X10_exploreFromFirst = true := by decide +kernel
set_option maxRecDepth 100000 in
theorem oc_X10_exploreFromFirst : Cond.code yX10_exploreFromFirst cX10_exploreFromFirst 1 none ∈ lw_tbl := List.mem_of_getElem? (i := 1052) rfl
set_option maxRecDepth 100000 in
theorem ok_X3_waysTo : xm_okM lw_tbl vwCl xm_TX xm_P mm_X3_waysTo = true := by decide +kernel
set_option maxRecDepth 100000 in
theorem oc_X3_waysTo : Cond.code yX3_waysTo cX3_waysTo 5 (some .long) ∈ lw_tbl := List.mem_of_getElem? (i := 1057) rfl
set_option maxRecDepth 100000 in
theorem ok_X3_lengthen : xm_okM lw_tbl vwCl xm_TX xm_P mm_X3_lengthen = true := by decide +kernel
set_option maxRecDepth 100000 in
theorem oc_X3_lengthen : Cond.code yX3_lengthen cX3_lengthen 5 none ∈ lw_tbl := List.mem_of_getElem? (i := 1061) rfl
set_option maxRecDepth 100000 in
theorem ok_X10_how : xm_okM lw_tbl vwCl xm_TX xm_P mm_X10_how = true := by decide +kernel
set_option maxRecDepth 100000 in
theorem oc_X10_how : Cond.code yX10_how cX10_how 3 (some .int) ∈ lw_tbl := List.mem_of_getElem? (i := 1068) rfl
set_option maxRecDepth 100000 in
theorem ok_X3_wayMove : xm_okM lw_tbl vwCl xm_TX xm_P mm_X3_wayMove = true := by decide +kernel
set_option maxRecDepth 100000 in
theorem oc_X3_wayMove : Cond.code yX3_wayMove cX3_wayMove 7 (some .int) ∈ lw_tbl := List.mem_of_getElem? (i := 1072) rfl
set_option maxRecDepth 100000 in
theorem ok_X3_firstMoveIn : xm_okM lw_tbl vwCl xm_TX xm_P mm_X3_firstMoveIn = true := by decide +kernel
set_option maxRecDepth 100000 in
theorem oc_X3_firstMoveIn : Cond.code yX3_firstMoveIn cX3_firstMoveIn 5 (some .int) ∈ lw_tbl := List.mem_of_getElem? (i := 1077) rfl
set_option maxRecDepth 100000 in
theorem ok_X10_means : xm_okM lw_tbl vwCl xm_TX xm_P mm_X10_means = true := by decide +kernel
set_option maxRecDepth 100000 in
theorem oc_X10_means : Cond.code yX10_means cX10_means 2 (some .int) ∈ lw_tbl := List.mem_of_getElem? (i := 1081) rfl
set_option maxRecDepth 100000 in
theorem ok_X10_called : xm_okM lw_tbl vwCl xm_TX xm_P mm_X10_called = true := by decide +kernel
set_option maxRecDepth 100000 in
theorem oc_X10_called : Cond.code yX10_called cX10_called 1 (some .int) ∈ lw_tbl := List.mem_of_getElem? (i := 1085) rfl
set_option maxRecDepth 100000 in
theorem ok_X10_fewestByCalls : xm_okM lw_tbl vwCl xm_TX xm_P mm_X10_fewestByCalls = true := by decide +kernel
set_option maxRecDepth 100000 in
theorem oc_X10_fewestByCalls : Cond.code yX10_fewestByCalls cX10_fewestByCalls 5 (some .int) ∈ lw_tbl := List.mem_of_getElem? (i := 1089) rfl
set_option maxRecDepth 100000 in
theorem ok_X10_words : xm_okM lw_tbl vwCl xm_TX xm_P mm_X10_words = true := by decide +kernel
set_option maxRecDepth 100000 in
theorem oc_X10_words : Cond.code yX10_words cX10_words 3 (some .int) ∈ lw_tbl := List.mem_of_getElem? (i := 1093) rfl
set_option maxRecDepth 100000 in
theorem ok_X10_isPart : xm_okM lw_tbl vwCl xm_TX xm_P mm_X10_isPart = true := by decide +kernel
set_option maxRecDepth 100000 in
theorem oc_X10_isPart : Cond.code yX10_isPart cX10_isPart 1 (some .boolean) ∈ lw_tbl := List.mem_of_getElem? (i := 1096) rfl
set_option maxRecDepth 100000 in
theorem ok_X10_fewestUnlikeCalls : xm_okM lw_tbl vwCl xm_TX xm_P mm_X10_fewestUnlikeCalls = true := by decide +kernel
set_option maxRecDepth 100000 in
theorem oc_X10_fewestUnlikeCalls : Cond.code yX10_fewestUnlikeCalls cX10_fewestUnlikeCalls 4 (some .int) ∈ lw_tbl := List.mem_of_getElem? (i := 1100) rfl
set_option maxRecDepth 100000 in
theorem ok_J6_bitCount_0f7a4 : xm_okM lw_tbl vwCl xm_TX xm_P mm_J6_bitCount_0f7a4 = true := by decide +kernel
set_option maxRecDepth 100000 in
theorem oc_J6_bitCount_0f7a4 : Cond.code yJ6_bitCount_0f7a4 cJ6_bitCount_0f7a4 1 (some .int) ∈ lw_tbl := List.mem_of_getElem? (i := 1103) rfl
set_option maxRecDepth 100000 in
theorem ok_X10_alike : xm_okM lw_tbl vwCl xm_TX xm_P mm_X10_alike = true := by decide +kernel
set_option maxRecDepth 100000 in
theorem oc_X10_alike : Cond.code yX10_alike cX10_alike 3 (some .int) ∈ lw_tbl := List.mem_of_getElem? (i := 1110) rfl
set_option maxRecDepth 100000 in
theorem ok_X10_doubled : xm_okM lw_tbl vwCl xm_TX xm_P mm_X10_doubled = true := by decide +kernel
set_option maxRecDepth 100000 in
theorem oc_X10_doubled : Cond.code yX10_doubled cX10_doubled 3 (some .int) ∈ lw_tbl := List.mem_of_getElem? (i := 1116) rfl
set_option maxRecDepth 100000 in
theorem ok_X0_isToldBefore : xm_okM lw_tbl vwCl xm_TX xm_P mm_X0_isToldBefore = true := by decide +kernel
set_option maxRecDepth 100000 in
theorem oc_X0_isToldBefore : Cond.code yX0_isToldBefore cX0_isToldBefore 3 (some .boolean) ∈ lw_tbl := List.mem_of_getElem? (i := 1120) rfl
set_option maxRecDepth 100000 in
theorem ok_X10_right : xm_okM lw_tbl vwCl xm_TX xm_P mm_X10_right = true := by decide +kernel
set_option maxRecDepth 100000 in
theorem oc_X10_right : Cond.code yX10_right cX10_right 3 (some .int) ∈ lw_tbl := List.mem_of_getElem? (i := 1124) rfl
set_option maxRecDepth 100000 in
theorem ok_X0_rightOfTenThousand : xm_okM lw_tbl vwCl xm_TX xm_P mm_X0_rightOfTenThousand = true := by decide +kernel
set_option maxRecDepth 100000 in
theorem oc_X0_rightOfTenThousand : Cond.code yX0_rightOfTenThousand cX0_rightOfTenThousand 4 (some .int) ∈ lw_tbl := List.mem_of_getElem? (i := 1128) rfl
set_option maxRecDepth 100000 in
theorem ok_X0_canSlip : xm_okM lw_tbl vwCl xm_TX xm_P mm_X0_canSlip = true := by decide +kernel
set_option maxRecDepth 100000 in
theorem oc_X0_canSlip : Cond.code yX0_canSlip cX0_canSlip 1 (some .boolean) ∈ lw_tbl := List.mem_of_getElem? (i := 1131) rfl
set_option maxRecDepth 100000 in
theorem ok_X10_partOf : xm_okM lw_tbl vwCl xm_TX xm_P mm_X10_partOf = true := by decide +kernel
set_option maxRecDepth 100000 in
theorem oc_X10_partOf : Cond.code yX10_partOf cX10_partOf 7 (some .long) ∈ lw_tbl := List.mem_of_getElem? (i := 1135) rfl
set_option maxRecDepth 100000 in
theorem ok_X10_commonOf : xm_okM lw_tbl vwCl xm_TX xm_P mm_X10_commonOf = true := by decide +kernel
set_option maxRecDepth 100000 in
theorem oc_X10_commonOf : Cond.code yX10_commonOf cX10_commonOf 11 (some .long) ∈ lw_tbl := List.mem_of_getElem? (i := 1138) rfl
set_option maxRecDepth 100000 in
theorem ok_X10_twists : xm_okM lw_tbl vwCl xm_TX xm_P mm_X10_twists = true := by decide +kernel
set_option maxRecDepth 100000 in
theorem oc_X10_twists : Cond.code yX10_twists cX10_twists 3 (some .int) ∈ lw_tbl := List.mem_of_getElem? (i := 1142) rfl
set_option maxRecDepth 100000 in
theorem ok_X0_twistsOfTenThousand : xm_okM lw_tbl vwCl xm_TX xm_P mm_X0_twistsOfTenThousand = true := by decide +kernel
set_option maxRecDepth 100000 in
theorem oc_X0_twistsOfTenThousand : Cond.code yX0_twistsOfTenThousand cX0_twistsOfTenThousand 3 (some .int) ∈ lw_tbl := List.mem_of_getElem? (i := 1146) rfl
set_option maxRecDepth 100000 in
theorem ok_X10_mend : xm_okM lw_tbl vwCl xm_TX xm_P mm_X10_mend = true := by decide +kernel
set_option maxRecDepth 100000 in
theorem oc_X10_mend : Cond.code yX10_mend cX10_mend 9 (some .int) ∈ lw_tbl := List.mem_of_getElem? (i := 1150) rfl
set_option maxRecDepth 100000 in
theorem ok_X10_chance : xm_okM lw_tbl vwCl xm_TX xm_P mm_X10_chance = true := by decide +kernel
set_option maxRecDepth 100000 in
theorem oc_X10_chance : Cond.code yX10_chance cX10_chance 4 (some .long) ∈ lw_tbl := List.mem_of_getElem? (i := 1154) rfl
set_option maxRecDepth 100000 in
theorem ok_X10_chanceOf : xm_okM lw_tbl vwCl xm_TX xm_P mm_X10_chanceOf = true := by decide +kernel
set_option maxRecDepth 100000 in
theorem oc_X10_chanceOf : Cond.code yX10_chanceOf cX10_chanceOf 7 (some .long) ∈ lw_tbl := List.mem_of_getElem? (i := 1158) rfl
set_option maxRecDepth 100000 in
theorem ok_X10_power : xm_okM lw_tbl vwCl xm_TX xm_P mm_X10_power = true := by decide +kernel
set_option maxRecDepth 100000 in
theorem oc_X10_power : Cond.code yX10_power cX10_power 6 (some .long) ∈ lw_tbl := List.mem_of_getElem? (i := 1164) rfl
set_option maxRecDepth 100000 in
theorem ok_X10_out : xm_okM lw_tbl vwCl xm_TX xm_P mm_X10_out = true := by decide +kernel
set_option maxRecDepth 100000 in
theorem oc_X10_out : Cond.code yX10_out cX10_out 3 (some .int) ∈ lw_tbl := List.mem_of_getElem? (i := 1169) rfl
set_option maxRecDepth 100000 in
theorem ok_X10_fits : xm_okM lw_tbl vwCl xm_TX xm_P mm_X10_fits = true := by decide +kernel
set_option maxRecDepth 100000 in
theorem oc_X10_fits : Cond.code yX10_fits cX10_fits 2 (some .int) ∈ lw_tbl := List.mem_of_getElem? (i := 1176) rfl
set_option maxRecDepth 100000 in
theorem ok_X10_packs : xm_okM lw_tbl vwCl xm_TX xm_P mm_X10_packs = true := by decide +kernel
set_option maxRecDepth 100000 in
theorem oc_X10_packs : Cond.code yX10_packs cX10_packs 4 (some .int) ∈ lw_tbl := List.mem_of_getElem? (i := 1180) rfl
set_option maxRecDepth 100000 in
theorem ok_X2_hasBelowZero : xm_okM lw_tbl vwCl xm_TX xm_P mm_X2_hasBelowZero = true := by decide +kernel
set_option maxRecDepth 100000 in
theorem oc_X2_hasBelowZero : Cond.code yX2_hasBelowZero cX2_hasBelowZero 2 (some .boolean) ∈ lw_tbl := List.mem_of_getElem? (i := 1184) rfl
set_option maxRecDepth 100000 in
theorem ok_X1_highest : xm_okM lw_tbl vwCl xm_TX xm_P mm_X1_highest = true := by decide +kernel
set_option maxRecDepth 100000 in
theorem oc_X1_highest : Cond.code yX1_highest cX1_highest 6 (some .int) ∈ lw_tbl := List.mem_of_getElem? (i := 1188) rfl
set_option maxRecDepth 100000 in
theorem ok_X1_lay : xm_okM lw_tbl vwCl xm_TX xm_P mm_X1_lay = true := by decide +kernel
set_option maxRecDepth 100000 in
theorem oc_X1_lay : Cond.code yX1_lay cX1_lay 4 none ∈ lw_tbl := List.mem_of_getElem? (i := 1194) rfl
set_option maxRecDepth 100000 in
theorem ok_X1_mostOf : xm_okM lw_tbl vwCl xm_TX xm_P mm_X1_mostOf = true := by decide +kernel
set_option maxRecDepth 100000 in
theorem oc_X1_mostOf : Cond.code yX1_mostOf cX1_mostOf 7 (some .int) ∈ lw_tbl := List.mem_of_getElem? (i := 1198) rfl
set_option maxRecDepth 100000 in
theorem ok_X1_sort : xm_okM lw_tbl vwCl xm_TX xm_P mm_X1_sort = true := by decide +kernel
set_option maxRecDepth 100000 in
theorem oc_X1_sort : Cond.code yX1_sort cX1_sort 4 none ∈ lw_tbl := List.mem_of_getElem? (i := 1202) rfl
set_option maxRecDepth 100000 in
theorem ok_X10_thin : xm_okM lw_tbl vwCl xm_TX xm_P mm_X10_thin = true := by decide +kernel
set_option maxRecDepth 100000 in
theorem oc_X10_thin : Cond.code yX10_thin cX10_thin 3 (some .int) ∈ lw_tbl := List.mem_of_getElem? (i := 1206) rfl
set_option maxRecDepth 100000 in
theorem ok_X10_learn : xm_okM lw_tbl vwCl xm_TX xm_P mm_X10_learn = true := by decide +kernel
set_option maxRecDepth 100000 in
theorem oc_X10_learn : Cond.code yX10_learn cX10_learn 3 (some .int) ∈ lw_tbl := List.mem_of_getElem? (i := 1210) rfl
set_option maxRecDepth 100000 in
theorem ok_X10_isPair : xm_okM lw_tbl vwCl xm_TX xm_P mm_X10_isPair = true := by decide +kernel
set_option maxRecDepth 100000 in
theorem oc_X10_isPair : Cond.code yX10_isPair cX10_isPair 2 (some .boolean) ∈ lw_tbl := List.mem_of_getElem? (i := 1214) rfl
set_option maxRecDepth 100000 in
theorem ok_X0_secondsForSheets : xm_okM lw_tbl vwCl xm_TX xm_P mm_X0_secondsForSheets = true := by decide +kernel
set_option maxRecDepth 100000 in
theorem oc_X0_secondsForSheets : Cond.code yX0_secondsForSheets cX0_secondsForSheets 5 (some .int) ∈ lw_tbl := List.mem_of_getElem? (i := 1218) rfl
set_option maxRecDepth 100000 in
theorem ok_X0_secondsForSheet : xm_okM lw_tbl vwCl xm_TX xm_P mm_X0_secondsForSheet = true := by decide +kernel
set_option maxRecDepth 100000 in
theorem oc_X0_secondsForSheet : Cond.code yX0_secondsForSheet cX0_secondsForSheet 3 (some .int) ∈ lw_tbl := List.mem_of_getElem? (i := 1222) rfl
set_option maxRecDepth 100000 in
theorem ok_X10_skilled : xm_okM lw_tbl vwCl xm_TX xm_P mm_X10_skilled = true := by decide +kernel
set_option maxRecDepth 100000 in
theorem oc_X10_skilled : Cond.code yX10_skilled cX10_skilled 4 (some .int) ∈ lw_tbl := List.mem_of_getElem? (i := 1226) rfl
set_option maxRecDepth 100000 in
theorem ok_X10_soonest : xm_okM lw_tbl vwCl xm_TX xm_P mm_X10_soonest = true := by decide +kernel
set_option maxRecDepth 100000 in
theorem oc_X10_soonest : Cond.code yX10_soonest cX10_soonest 6 (some .int) ∈ lw_tbl := List.mem_of_getElem? (i := 1231) rfl
set_option maxRecDepth 100000 in
theorem ok_X10_friday : xm_okM lw_tbl vwCl xm_TX xm_P mm_X10_friday = true := by decide +kernel
set_option maxRecDepth 100000 in
theorem oc_X10_friday : Cond.code yX10_friday cX10_friday 1 (some .int) ∈ lw_tbl := List.mem_of_getElem? (i := 1235) rfl
set_option maxRecDepth 100000 in
theorem ok_X4_leastSeconds : xm_okM lw_tbl vwCl xm_TX xm_P mm_X4_leastSeconds = true := by decide +kernel
set_option maxRecDepth 100000 in
theorem oc_X4_leastSeconds : Cond.code yX4_leastSeconds cX4_leastSeconds 4 (some .int) ∈ lw_tbl := List.mem_of_getElem? (i := 1239) rfl
set_option maxRecDepth 100000 in
theorem ok_X4_fillTimes : xm_okM lw_tbl vwCl xm_TX xm_P mm_X4_fillTimes = true := by decide +kernel
set_option maxRecDepth 100000 in
theorem oc_X4_fillTimes : Cond.code yX4_fillTimes cX4_fillTimes 6 none ∈ lw_tbl := List.mem_of_getElem? (i := 1243) rfl
set_option maxRecDepth 100000 in
theorem ok_X4_share : xm_okM lw_tbl vwCl xm_TX xm_P mm_X4_share = true := by decide +kernel
set_option maxRecDepth 100000 in
theorem oc_X4_share : Cond.code yX4_share cX4_share 6 none ∈ lw_tbl := List.mem_of_getElem? (i := 1250) rfl
set_option maxRecDepth 100000 in
theorem ok_X4_timeOf : xm_okM lw_tbl vwCl xm_TX xm_P mm_X4_timeOf = true := by decide +kernel
set_option maxRecDepth 100000 in
theorem oc_X4_timeOf : Cond.code yX4_timeOf cX4_timeOf 3 (some .int) ∈ lw_tbl := List.mem_of_getElem? (i := 1255) rfl
set_option maxRecDepth 100000 in
theorem ok_X10_given : xm_okM lw_tbl vwCl xm_TX xm_P mm_X10_given = true := by decide +kernel
set_option maxRecDepth 100000 in
theorem oc_X10_given : Cond.code yX10_given cX10_given 2 (some .int) ∈ lw_tbl := List.mem_of_getElem? (i := 1260) rfl
set_option maxRecDepth 100000 in
theorem ok_X4_pairOf : xm_okM lw_tbl vwCl xm_TX xm_P mm_X4_pairOf = true := by decide +kernel
set_option maxRecDepth 100000 in
theorem oc_X4_pairOf : Cond.code yX4_pairOf cX4_pairOf 2 (some .int) ∈ lw_tbl := List.mem_of_getElem? (i := 1264) rfl
set_option maxRecDepth 100000 in
theorem ok_X10_helps : xm_okM lw_tbl vwCl xm_TX xm_P mm_X10_helps = true := by decide +kernel
set_option maxRecDepth 100000 in
theorem oc_X10_helps : Cond.code yX10_helps cX10_helps 2 (some .int) ∈ lw_tbl := List.mem_of_getElem? (i := 1268) rfl
set_option maxRecDepth 100000 in
theorem ok_X10_drawn : xm_okM lw_tbl vwCl xm_TX xm_P mm_X10_drawn = true := by decide +kernel
set_option maxRecDepth 100000 in
theorem oc_X10_drawn : Cond.code yX10_drawn cX10_drawn 5 (some .int) ∈ lw_tbl := List.mem_of_getElem? (i := 1272) rfl
