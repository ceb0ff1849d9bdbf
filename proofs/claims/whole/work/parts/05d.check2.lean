set_option maxRecDepth 100000 in
theorem ok_X10_isCall : xm_okM lw_tbl vwCl xm_TX xm_P mm_X10_isCall = true := by decide +kernel
set_option maxRecDepth 100000 in
theorem oc_X10_isCall : Cond.code yX10_isCall cX10_isCall 2 (some .boolean) ∈ lw_tbl := List.mem_of_getElem? (i := 784) rfl
set_option maxRecDepth 100000 in
theorem ok_X0_actOf : xm_okM lw_tbl vwCl xm_TX xm_P mm_X0_actOf = true := by decide +kernel
set_option maxRecDepth 100000 in
theorem oc_X0_actOf : Cond.code yX0_actOf cX0_actOf 2 (some .int) ∈ lw_tbl := List.mem_of_getElem? (i := 788) rfl
set_option maxRecDepth 100000 in
theorem ok_X0_herAct : xm_okM lw_tbl vwCl xm_TX xm_P mm_X0_herAct = true := by decide +kernel
set_option maxRecDepth 100000 in
theorem oc_X0_herAct : Cond.code yX0_herAct cX0_herAct 2 (some .int) ∈ lw_tbl := List.mem_of_getElem? (i := 792) rfl
set_option maxRecDepth 100000 in
theorem ok_X0_hisAct : xm_okM lw_tbl vwCl xm_TX xm_P mm_X0_hisAct = true := by decide +kernel
set_option maxRecDepth 100000 in
theorem oc_X0_hisAct : Cond.code yX0_hisAct cX0_hisAct 2 (some .int) ∈ lw_tbl := List.mem_of_getElem? (i := 796) rfl
set_option maxRecDepth 100000 in
theorem ok_X0_actOfBoth : xm_okM lw_tbl vwCl xm_TX xm_P mm_X0_actOfBoth = true := by decide +kernel
set_option maxRecDepth 100000 in
theorem oc_X0_actOfBoth : Cond.code yX0_actOfBoth cX0_actOfBoth 2 (some .int) ∈ lw_tbl := List.mem_of_getElem? (i := 799) rfl
set_option maxRecDepth 100000 in
theorem ok_X10_undo : xm_okM lw_tbl vwCl xm_TX xm_P mm_X10_undo = true := by decide +kernel
set_option maxRecDepth 100000 in
theorem oc_X10_undo : Cond.code yX10_undo cX10_undo 1 (some .int) ∈ lw_tbl := List.mem_of_getElem? (i := 805) rfl
set_option maxRecDepth 100000 in
theorem ok_X9_takeBackTo : xm_okM lw_tbl vwCl xm_TX xm_P mm_X9_takeBackTo = true := by decide +kernel
set_option maxRecDepth 100000 in
theorem oc_X9_takeBackTo : Cond.code yX9_takeBackTo cX9_takeBackTo 3 none ∈ lw_tbl := List.mem_of_getElem? (i := 809) rfl
set_option maxRecDepth 100000 in
theorem ok_X10_led : xm_okM lw_tbl vwCl xm_TX xm_P mm_X10_led = true := by decide +kernel
set_option maxRecDepth 100000 in
theorem oc_X10_led : Cond.code yX10_led cX10_led 2 (some .int) ∈ lw_tbl := List.mem_of_getElem? (i := 815) rfl
set_option maxRecDepth 100000 in
theorem ok_X9_doneAt : xm_okM lw_tbl vwCl xm_TX xm_P mm_X9_doneAt = true := by decide +kernel
set_option maxRecDepth 100000 in
theorem oc_X9_doneAt : Cond.code yX9_doneAt cX9_doneAt 2 (some .int) ∈ lw_tbl := List.mem_of_getElem? (i := 819) rfl
set_option maxRecDepth 100000 in
theorem ok_X10_anew : xm_okM lw_tbl vwCl xm_TX xm_P mm_X10_anew = true := by decide +kernel
set_option maxRecDepth 100000 in
theorem oc_X10_anew : Cond.code yX10_anew cX10_anew 2 (some .int) ∈ lw_tbl := List.mem_of_getElem? (i := 823) rfl
set_option maxRecDepth 100000 in
theorem ok_X10_plan : xm_okM lw_tbl vwCl xm_TX xm_P mm_X10_plan = true := by decide +kernel
set_option maxRecDepth 100000 in
theorem oc_X10_plan : Cond.code yX10_plan cX10_plan 3 (some .int) ∈ lw_tbl := List.mem_of_getElem? (i := 827) rfl
set_option maxRecDepth 100000 in
theorem ok_X10_wrongRow : xm_okM lw_tbl vwCl xm_TX xm_P mm_X10_wrongRow = true := by decide +kernel
set_option maxRecDepth 100000 in
theorem oc_X10_wrongRow : Cond.code yX10_wrongRow cX10_wrongRow 3 (some .int) ∈ lw_tbl := List.mem_of_getElem? (i := 831) rfl
set_option maxRecDepth 100000 in
theorem ok_X10_isSlot : xm_okM lw_tbl vwCl xm_TX xm_P mm_X10_isSlot = true := by decide +kernel
set_option maxRecDepth 100000 in
theorem oc_X10_isSlot : Cond.code yX10_isSlot cX10_isSlot 1 (some .boolean) ∈ lw_tbl := List.mem_of_getElem? (i := 834) rfl
set_option maxRecDepth 100000 in
theorem ok_X2_isBelow : xm_okM lw_tbl vwCl xm_TX xm_P mm_X2_isBelow = true := by decide +kernel
set_option maxRecDepth 100000 in
theorem oc_X2_isBelow : Cond.code yX2_isBelow cX2_isBelow 3 (some .boolean) ∈ lw_tbl := List.mem_of_getElem? (i := 838) rfl
set_option maxRecDepth 100000 in
theorem ok_X2_at : xm_okM lw_tbl vwCl xm_TX xm_P mm_X2_at = true := by decide +kernel
set_option maxRecDepth 100000 in
theorem oc_X2_at : Cond.code yX2_at cX2_at 2 (some .long) ∈ lw_tbl := List.mem_of_getElem? (i := 842) rfl
set_option maxRecDepth 100000 in
theorem ok_X7_follow : xm_okM lw_tbl vwCl xm_TX xm_P mm_X7_follow = true := by decide +kernel
set_option maxRecDepth 100000 in
theorem oc_X7_follow : Cond.code yX7_follow cX7_follow 4 none ∈ lw_tbl := List.mem_of_getElem? (i := 846) rfl
set_option maxRecDepth 100000 in
theorem ok_X7_begin : xm_okM lw_tbl vwCl xm_TX xm_P mm_X7_begin = true := by decide +kernel
set_option maxRecDepth 100000 in
theorem oc_X7_begin : Cond.code yX7_begin cX7_begin 2 none ∈ lw_tbl := List.mem_of_getElem? (i := 850) rfl
set_option maxRecDepth 100000 in
theorem ok_X7_tryAct : xm_okM lw_tbl vwCl xm_TX xm_P mm_X7_tryAct = true := by decide +kernel
set_option maxRecDepth 100000 in
theorem oc_X7_tryAct : Cond.code yX7_tryAct cX7_tryAct 3 (some .boolean) ∈ lw_tbl := List.mem_of_getElem? (i := 855) rfl
set_option maxRecDepth 100000 in
theorem ok_X10_after : xm_okM lw_tbl vwCl xm_TX xm_P mm_X10_after = true := by decide +kernel
set_option maxRecDepth 100000 in
theorem oc_X10_after : Cond.code yX10_after cX10_after 4 (some .int) ∈ lw_tbl := List.mem_of_getElem? (i := 862) rfl
set_option maxRecDepth 100000 in
theorem ok_X10_isView : xm_okM lw_tbl vwCl xm_TX xm_P mm_X10_isView = true := by decide +kernel
set_option maxRecDepth 100000 in
theorem oc_X10_isView : Cond.code yX10_isView cX10_isView 1 (some .boolean) ∈ lw_tbl := List.mem_of_getElem? (i := 865) rfl
set_option maxRecDepth 100000 in
theorem ok_X10_noStateFor : xm_okM lw_tbl vwCl xm_TX xm_P mm_X10_noStateFor = true := by decide +kernel
set_option maxRecDepth 100000 in
theorem oc_X10_noStateFor : Cond.code yX10_noStateFor cX10_noStateFor 1 (some .int) ∈ lw_tbl := List.mem_of_getElem? (i := 868) rfl
set_option maxRecDepth 100000 in
theorem ok_X10_fewest : xm_okM lw_tbl vwCl xm_TX xm_P mm_X10_fewest = true := by decide +kernel
set_option maxRecDepth 100000 in
theorem oc_X10_fewest : Cond.code yX10_fewest cX10_fewest 1 (some .int) ∈ lw_tbl := List.mem_of_getElem? (i := 872) rfl
set_option maxRecDepth 100000 in
theorem ok_X10_hasWish : xm_okM lw_tbl vwCl xm_TX xm_P mm_X10_hasWish = true := by decide +kernel
set_option maxRecDepth 100000 in
theorem oc_X10_hasWish : Cond.code yX10_hasWish cX10_hasWish 1 (some .boolean) ∈ lw_tbl := List.mem_of_getElem? (i := 876) rfl
set_option maxRecDepth 100000 in
theorem ok_X8_isMade : xm_okM lw_tbl vwCl xm_TX xm_P mm_X8_isMade = true := by decide +kernel
set_option maxRecDepth 100000 in
theorem oc_X8_isMade : Cond.code yX8_isMade cX8_isMade 1 (some .boolean) ∈ lw_tbl := List.mem_of_getElem? (i := 880) rfl
set_option maxRecDepth 100000 in
theorem ok_X10_fewestIn : xm_okM lw_tbl vwCl xm_TX xm_P mm_X10_fewestIn = true := by decide +kernel
set_option maxRecDepth 100000 in
theorem oc_X10_fewestIn : Cond.code yX10_fewestIn cX10_fewestIn 2 (some .int) ∈ lw_tbl := List.mem_of_getElem? (i := 884) rfl
set_option maxRecDepth 100000 in
theorem ok_X3_explore : xm_okM lw_tbl vwCl xm_TX xm_P mm_X3_explore = true := by decide +kernel
set_option maxRecDepth 100000 in
theorem oc_X3_explore : Cond.code yX3_explore cX3_explore 6 none ∈ lw_tbl := List.mem_of_getElem? (i := 888) rfl
set_option maxRecDepth 100000 in
theorem ok_X3_forget : xm_okM lw_tbl vwCl xm_TX xm_P mm_X3_forget = true := by decide +kernel
set_option maxRecDepth 100000 in
theorem oc_X3_forget : Cond.code yX3_forget cX3_forget 3 none ∈ lw_tbl := List.mem_of_getElem? (i := 892) rfl
set_option maxRecDepth 100000 in
theorem ok_X3_cellOf : xm_okM lw_tbl vwCl xm_TX xm_P mm_X3_cellOf = true := by decide +kernel
set_option maxRecDepth 100000 in
theorem oc_X3_cellOf : Cond.code yX3_cellOf cX3_cellOf 3 (some .int) ∈ lw_tbl := List.mem_of_getElem? (i := 895) rfl
set_option maxRecDepth 100000 in
theorem ok_X3_placeOf : xm_okM lw_tbl vwCl xm_TX xm_P mm_X3_placeOf = true := by decide +kernel
set_option maxRecDepth 100000 in
theorem oc_X3_placeOf : Cond.code yX3_placeOf cX3_placeOf 6 (some .int) ∈ lw_tbl := List.mem_of_getElem? (i := 902) rfl
set_option maxRecDepth 100000 in
theorem ok_X3_spotOf : xm_okM lw_tbl vwCl xm_TX xm_P mm_X3_spotOf = true := by decide +kernel
set_option maxRecDepth 100000 in
theorem oc_X3_spotOf : Cond.code yX3_spotOf cX3_spotOf 5 (some .int) ∈ lw_tbl := List.mem_of_getElem? (i := 906) rfl
set_option maxRecDepth 100000 in
theorem ok_X3_expand : xm_okM lw_tbl vwCl xm_TX xm_P mm_X3_expand = true := by decide +kernel
set_option maxRecDepth 100000 in
theorem oc_X3_expand : Cond.code yX3_expand cX3_expand 6 none ∈ lw_tbl := List.mem_of_getElem? (i := 913) rfl
set_option maxRecDepth 100000 in
theorem ok_X3_firstWished : xm_okM lw_tbl vwCl xm_TX xm_P mm_X3_firstWished = true := by decide +kernel
set_option maxRecDepth 100000 in
theorem oc_X3_firstWished : Cond.code yX3_firstWished cX3_firstWished 3 (some .int) ∈ lw_tbl := List.mem_of_getElem? (i := 919) rfl
set_option maxRecDepth 100000 in
theorem ok_X8_isMetBy : xm_okM lw_tbl vwCl xm_TX xm_P mm_X8_isMetBy = true := by decide +kernel
set_option maxRecDepth 100000 in
theorem oc_X8_isMetBy : Cond.code yX8_isMetBy cX8_isMetBy 2 (some .boolean) ∈ lw_tbl := List.mem_of_getElem? (i := 923) rfl
set_option maxRecDepth 100000 in
theorem ok_X3_depthOf : xm_okM lw_tbl vwCl xm_TX xm_P mm_X3_depthOf = true := by decide +kernel
set_option maxRecDepth 100000 in
theorem oc_X3_depthOf : Cond.code yX3_depthOf cX3_depthOf 2 (some .int) ∈ lw_tbl := List.mem_of_getElem? (i := 932) rfl
set_option maxRecDepth 100000 in
theorem ok_X10_step : xm_okM lw_tbl vwCl xm_TX xm_P mm_X10_step = true := by decide +kernel
set_option maxRecDepth 100000 in
theorem oc_X10_step : Cond.code yX10_step cX10_step 2 (some .int) ∈ lw_tbl := List.mem_of_getElem? (i := 936) rfl
set_option maxRecDepth 100000 in
theorem ok_X10_exploreAhead : xm_okM lw_tbl vwCl xm_TX xm_P mm_X10_exploreAhead = true := by decide +kernel
set_option maxRecDepth 100000 in
theorem oc_X10_exploreAhead : Cond.code yX10_exploreAhead cX10_exploreAhead 1 none ∈ lw_tbl := List.mem_of_getElem? (i := 940) rfl
set_option maxRecDepth 100000 in
theorem ok_X3_moveTowards : xm_okM lw_tbl vwCl xm_TX xm_P mm_X3_moveTowards = true := by decide +kernel
set_option maxRecDepth 100000 in
theorem oc_X3_moveTowards : Cond.code yX3_moveTowards cX3_moveTowards 6 (some .int) ∈ lw_tbl := List.mem_of_getElem? (i := 944) rfl
set_option maxRecDepth 100000 in
theorem ok_X10_quickest : xm_okM lw_tbl vwCl xm_TX xm_P mm_X10_quickest = true := by decide +kernel
set_option maxRecDepth 100000 in
theorem oc_X10_quickest : Cond.code yX10_quickest cX10_quickest 1 (some .int) ∈ lw_tbl := List.mem_of_getElem? (i := 949) rfl
set_option maxRecDepth 100000 in
theorem ok_X3_leastSeconds : xm_okM lw_tbl vwCl xm_TX xm_P mm_X3_leastSeconds = true := by decide +kernel
set_option maxRecDepth 100000 in
theorem oc_X3_leastSeconds : Cond.code yX3_leastSeconds cX3_leastSeconds 6 (some .int) ∈ lw_tbl := List.mem_of_getElem? (i := 953) rfl
set_option maxRecDepth 100000 in
theorem ok_X3_cheapest : xm_okM lw_tbl vwCl xm_TX xm_P mm_X3_cheapest = true := by decide +kernel
set_option maxRecDepth 100000 in
theorem oc_X3_cheapest : Cond.code yX3_cheapest cX3_cheapest 6 (some .int) ∈ lw_tbl := List.mem_of_getElem? (i := 959) rfl
set_option maxRecDepth 100000 in
theorem ok_X3_nextOf : xm_okM lw_tbl vwCl xm_TX xm_P mm_X3_nextOf = true := by decide +kernel
set_option maxRecDepth 100000 in
theorem oc_X3_nextOf : Cond.code yX3_nextOf cX3_nextOf 4 (some .int) ∈ lw_tbl := List.mem_of_getElem? (i := 963) rfl
set_option maxRecDepth 100000 in
theorem ok_X10_quick : xm_okM lw_tbl vwCl xm_TX xm_P mm_X10_quick = true := by decide +kernel
set_option maxRecDepth 100000 in
theorem oc_X10_quick : Cond.code yX10_quick cX10_quick 2 (some .int) ∈ lw_tbl := List.mem_of_getElem? (i := 968) rfl
set_option maxRecDepth 100000 in
theorem ok_X3_quickMove : xm_okM lw_tbl vwCl xm_TX xm_P mm_X3_quickMove = true := by decide +kernel
set_option maxRecDepth 100000 in
theorem oc_X3_quickMove : Cond.code yX3_quickMove cX3_quickMove 6 (some .int) ∈ lw_tbl := List.mem_of_getElem? (i := 972) rfl
set_option maxRecDepth 100000 in
theorem ok_X3_firstCheapMove : xm_okM lw_tbl vwCl xm_TX xm_P mm_X3_firstCheapMove = true := by decide +kernel
set_option maxRecDepth 100000 in
theorem oc_X3_firstCheapMove : Cond.code yX3_firstCheapMove cX3_firstCheapMove 5 (some .int) ∈ lw_tbl := List.mem_of_getElem? (i := 977) rfl
set_option maxRecDepth 100000 in
theorem ok_X10_alone : xm_okM lw_tbl vwCl xm_TX xm_P mm_X10_alone = true := by decide +kernel
set_option maxRecDepth 100000 in
theorem oc_X10_alone : Cond.code yX10_alone cX10_alone 1 (some .int) ∈ lw_tbl := List.mem_of_getElem? (i := 981) rfl
set_option maxRecDepth 100000 in
theorem ok_X10_exploreAlone : xm_okM lw_tbl vwCl xm_TX xm_P mm_X10_exploreAlone = true := by decide +kernel
set_option maxRecDepth 100000 in
theorem oc_X10_exploreAlone : Cond.code yX10_exploreAlone cX10_exploreAlone 1 none ∈ lw_tbl := List.mem_of_getElem? (i := 985) rfl
set_option maxRecDepth 100000 in
theorem ok_X10_rail : xm_okM lw_tbl vwCl xm_TX xm_P mm_X10_rail = true := by decide +kernel
set_option maxRecDepth 100000 in
theorem oc_X10_rail : Cond.code yX10_rail cX10_rail 2 (some .int) ∈ lw_tbl := List.mem_of_getElem? (i := 989) rfl
set_option maxRecDepth 100000 in
theorem ok_X10_brief : xm_okM lw_tbl vwCl xm_TX xm_P mm_X10_brief = true := by decide +kernel
set_option maxRecDepth 100000 in
theorem oc_X10_brief : Cond.code yX10_brief cX10_brief 2 (some .int) ∈ lw_tbl := List.mem_of_getElem? (i := 993) rfl
set_option maxRecDepth 100000 in
theorem ok_X10_room : xm_okM lw_tbl vwCl xm_TX xm_P mm_X10_room = true := by decide +kernel
set_option maxRecDepth 100000 in
theorem oc_X10_room : Cond.code yX10_room cX10_room 1 (some .int) ∈ lw_tbl := List.mem_of_getElem? (i := 997) rfl
set_option maxRecDepth 100000 in
theorem ok_X10_leastRoomFor : xm_okM lw_tbl vwCl xm_TX xm_P mm_X10_leastRoomFor = true := by decide +kernel
set_option maxRecDepth 100000 in
theorem oc_X10_leastRoomFor : Cond.code yX10_leastRoomFor cX10_leastRoomFor 6 (some .int) ∈ lw_tbl := List.mem_of_getElem? (i := 1002) rfl
set_option maxRecDepth 100000 in
theorem ok_X10_best : xm_okM lw_tbl vwCl xm_TX xm_P mm_X10_best = true := by decide +kernel
set_option maxRecDepth 100000 in
theorem oc_X10_best : Cond.code yX10_best cX10_best 2 (some .int) ∈ lw_tbl := List.mem_of_getElem? (i := 1006) rfl
set_option maxRecDepth 100000 in
theorem ok_X10_parcel : xm_okM lw_tbl vwCl xm_TX xm_P mm_X10_parcel = true := by decide +kernel
set_option maxRecDepth 100000 in
theorem oc_X10_parcel : Cond.code yX10_parcel cX10_parcel 3 (some .int) ∈ lw_tbl := List.mem_of_getElem? (i := 1010) rfl
set_option maxRecDepth 100000 in
theorem ok_X10_isSize : xm_okM lw_tbl vwCl xm_TX xm_P mm_X10_isSize = true := by decide +kernel
set_option maxRecDepth 100000 in
theorem oc_X10_isSize : Cond.code yX10_isSize cX10_isSize 1 (some .boolean) ∈ lw_tbl := List.mem_of_getElem? (i := 1013) rfl
set_option maxRecDepth 100000 in
theorem ok_X3_firstSized : xm_okM lw_tbl vwCl xm_TX xm_P mm_X3_firstSized = true := by decide +kernel
set_option maxRecDepth 100000 in
theorem oc_X3_firstSized : Cond.code yX3_firstSized cX3_firstSized 5 (some .int) ∈ lw_tbl := List.mem_of_getElem? (i := 1017) rfl
set_option maxRecDepth 100000 in
theorem ok_X10_parcels : xm_okM lw_tbl vwCl xm_TX xm_P mm_X10_parcels = true := by decide +kernel
set_option maxRecDepth 100000 in
theorem oc_X10_parcels : Cond.code yX10_parcels cX10_parcels 1 (some .int) ∈ lw_tbl := List.mem_of_getElem? (i := 1021) rfl
set_option maxRecDepth 100000 in
theorem ok_X10_reach : xm_okM lw_tbl vwCl xm_TX xm_P mm_X10_reach = true := by decide +kernel
set_option maxRecDepth 100000 in
theorem oc_X10_reach : Cond.code yX10_reach cX10_reach 2 (some .int) ∈ lw_tbl := List.mem_of_getElem? (i := 1025) rfl
