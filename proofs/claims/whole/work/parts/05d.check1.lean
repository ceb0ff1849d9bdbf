set_option maxRecDepth 100000 in
theorem ok_X10_feed : xm_okM lw_tbl vwCl xm_TX xm_P mm_X10_feed = true := by decide +kernel
set_option maxRecDepth 100000 in
theorem oc_X10_feed : Cond.code yX10_feed cX10_feed 6 (some .int) ∈ lw_tbl := List.mem_of_getElem? (i := 512) rfl
set_option maxRecDepth 100000 in
theorem ok_X6_hasSpace : xm_okM lw_tbl vwCl xm_TX xm_P mm_X6_hasSpace = true := by decide +kernel
set_option maxRecDepth 100000 in
theorem oc_X6_hasSpace : Cond.code yX6_hasSpace cX6_hasSpace 1 (some .boolean) ∈ lw_tbl := List.mem_of_getElem? (i := 516) rfl
set_option maxRecDepth 100000 in
theorem ok_X6_add : xm_okM lw_tbl vwCl xm_TX xm_P mm_X6_add = true := by decide +kernel
set_option maxRecDepth 100000 in
theorem oc_X6_add : Cond.code yX6_add cX6_add 3 none ∈ lw_tbl := List.mem_of_getElem? (i := 520) rfl
set_option maxRecDepth 100000 in
theorem ok_X10_end : xm_okM lw_tbl vwCl xm_TX xm_P mm_X10_end = true := by decide +kernel
set_option maxRecDepth 100000 in
theorem oc_X10_end : Cond.code yX10_end cX10_end 2 (some .int) ∈ lw_tbl := List.mem_of_getElem? (i := 524) rfl
set_option maxRecDepth 100000 in
theorem ok_X10_linen : xm_okM lw_tbl vwCl xm_TX xm_P mm_X10_linen = true := by decide +kernel
set_option maxRecDepth 100000 in
theorem oc_X10_linen : Cond.code yX10_linen cX10_linen 2 (some .int) ∈ lw_tbl := List.mem_of_getElem? (i := 528) rfl
set_option maxRecDepth 100000 in
theorem ok_X0_clear : xm_okM lw_tbl vwCl xm_TX xm_P mm_X0_clear = true := by decide +kernel
set_option maxRecDepth 100000 in
theorem oc_X0_clear : Cond.code yX0_clear cX0_clear 1 none ∈ lw_tbl := List.mem_of_getElem? (i := 532) rfl
set_option maxRecDepth 100000 in
theorem ok_J7_fill_53178 : xm_okM lw_tbl vwCl xm_TX xm_P mm_J7_fill_53178 = true := by decide +kernel
set_option maxRecDepth 100000 in
theorem oc_J7_fill_53178 : Cond.code yJ7_fill_53178 cJ7_fill_53178 4 none ∈ lw_tbl := List.mem_of_getElem? (i := 535) rfl
set_option maxRecDepth 100000 in
theorem ok_X6_begin : xm_okM lw_tbl vwCl xm_TX xm_P mm_X6_begin = true := by decide +kernel
set_option maxRecDepth 100000 in
theorem oc_X6_begin : Cond.code yX6_begin cX6_begin 1 none ∈ lw_tbl := List.mem_of_getElem? (i := 539) rfl
set_option maxRecDepth 100000 in
theorem ok_X6_advance : xm_okM lw_tbl vwCl xm_TX xm_P mm_X6_advance = true := by decide +kernel
set_option maxRecDepth 100000 in
theorem oc_X6_advance : Cond.code yX6_advance cX6_advance 1 none ∈ lw_tbl := List.mem_of_getElem? (i := 543) rfl
set_option maxRecDepth 100000 in
theorem ok_X6_isBlank : xm_okM lw_tbl vwCl xm_TX xm_P mm_X6_isBlank = true := by decide +kernel
set_option maxRecDepth 100000 in
theorem oc_X6_isBlank : Cond.code yX6_isBlank cX6_isBlank 1 (some .boolean) ∈ lw_tbl := List.mem_of_getElem? (i := 546) rfl
set_option maxRecDepth 100000 in
theorem ok_X6_kindOf : xm_okM lw_tbl vwCl xm_TX xm_P mm_X6_kindOf = true := by decide +kernel
set_option maxRecDepth 100000 in
theorem oc_X6_kindOf : Cond.code yX6_kindOf cX6_kindOf 1 (some .int) ∈ lw_tbl := List.mem_of_getElem? (i := 549) rfl
set_option maxRecDepth 100000 in
theorem ok_X6_goesOn : xm_okM lw_tbl vwCl xm_TX xm_P mm_X6_goesOn = true := by decide +kernel
set_option maxRecDepth 100000 in
theorem oc_X6_goesOn : Cond.code yX6_goesOn cX6_goesOn 1 (some .boolean) ∈ lw_tbl := List.mem_of_getElem? (i := 553) rfl
set_option maxRecDepth 100000 in
theorem ok_X6_readSheet : xm_okM lw_tbl vwCl xm_TX xm_P mm_X6_readSheet = true := by decide +kernel
set_option maxRecDepth 100000 in
theorem oc_X6_readSheet : Cond.code yX6_readSheet cX6_readSheet 2 none ∈ lw_tbl := List.mem_of_getElem? (i := 557) rfl
set_option maxRecDepth 100000 in
theorem ok_X6_expect : xm_okM lw_tbl vwCl xm_TX xm_P mm_X6_expect = true := by decide +kernel
set_option maxRecDepth 100000 in
theorem oc_X6_expect : Cond.code yX6_expect cX6_expect 2 none ∈ lw_tbl := List.mem_of_getElem? (i := 562) rfl
set_option maxRecDepth 100000 in
theorem ok_X6_take : xm_okM lw_tbl vwCl xm_TX xm_P mm_X6_take = true := by decide +kernel
set_option maxRecDepth 100000 in
theorem oc_X6_take : Cond.code yX6_take cX6_take 5 (some .int) ∈ lw_tbl := List.mem_of_getElem? (i := 566) rfl
set_option maxRecDepth 100000 in
theorem ok_J0_length_8abf5 : xm_okM lw_tbl vwCl xm_TX xm_P mm_J0_length_8abf5 = true := by decide +kernel
set_option maxRecDepth 100000 in
theorem oc_J0_length_8abf5 : Cond.code yJ0_length_8abf5 cJ0_length_8abf5 1 (some .int) ∈ lw_tbl := List.mem_of_getElem? (i := 570) rfl
set_option maxRecDepth 100000 in
theorem ok_J0_coder_7d493 : xm_okM lw_tbl vwCl xm_TX xm_P mm_J0_coder_7d493 = true := by decide +kernel
set_option maxRecDepth 100000 in
theorem oc_J0_coder_7d493 : Cond.code yJ0_coder_7d493 cJ0_coder_7d493 1 (some .byte) ∈ lw_tbl := List.mem_of_getElem? (i := 574) rfl
set_option maxRecDepth 100000 in
theorem ok_J0_charAt_5068e : xm_okM lw_tbl vwCl xm_TX xm_P mm_J0_charAt_5068e = true := by decide +kernel
set_option maxRecDepth 100000 in
theorem oc_J0_charAt_5068e : Cond.code yJ0_charAt_5068e cJ0_charAt_5068e 2 (some .char) ∈ lw_tbl := List.mem_of_getElem? (i := 580) rfl
set_option maxRecDepth 100000 in
theorem ok_J0_isLatin1_aae02 : xm_okM lw_tbl vwCl xm_TX xm_P mm_J0_isLatin1_aae02 = true := by decide +kernel
set_option maxRecDepth 100000 in
theorem oc_J0_isLatin1_aae02 : Cond.code yJ0_isLatin1_aae02 cJ0_isLatin1_aae02 1 (some .boolean) ∈ lw_tbl := List.mem_of_getElem? (i := 584) rfl
set_option maxRecDepth 100000 in
theorem ok_J1_charAt_3b067 : xm_okM lw_tbl vwCl xm_TX xm_P mm_J1_charAt_3b067 = true := by decide +kernel
set_option maxRecDepth 100000 in
theorem oc_J1_charAt_3b067 : Cond.code yJ1_charAt_3b067 cJ1_charAt_3b067 2 (some .char) ∈ lw_tbl := List.mem_of_getElem? (i := 587) rfl
set_option maxRecDepth 100000 in
theorem ok_X6_stands : xm_okM lw_tbl vwCl xm_TX xm_P mm_X6_stands = true := by decide +kernel
set_option maxRecDepth 100000 in
theorem oc_X6_stands : Cond.code yX6_stands cX6_stands 5 (some .boolean) ∈ lw_tbl := List.mem_of_getElem? (i := 618) rfl
set_option maxRecDepth 100000 in
theorem ok_X6_fail : xm_okM lw_tbl vwCl xm_TX xm_P mm_X6_fail = true := by decide +kernel
set_option maxRecDepth 100000 in
theorem oc_X6_fail : Cond.code yX6_fail cX6_fail 3 none ∈ lw_tbl := List.mem_of_getElem? (i := 622) rfl
set_option maxRecDepth 100000 in
theorem ok_X6_number : xm_okM lw_tbl vwCl xm_TX xm_P mm_X6_number = true := by decide +kernel
set_option maxRecDepth 100000 in
theorem oc_X6_number : Cond.code yX6_number cX6_number 5 (some .int) ∈ lw_tbl := List.mem_of_getElem? (i := 627) rfl
set_option maxRecDepth 100000 in
theorem ok_X6_readLine : xm_okM lw_tbl vwCl xm_TX xm_P mm_X6_readLine = true := by decide +kernel
set_option maxRecDepth 100000 in
theorem oc_X6_readLine : Cond.code yX6_readLine cX6_readLine 4 none ∈ lw_tbl := List.mem_of_getElem? (i := 639) rfl
set_option maxRecDepth 100000 in
theorem ok_X6_readCall : xm_okM lw_tbl vwCl xm_TX xm_P mm_X6_readCall = true := by decide +kernel
set_option maxRecDepth 100000 in
theorem oc_X6_readCall : Cond.code yX6_readCall cX6_readCall 3 none ∈ lw_tbl := List.mem_of_getElem? (i := 646) rfl
set_option maxRecDepth 100000 in
theorem ok_X6_choose : xm_okM lw_tbl vwCl xm_TX xm_P mm_X6_choose = true := by decide +kernel
set_option maxRecDepth 100000 in
theorem oc_X6_choose : Cond.code yX6_choose cX6_choose 3 (some .int) ∈ lw_tbl := List.mem_of_getElem? (i := 652) rfl
set_option maxRecDepth 100000 in
theorem ok_X6_readSlips : xm_okM lw_tbl vwCl xm_TX xm_P mm_X6_readSlips = true := by decide +kernel
set_option maxRecDepth 100000 in
theorem oc_X6_readSlips : Cond.code yX6_readSlips cX6_readSlips 2 none ∈ lw_tbl := List.mem_of_getElem? (i := 657) rfl
set_option maxRecDepth 100000 in
theorem ok_X6_readWish : xm_okM lw_tbl vwCl xm_TX xm_P mm_X6_readWish = true := by decide +kernel
set_option maxRecDepth 100000 in
theorem oc_X6_readWish : Cond.code yX6_readWish cX6_readWish 2 none ∈ lw_tbl := List.mem_of_getElem? (i := 661) rfl
set_option maxRecDepth 100000 in
theorem ok_X6_readPair : xm_okM lw_tbl vwCl xm_TX xm_P mm_X6_readPair = true := by decide +kernel
set_option maxRecDepth 100000 in
theorem oc_X6_readPair : Cond.code yX6_readPair cX6_readPair 3 none ∈ lw_tbl := List.mem_of_getElem? (i := 667) rfl
set_option maxRecDepth 100000 in
theorem ok_X6_readPile : xm_okM lw_tbl vwCl xm_TX xm_P mm_X6_readPile = true := by decide +kernel
set_option maxRecDepth 100000 in
theorem oc_X6_readPile : Cond.code yX6_readPile cX6_readPile 3 none ∈ lw_tbl := List.mem_of_getElem? (i := 672) rfl
set_option maxRecDepth 100000 in
theorem ok_X6_endLine : xm_okM lw_tbl vwCl xm_TX xm_P mm_X6_endLine = true := by decide +kernel
set_option maxRecDepth 100000 in
theorem oc_X6_endLine : Cond.code yX6_endLine cX6_endLine 2 none ∈ lw_tbl := List.mem_of_getElem? (i := 676) rfl
set_option maxRecDepth 100000 in
theorem ok_X9_begin : xm_okM lw_tbl vwCl xm_TX xm_P mm_X9_begin = true := by decide +kernel
set_option maxRecDepth 100000 in
theorem oc_X9_begin : Cond.code yX9_begin cX9_begin 1 none ∈ lw_tbl := List.mem_of_getElem? (i := 680) rfl
set_option maxRecDepth 100000 in
theorem ok_X0_firstState : xm_okM lw_tbl vwCl xm_TX xm_P mm_X0_firstState = true := by decide +kernel
set_option maxRecDepth 100000 in
theorem oc_X0_firstState : Cond.code yX0_firstState cX0_firstState 1 (some .int) ∈ lw_tbl := List.mem_of_getElem? (i := 684) rfl
set_option maxRecDepth 100000 in
theorem ok_X5_pack : xm_okM lw_tbl vwCl xm_TX xm_P mm_X5_pack = true := by decide +kernel
set_option maxRecDepth 100000 in
theorem oc_X5_pack : Cond.code yX5_pack cX5_pack 5 (some .int) ∈ lw_tbl := List.mem_of_getElem? (i := 687) rfl
set_option maxRecDepth 100000 in
theorem ok_X10_fault : xm_okM lw_tbl vwCl xm_TX xm_P mm_X10_fault = true := by decide +kernel
set_option maxRecDepth 100000 in
theorem oc_X10_fault : Cond.code yX10_fault cX10_fault 2 (some .int) ∈ lw_tbl := List.mem_of_getElem? (i := 691) rfl
set_option maxRecDepth 100000 in
theorem ok_X10_state : xm_okM lw_tbl vwCl xm_TX xm_P mm_X10_state = true := by decide +kernel
set_option maxRecDepth 100000 in
theorem oc_X10_state : Cond.code yX10_state cX10_state 2 (some .int) ∈ lw_tbl := List.mem_of_getElem? (i := 695) rfl
set_option maxRecDepth 100000 in
theorem ok_X9_isNone : xm_okM lw_tbl vwCl xm_TX xm_P mm_X9_isNone = true := by decide +kernel
set_option maxRecDepth 100000 in
theorem oc_X9_isNone : Cond.code yX9_isNone cX9_isNone 1 (some .boolean) ∈ lw_tbl := List.mem_of_getElem? (i := 699) rfl
set_option maxRecDepth 100000 in
theorem ok_X10_viewOf : xm_okM lw_tbl vwCl xm_TX xm_P mm_X10_viewOf = true := by decide +kernel
set_option maxRecDepth 100000 in
theorem oc_X10_viewOf : Cond.code yX10_viewOf cX10_viewOf 4 (some .int) ∈ lw_tbl := List.mem_of_getElem? (i := 703) rfl
set_option maxRecDepth 100000 in
theorem ok_X5_longOf : xm_okM lw_tbl vwCl xm_TX xm_P mm_X5_longOf = true := by decide +kernel
set_option maxRecDepth 100000 in
theorem oc_X5_longOf : Cond.code yX5_longOf cX5_longOf 1 (some .int) ∈ lw_tbl := List.mem_of_getElem? (i := 706) rfl
set_option maxRecDepth 100000 in
theorem ok_X5_wideOf : xm_okM lw_tbl vwCl xm_TX xm_P mm_X5_wideOf = true := by decide +kernel
set_option maxRecDepth 100000 in
theorem oc_X5_wideOf : Cond.code yX5_wideOf cX5_wideOf 1 (some .int) ∈ lw_tbl := List.mem_of_getElem? (i := 709) rfl
set_option maxRecDepth 100000 in
theorem ok_X5_hemOf : xm_okM lw_tbl vwCl xm_TX xm_P mm_X5_hemOf = true := by decide +kernel
set_option maxRecDepth 100000 in
theorem oc_X5_hemOf : Cond.code yX5_hemOf cX5_hemOf 1 (some .int) ∈ lw_tbl := List.mem_of_getElem? (i := 712) rfl
set_option maxRecDepth 100000 in
theorem ok_X5_faceOf : xm_okM lw_tbl vwCl xm_TX xm_P mm_X5_faceOf = true := by decide +kernel
set_option maxRecDepth 100000 in
theorem oc_X5_faceOf : Cond.code yX5_faceOf cX5_faceOf 1 (some .int) ∈ lw_tbl := List.mem_of_getElem? (i := 715) rfl
set_option maxRecDepth 100000 in
theorem ok_X5_twistOf : xm_okM lw_tbl vwCl xm_TX xm_P mm_X5_twistOf = true := by decide +kernel
set_option maxRecDepth 100000 in
theorem oc_X5_twistOf : Cond.code yX5_twistOf cX5_twistOf 1 (some .int) ∈ lw_tbl := List.mem_of_getElem? (i := 718) rfl
set_option maxRecDepth 100000 in
theorem ok_X0_layersOf : xm_okM lw_tbl vwCl xm_TX xm_P mm_X0_layersOf = true := by decide +kernel
set_option maxRecDepth 100000 in
theorem oc_X0_layersOf : Cond.code yX0_layersOf cX0_layersOf 3 (some .int) ∈ lw_tbl := List.mem_of_getElem? (i := 722) rfl
set_option maxRecDepth 100000 in
theorem ok_X0_thicknessOf : xm_okM lw_tbl vwCl xm_TX xm_P mm_X0_thicknessOf = true := by decide +kernel
set_option maxRecDepth 100000 in
theorem oc_X0_thicknessOf : Cond.code yX0_thicknessOf cX0_thicknessOf 2 (some .int) ∈ lw_tbl := List.mem_of_getElem? (i := 728) rfl
set_option maxRecDepth 100000 in
theorem ok_X10_can : xm_okM lw_tbl vwCl xm_TX xm_P mm_X10_can = true := by decide +kernel
set_option maxRecDepth 100000 in
theorem oc_X10_can : Cond.code yX10_can cX10_can 2 (some .int) ∈ lw_tbl := List.mem_of_getElem? (i := 733) rfl
set_option maxRecDepth 100000 in
theorem ok_X10_isMove : xm_okM lw_tbl vwCl xm_TX xm_P mm_X10_isMove = true := by decide +kernel
set_option maxRecDepth 100000 in
theorem oc_X10_isMove : Cond.code yX10_isMove cX10_isMove 1 (some .boolean) ∈ lw_tbl := List.mem_of_getElem? (i := 736) rfl
set_option maxRecDepth 100000 in
theorem ok_X5_possible : xm_okM lw_tbl vwCl xm_TX xm_P mm_X5_possible = true := by decide +kernel
set_option maxRecDepth 100000 in
theorem oc_X5_possible : Cond.code yX5_possible cX5_possible 5 (some .boolean) ∈ lw_tbl := List.mem_of_getElem? (i := 739) rfl
set_option maxRecDepth 100000 in
theorem ok_X5_divides : xm_okM lw_tbl vwCl xm_TX xm_P mm_X5_divides = true := by decide +kernel
set_option maxRecDepth 100000 in
theorem oc_X5_divides : Cond.code yX5_divides cX5_divides 3 (some .boolean) ∈ lw_tbl := List.mem_of_getElem? (i := 745) rfl
set_option maxRecDepth 100000 in
theorem ok_X10_moves : xm_okM lw_tbl vwCl xm_TX xm_P mm_X10_moves = true := by decide +kernel
set_option maxRecDepth 100000 in
theorem oc_X10_moves : Cond.code yX10_moves cX10_moves 3 (some .int) ∈ lw_tbl := List.mem_of_getElem? (i := 749) rfl
set_option maxRecDepth 100000 in
theorem ok_X10_fold : xm_okM lw_tbl vwCl xm_TX xm_P mm_X10_fold = true := by decide +kernel
set_option maxRecDepth 100000 in
theorem oc_X10_fold : Cond.code yX10_fold cX10_fold 2 (some .int) ∈ lw_tbl := List.mem_of_getElem? (i := 753) rfl
set_option maxRecDepth 100000 in
theorem ok_X9_doAct : xm_okM lw_tbl vwCl xm_TX xm_P mm_X9_doAct = true := by decide +kernel
set_option maxRecDepth 100000 in
theorem oc_X9_doAct : Cond.code yX9_doAct cX9_doAct 2 (some .boolean) ∈ lw_tbl := List.mem_of_getElem? (i := 757) rfl
set_option maxRecDepth 100000 in
theorem ok_X5_folded : xm_okM lw_tbl vwCl xm_TX xm_P mm_X5_folded = true := by decide +kernel
set_option maxRecDepth 100000 in
theorem oc_X5_folded : Cond.code yX5_folded cX5_folded 6 (some .int) ∈ lw_tbl := List.mem_of_getElem? (i := 761) rfl
set_option maxRecDepth 100000 in
theorem ok_X5_hemBehind : xm_okM lw_tbl vwCl xm_TX xm_P mm_X5_hemBehind = true := by decide +kernel
set_option maxRecDepth 100000 in
theorem oc_X5_hemBehind : Cond.code yX5_hemBehind cX5_hemBehind 2 (some .int) ∈ lw_tbl := List.mem_of_getElem? (i := 766) rfl
set_option maxRecDepth 100000 in
theorem ok_X0_secondsOf : xm_okM lw_tbl vwCl xm_TX xm_P mm_X0_secondsOf = true := by decide +kernel
set_option maxRecDepth 100000 in
theorem oc_X0_secondsOf : Cond.code yX0_secondsOf cX0_secondsOf 2 (some .int) ∈ lw_tbl := List.mem_of_getElem? (i := 773) rfl
set_option maxRecDepth 100000 in
theorem ok_X10_call : xm_okM lw_tbl vwCl xm_TX xm_P mm_X10_call = true := by decide +kernel
set_option maxRecDepth 100000 in
theorem oc_X10_call : Cond.code yX10_call cX10_call 3 (some .int) ∈ lw_tbl := List.mem_of_getElem? (i := 780) rfl
