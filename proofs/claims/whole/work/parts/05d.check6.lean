set_option maxRecDepth 100000 in
theorem ok_X11_searchesAll : xm_okM lw_tbl vwCl xm_TX xm_P mm_X11_searchesAll = true := by decide +kernel
set_option maxRecDepth 100000 in
theorem oc_X11_searchesAll : Cond.code yX11_searchesAll cX11_searchesAll 1 none ∈ lw_tbl := List.mem_of_getElem? (i := 1895) rfl
set_option maxRecDepth 100000 in
theorem ok_X11_parcels : xm_okM lw_tbl vwCl xm_TX xm_P mm_X11_parcels = true := by decide +kernel
set_option maxRecDepth 100000 in
theorem oc_X11_parcels : Cond.code yX11_parcels cX11_parcels 4 (some .int) ∈ lw_tbl := List.mem_of_getElem? (i := 1899) rfl
set_option maxRecDepth 100000 in
theorem ok_X11_reach : xm_okM lw_tbl vwCl xm_TX xm_P mm_X11_reach = true := by decide +kernel
set_option maxRecDepth 100000 in
theorem oc_X11_reach : Cond.code yX11_reach cX11_reach 4 (some .int) ∈ lw_tbl := List.mem_of_getElem? (i := 1903) rfl
set_option maxRecDepth 100000 in
theorem ok_X11_most : xm_okM lw_tbl vwCl xm_TX xm_P mm_X11_most = true := by decide +kernel
set_option maxRecDepth 100000 in
theorem oc_X11_most : Cond.code yX11_most cX11_most 3 (some .int) ∈ lw_tbl := List.mem_of_getElem? (i := 1908) rfl
set_option maxRecDepth 100000 in
theorem ok_X11_ways : xm_okM lw_tbl vwCl xm_TX xm_P mm_X11_ways = true := by decide +kernel
set_option maxRecDepth 100000 in
theorem oc_X11_ways : Cond.code yX11_ways cX11_ways 3 (some .long) ∈ lw_tbl := List.mem_of_getElem? (i := 1913) rfl
set_option maxRecDepth 100000 in
theorem ok_X11_fillWays : xm_okM lw_tbl vwCl xm_TX xm_P mm_X11_fillWays = true := by decide +kernel
set_option maxRecDepth 100000 in
theorem oc_X11_fillWays : Cond.code yX11_fillWays cX11_fillWays 7 none ∈ lw_tbl := List.mem_of_getElem? (i := 1918) rfl
set_option maxRecDepth 100000 in
theorem ok_X11_how : xm_okM lw_tbl vwCl xm_TX xm_P mm_X11_how = true := by decide +kernel
set_option maxRecDepth 100000 in
theorem oc_X11_how : Cond.code yX11_how cX11_how 7 (some .int) ∈ lw_tbl := List.mem_of_getElem? (i := 1922) rfl
set_option maxRecDepth 100000 in
theorem ok_X11_means : xm_okM lw_tbl vwCl xm_TX xm_P mm_X11_means = true := by decide +kernel
set_option maxRecDepth 100000 in
theorem oc_X11_means : Cond.code yX11_means cX11_means 2 (some .int) ∈ lw_tbl := List.mem_of_getElem? (i := 1926) rfl
set_option maxRecDepth 100000 in
theorem ok_X11_called : xm_okM lw_tbl vwCl xm_TX xm_P mm_X11_called = true := by decide +kernel
set_option maxRecDepth 100000 in
theorem oc_X11_called : Cond.code yX11_called cX11_called 1 (some .int) ∈ lw_tbl := List.mem_of_getElem? (i := 1930) rfl
set_option maxRecDepth 100000 in
theorem ok_X11_allCalls : xm_okM lw_tbl vwCl xm_TX xm_P mm_X11_allCalls = true := by decide +kernel
set_option maxRecDepth 100000 in
theorem oc_X11_allCalls : Cond.code yX11_allCalls cX11_allCalls 1 (some .int) ∈ lw_tbl := List.mem_of_getElem? (i := 1934) rfl
set_option maxRecDepth 100000 in
theorem ok_X11_words : xm_okM lw_tbl vwCl xm_TX xm_P mm_X11_words = true := by decide +kernel
set_option maxRecDepth 100000 in
theorem oc_X11_words : Cond.code yX11_words cX11_words 4 (some .int) ∈ lw_tbl := List.mem_of_getElem? (i := 1938) rfl
set_option maxRecDepth 100000 in
theorem ok_X11_bits : xm_okM lw_tbl vwCl xm_TX xm_P mm_X11_bits = true := by decide +kernel
set_option maxRecDepth 100000 in
theorem oc_X11_bits : Cond.code yX11_bits cX11_bits 3 (some .int) ∈ lw_tbl := List.mem_of_getElem? (i := 1941) rfl
set_option maxRecDepth 100000 in
theorem ok_X11_alike : xm_okM lw_tbl vwCl xm_TX xm_P mm_X11_alike = true := by decide +kernel
set_option maxRecDepth 100000 in
theorem oc_X11_alike : Cond.code yX11_alike cX11_alike 3 (some .int) ∈ lw_tbl := List.mem_of_getElem? (i := 1945) rfl
set_option maxRecDepth 100000 in
theorem ok_X11_doubled : xm_okM lw_tbl vwCl xm_TX xm_P mm_X11_doubled = true := by decide +kernel
set_option maxRecDepth 100000 in
theorem oc_X11_doubled : Cond.code yX11_doubled cX11_doubled 4 (some .int) ∈ lw_tbl := List.mem_of_getElem? (i := 1949) rfl
set_option maxRecDepth 100000 in
theorem ok_X11_right : xm_okM lw_tbl vwCl xm_TX xm_P mm_X11_right = true := by decide +kernel
set_option maxRecDepth 100000 in
theorem oc_X11_right : Cond.code yX11_right cX11_right 3 (some .int) ∈ lw_tbl := List.mem_of_getElem? (i := 1953) rfl
set_option maxRecDepth 100000 in
theorem ok_X11_rightOf : xm_okM lw_tbl vwCl xm_TX xm_P mm_X11_rightOf = true := by decide +kernel
set_option maxRecDepth 100000 in
theorem oc_X11_rightOf : Cond.code yX11_rightOf cX11_rightOf 3 (some .int) ∈ lw_tbl := List.mem_of_getElem? (i := 1957) rfl
set_option maxRecDepth 100000 in
theorem ok_X11_slips : xm_okM lw_tbl vwCl xm_TX xm_P mm_X11_slips = true := by decide +kernel
set_option maxRecDepth 100000 in
theorem oc_X11_slips : Cond.code yX11_slips cX11_slips 1 (some .boolean) ∈ lw_tbl := List.mem_of_getElem? (i := 1960) rfl
set_option maxRecDepth 100000 in
theorem ok_X11_part : xm_okM lw_tbl vwCl xm_TX xm_P mm_X11_part = true := by decide +kernel
set_option maxRecDepth 100000 in
theorem oc_X11_part : Cond.code yX11_part cX11_part 5 (some .long) ∈ lw_tbl := List.mem_of_getElem? (i := 1964) rfl
set_option maxRecDepth 100000 in
theorem ok_X11_divisor : xm_okM lw_tbl vwCl xm_TX xm_P mm_X11_divisor = true := by decide +kernel
set_option maxRecDepth 100000 in
theorem oc_X11_divisor : Cond.code yX11_divisor cX11_divisor 10 (some .long) ∈ lw_tbl := List.mem_of_getElem? (i := 1967) rfl
set_option maxRecDepth 100000 in
theorem ok_X11_twists : xm_okM lw_tbl vwCl xm_TX xm_P mm_X11_twists = true := by decide +kernel
set_option maxRecDepth 100000 in
theorem oc_X11_twists : Cond.code yX11_twists cX11_twists 3 (some .int) ∈ lw_tbl := List.mem_of_getElem? (i := 1971) rfl
set_option maxRecDepth 100000 in
theorem ok_X11_twistsOf : xm_okM lw_tbl vwCl xm_TX xm_P mm_X11_twistsOf = true := by decide +kernel
set_option maxRecDepth 100000 in
theorem oc_X11_twistsOf : Cond.code yX11_twistsOf cX11_twistsOf 5 (some .int) ∈ lw_tbl := List.mem_of_getElem? (i := 1975) rfl
set_option maxRecDepth 100000 in
theorem ok_X11_mend : xm_okM lw_tbl vwCl xm_TX xm_P mm_X11_mend = true := by decide +kernel
set_option maxRecDepth 100000 in
theorem oc_X11_mend : Cond.code yX11_mend cX11_mend 4 (some .int) ∈ lw_tbl := List.mem_of_getElem? (i := 1979) rfl
set_option maxRecDepth 100000 in
theorem ok_X11_chance : xm_okM lw_tbl vwCl xm_TX xm_P mm_X11_chance = true := by decide +kernel
set_option maxRecDepth 100000 in
theorem oc_X11_chance : Cond.code yX11_chance cX11_chance 13 (some .long) ∈ lw_tbl := List.mem_of_getElem? (i := 1983) rfl
set_option maxRecDepth 100000 in
theorem ok_X11_out : xm_okM lw_tbl vwCl xm_TX xm_P mm_X11_out = true := by decide +kernel
set_option maxRecDepth 100000 in
theorem oc_X11_out : Cond.code yX11_out cX11_out 3 (some .int) ∈ lw_tbl := List.mem_of_getElem? (i := 1989) rfl
set_option maxRecDepth 100000 in
theorem ok_X11_fits : xm_okM lw_tbl vwCl xm_TX xm_P mm_X11_fits = true := by decide +kernel
set_option maxRecDepth 100000 in
theorem oc_X11_fits : Cond.code yX11_fits cX11_fits 1 (some .int) ∈ lw_tbl := List.mem_of_getElem? (i := 1994) rfl
set_option maxRecDepth 100000 in
theorem ok_X11_highNow : xm_okM lw_tbl vwCl xm_TX xm_P mm_X11_highNow = true := by decide +kernel
set_option maxRecDepth 100000 in
theorem oc_X11_highNow : Cond.code yX11_highNow cX11_highNow 1 (some .int) ∈ lw_tbl := List.mem_of_getElem? (i := 1998) rfl
set_option maxRecDepth 100000 in
theorem ok_X11_packs : xm_okM lw_tbl vwCl xm_TX xm_P mm_X11_packs = true := by decide +kernel
set_option maxRecDepth 100000 in
theorem oc_X11_packs : Cond.code yX11_packs cX11_packs 4 (some .int) ∈ lw_tbl := List.mem_of_getElem? (i := 2002) rfl
set_option maxRecDepth 100000 in
theorem ok_X11_highest : xm_okM lw_tbl vwCl xm_TX xm_P mm_X11_highest = true := by decide +kernel
set_option maxRecDepth 100000 in
theorem oc_X11_highest : Cond.code yX11_highest cX11_highest 6 (some .int) ∈ lw_tbl := List.mem_of_getElem? (i := 2006) rfl
set_option maxRecDepth 100000 in
theorem ok_X11_mostIn : xm_okM lw_tbl vwCl xm_TX xm_P mm_X11_mostIn = true := by decide +kernel
set_option maxRecDepth 100000 in
theorem oc_X11_mostIn : Cond.code yX11_mostIn cX11_mostIn 10 (some .int) ∈ lw_tbl := List.mem_of_getElem? (i := 2010) rfl
set_option maxRecDepth 100000 in
theorem ok_X11_thin : xm_okM lw_tbl vwCl xm_TX xm_P mm_X11_thin = true := by decide +kernel
set_option maxRecDepth 100000 in
theorem oc_X11_thin : Cond.code yX11_thin cX11_thin 3 (some .int) ∈ lw_tbl := List.mem_of_getElem? (i := 2018) rfl
set_option maxRecDepth 100000 in
theorem ok_X11_learn : xm_okM lw_tbl vwCl xm_TX xm_P mm_X11_learn = true := by decide +kernel
set_option maxRecDepth 100000 in
theorem oc_X11_learn : Cond.code yX11_learn cX11_learn 3 (some .int) ∈ lw_tbl := List.mem_of_getElem? (i := 2022) rfl
set_option maxRecDepth 100000 in
theorem ok_X11_isPair : xm_okM lw_tbl vwCl xm_TX xm_P mm_X11_isPair = true := by decide +kernel
set_option maxRecDepth 100000 in
theorem oc_X11_isPair : Cond.code yX11_isPair cX11_isPair 2 (some .boolean) ∈ lw_tbl := List.mem_of_getElem? (i := 2026) rfl
set_option maxRecDepth 100000 in
theorem ok_X11_learnOf : xm_okM lw_tbl vwCl xm_TX xm_P mm_X11_learnOf = true := by decide +kernel
set_option maxRecDepth 100000 in
theorem oc_X11_learnOf : Cond.code yX11_learnOf cX11_learnOf 3 (some .int) ∈ lw_tbl := List.mem_of_getElem? (i := 2031) rfl
set_option maxRecDepth 100000 in
theorem ok_X11_learnBy : xm_okM lw_tbl vwCl xm_TX xm_P mm_X11_learnBy = true := by decide +kernel
set_option maxRecDepth 100000 in
theorem oc_X11_learnBy : Cond.code yX11_learnBy cX11_learnBy 6 (some .int) ∈ lw_tbl := List.mem_of_getElem? (i := 2035) rfl
set_option maxRecDepth 100000 in
theorem ok_X11_skilled : xm_okM lw_tbl vwCl xm_TX xm_P mm_X11_skilled = true := by decide +kernel
set_option maxRecDepth 100000 in
theorem oc_X11_skilled : Cond.code yX11_skilled cX11_skilled 4 (some .int) ∈ lw_tbl := List.mem_of_getElem? (i := 2039) rfl
set_option maxRecDepth 100000 in
theorem ok_X11_soonest : xm_okM lw_tbl vwCl xm_TX xm_P mm_X11_soonest = true := by decide +kernel
set_option maxRecDepth 100000 in
theorem oc_X11_soonest : Cond.code yX11_soonest cX11_soonest 4 (some .int) ∈ lw_tbl := List.mem_of_getElem? (i := 2043) rfl
set_option maxRecDepth 100000 in
theorem ok_X11_friday : xm_okM lw_tbl vwCl xm_TX xm_P mm_X11_friday = true := by decide +kernel
set_option maxRecDepth 100000 in
theorem oc_X11_friday : Cond.code yX11_friday cX11_friday 1 (some .int) ∈ lw_tbl := List.mem_of_getElem? (i := 2047) rfl
set_option maxRecDepth 100000 in
theorem ok_X11_fridayWith : xm_okM lw_tbl vwCl xm_TX xm_P mm_X11_fridayWith = true := by decide +kernel
set_option maxRecDepth 100000 in
theorem oc_X11_fridayWith : Cond.code yX11_fridayWith cX11_fridayWith 8 (some .int) ∈ lw_tbl := List.mem_of_getElem? (i := 2051) rfl
set_option maxRecDepth 100000 in
theorem ok_X11_nextGiving : xm_okM lw_tbl vwCl xm_TX xm_P mm_X11_nextGiving = true := by decide +kernel
set_option maxRecDepth 100000 in
theorem oc_X11_nextGiving : Cond.code yX11_nextGiving cX11_nextGiving 3 (some .boolean) ∈ lw_tbl := List.mem_of_getElem? (i := 2055) rfl
set_option maxRecDepth 100000 in
theorem ok_X11_given : xm_okM lw_tbl vwCl xm_TX xm_P mm_X11_given = true := by decide +kernel
set_option maxRecDepth 100000 in
theorem oc_X11_given : Cond.code yX11_given cX11_given 2 (some .int) ∈ lw_tbl := List.mem_of_getElem? (i := 2059) rfl
set_option maxRecDepth 100000 in
theorem ok_X11_helps : xm_okM lw_tbl vwCl xm_TX xm_P mm_X11_helps = true := by decide +kernel
set_option maxRecDepth 100000 in
theorem oc_X11_helps : Cond.code yX11_helps cX11_helps 2 (some .int) ∈ lw_tbl := List.mem_of_getElem? (i := 2063) rfl
set_option maxRecDepth 100000 in
theorem ok_X11_drawn : xm_okM lw_tbl vwCl xm_TX xm_P mm_X11_drawn = true := by decide +kernel
set_option maxRecDepth 100000 in
theorem oc_X11_drawn : Cond.code yX11_drawn cX11_drawn 5 (some .int) ∈ lw_tbl := List.mem_of_getElem? (i := 2067) rfl
set_option maxRecDepth 100000 in
theorem ok_X11_isSeed : xm_okM lw_tbl vwCl xm_TX xm_P mm_X11_isSeed = true := by decide +kernel
set_option maxRecDepth 100000 in
theorem oc_X11_isSeed : Cond.code yX11_isSeed cX11_isSeed 1 (some .boolean) ∈ lw_tbl := List.mem_of_getElem? (i := 2070) rfl
set_option maxRecDepth 100000 in
theorem ok_X11_callsDrawn : xm_okM lw_tbl vwCl xm_TX xm_P mm_X11_callsDrawn = true := by decide +kernel
set_option maxRecDepth 100000 in
theorem oc_X11_callsDrawn : Cond.code yX11_callsDrawn cX11_callsDrawn 9 none ∈ lw_tbl := List.mem_of_getElem? (i := 2075) rfl
set_option maxRecDepth 100000 in
theorem ok_X11_drawAct : xm_okM lw_tbl vwCl xm_TX xm_P mm_X11_drawAct = true := by decide +kernel
set_option maxRecDepth 100000 in
theorem oc_X11_drawAct : Cond.code yX11_drawAct cX11_drawAct 3 (some .int) ∈ lw_tbl := List.mem_of_getElem? (i := 2079) rfl
set_option maxRecDepth 100000 in
theorem ok_X11_slipped : xm_okM lw_tbl vwCl xm_TX xm_P mm_X11_slipped = true := by decide +kernel
set_option maxRecDepth 100000 in
theorem oc_X11_slipped : Cond.code yX11_slipped cX11_slipped 4 (some .int) ∈ lw_tbl := List.mem_of_getElem? (i := 2087) rfl
set_option maxRecDepth 100000 in
theorem ok_X11_years : xm_okM lw_tbl vwCl xm_TX xm_P mm_X11_years = true := by decide +kernel
set_option maxRecDepth 100000 in
theorem oc_X11_years : Cond.code yX11_years cX11_years 7 (some .int) ∈ lw_tbl := List.mem_of_getElem? (i := 2091) rfl
set_option maxRecDepth 100000 in
theorem ok_X11_count : xm_okM lw_tbl vwCl xm_TX xm_P mm_X11_count = true := by decide +kernel
set_option maxRecDepth 100000 in
theorem oc_X11_count : Cond.code yX11_count cX11_count 4 (some .int) ∈ lw_tbl := List.mem_of_getElem? (i := 2095) rfl
set_option maxRecDepth 100000 in
theorem ok_X11_row : xm_okM lw_tbl vwCl xm_TX xm_P mm_X11_row = true := by decide +kernel
set_option maxRecDepth 100000 in
theorem oc_X11_row : Cond.code yX11_row cX11_row 5 (some .int) ∈ lw_tbl := List.mem_of_getElem? (i := 2099) rfl
set_option maxRecDepth 100000 in
theorem ok_X11_write : xm_okM lw_tbl vwCl xm_TX xm_P mm_X11_write = true := by decide +kernel
set_option maxRecDepth 100000 in
theorem oc_X11_write : Cond.code yX11_write cX11_write 5 (some .int) ∈ lw_tbl := List.mem_of_getElem? (i := 2103) rfl
set_option maxRecDepth 100000 in
theorem ok_X11_cut : xm_okM lw_tbl vwCl xm_TX xm_P mm_X11_cut = true := by decide +kernel
set_option maxRecDepth 100000 in
theorem oc_X11_cut : Cond.code yX11_cut cX11_cut 4 (some .long) ∈ lw_tbl := List.mem_of_getElem? (i := 2106) rfl
set_option maxRecDepth 100000 in
theorem ok_X11_paste : xm_okM lw_tbl vwCl xm_TX xm_P mm_X11_paste = true := by decide +kernel
set_option maxRecDepth 100000 in
theorem oc_X11_paste : Cond.code yX11_paste cX11_paste 7 (some .int) ∈ lw_tbl := List.mem_of_getElem? (i := 2110) rfl
set_option maxRecDepth 100000 in
theorem ok_J0_checkIndex_df160 : xm_okM lw_tbl vwCl xm_TX xm_P mm_J0_checkIndex_df160 = true := by decide +kernel
set_option maxRecDepth 100000 in
theorem oc_J0_checkIndex_df160 : Cond.code yJ0_checkIndex_df160 cJ0_checkIndex_df160 2 none ∈ lw_tbl := List.mem_of_getElem? (i := 590) rfl
set_option maxRecDepth 100000 in
theorem ok_J3_checkIndex_8e157 : xm_okM lw_tbl vwCl xm_TX xm_P mm_J3_checkIndex_8e157 = true := by decide +kernel
set_option maxRecDepth 100000 in
theorem oc_J3_checkIndex_8e157 : Cond.code yJ3_checkIndex_8e157 cJ3_checkIndex_8e157 3 (some .int) ∈ lw_tbl := List.mem_of_getElem? (i := 595) rfl
