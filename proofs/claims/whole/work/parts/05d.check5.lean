set_option maxRecDepth 100000 in
theorem ok_X11_longOf : xm_okM lw_tbl vwCl xm_TX xm_P mm_X11_longOf = true := by decide +kernel
set_option maxRecDepth 100000 in
theorem oc_X11_longOf : Cond.code yX11_longOf cX11_longOf 1 (some .int) ∈ lw_tbl := List.mem_of_getElem? (i := 1676) rfl
set_option maxRecDepth 100000 in
theorem ok_X11_wideOf : xm_okM lw_tbl vwCl xm_TX xm_P mm_X11_wideOf = true := by decide +kernel
set_option maxRecDepth 100000 in
theorem oc_X11_wideOf : Cond.code yX11_wideOf cX11_wideOf 1 (some .int) ∈ lw_tbl := List.mem_of_getElem? (i := 1679) rfl
set_option maxRecDepth 100000 in
theorem ok_X11_hemOf : xm_okM lw_tbl vwCl xm_TX xm_P mm_X11_hemOf = true := by decide +kernel
set_option maxRecDepth 100000 in
theorem oc_X11_hemOf : Cond.code yX11_hemOf cX11_hemOf 1 (some .int) ∈ lw_tbl := List.mem_of_getElem? (i := 1682) rfl
set_option maxRecDepth 100000 in
theorem ok_X11_faceOf : xm_okM lw_tbl vwCl xm_TX xm_P mm_X11_faceOf = true := by decide +kernel
set_option maxRecDepth 100000 in
theorem oc_X11_faceOf : Cond.code yX11_faceOf cX11_faceOf 1 (some .int) ∈ lw_tbl := List.mem_of_getElem? (i := 1685) rfl
set_option maxRecDepth 100000 in
theorem ok_X11_twistOf : xm_okM lw_tbl vwCl xm_TX xm_P mm_X11_twistOf = true := by decide +kernel
set_option maxRecDepth 100000 in
theorem oc_X11_twistOf : Cond.code yX11_twistOf cX11_twistOf 1 (some .int) ∈ lw_tbl := List.mem_of_getElem? (i := 1688) rfl
set_option maxRecDepth 100000 in
theorem ok_X11_fitsIn : xm_okM lw_tbl vwCl xm_TX xm_P mm_X11_fitsIn = true := by decide +kernel
set_option maxRecDepth 100000 in
theorem oc_X11_fitsIn : Cond.code yX11_fitsIn cX11_fitsIn 3 (some .boolean) ∈ lw_tbl := List.mem_of_getElem? (i := 1692) rfl
set_option maxRecDepth 100000 in
theorem ok_X11_trade : xm_okM lw_tbl vwCl xm_TX xm_P mm_X11_trade = true := by decide +kernel
set_option maxRecDepth 100000 in
theorem oc_X11_trade : Cond.code yX11_trade cX11_trade 3 (some .int) ∈ lw_tbl := List.mem_of_getElem? (i := 1695) rfl
set_option maxRecDepth 100000 in
theorem ok_X11_round : xm_okM lw_tbl vwCl xm_TX xm_P mm_X11_round = true := by decide +kernel
set_option maxRecDepth 100000 in
theorem oc_X11_round : Cond.code yX11_round cX11_round 1 (some .int) ∈ lw_tbl := List.mem_of_getElem? (i := 1698) rfl
set_option maxRecDepth 100000 in
theorem ok_X11_secondsGone : xm_okM lw_tbl vwCl xm_TX xm_P mm_X11_secondsGone = true := by decide +kernel
set_option maxRecDepth 100000 in
theorem oc_X11_secondsGone : Cond.code yX11_secondsGone cX11_secondsGone 3 (some .int) ∈ lw_tbl := List.mem_of_getElem? (i := 1703) rfl
set_option maxRecDepth 100000 in
theorem ok_X11_takesOf : xm_okM lw_tbl vwCl xm_TX xm_P mm_X11_takesOf = true := by decide +kernel
set_option maxRecDepth 100000 in
theorem oc_X11_takesOf : Cond.code yX11_takesOf cX11_takesOf 2 (some .int) ∈ lw_tbl := List.mem_of_getElem? (i := 1707) rfl
set_option maxRecDepth 100000 in
theorem ok_X11_secondsOf : xm_okM lw_tbl vwCl xm_TX xm_P mm_X11_secondsOf = true := by decide +kernel
set_option maxRecDepth 100000 in
theorem oc_X11_secondsOf : Cond.code yX11_secondsOf cX11_secondsOf 2 (some .int) ∈ lw_tbl := List.mem_of_getElem? (i := 1711) rfl
set_option maxRecDepth 100000 in
theorem ok_X11_movingOf : xm_okM lw_tbl vwCl xm_TX xm_P mm_X11_movingOf = true := by decide +kernel
set_option maxRecDepth 100000 in
theorem oc_X11_movingOf : Cond.code yX11_movingOf cX11_movingOf 1 (some .int) ∈ lw_tbl := List.mem_of_getElem? (i := 1714) rfl
set_option maxRecDepth 100000 in
theorem ok_X11_ofState : xm_okM lw_tbl vwCl xm_TX xm_P mm_X11_ofState = true := by decide +kernel
set_option maxRecDepth 100000 in
theorem oc_X11_ofState : Cond.code yX11_ofState cX11_ofState 4 (some .int) ∈ lw_tbl := List.mem_of_getElem? (i := 1718) rfl
set_option maxRecDepth 100000 in
theorem ok_X11_layersOf : xm_okM lw_tbl vwCl xm_TX xm_P mm_X11_layersOf = true := by decide +kernel
set_option maxRecDepth 100000 in
theorem oc_X11_layersOf : Cond.code yX11_layersOf cX11_layersOf 2 (some .int) ∈ lw_tbl := List.mem_of_getElem? (i := 1722) rfl
set_option maxRecDepth 100000 in
theorem ok_X11_can : xm_okM lw_tbl vwCl xm_TX xm_P mm_X11_can = true := by decide +kernel
set_option maxRecDepth 100000 in
theorem oc_X11_can : Cond.code yX11_can cX11_can 2 (some .int) ∈ lw_tbl := List.mem_of_getElem? (i := 1726) rfl
set_option maxRecDepth 100000 in
theorem ok_X11_isMove : xm_okM lw_tbl vwCl xm_TX xm_P mm_X11_isMove = true := by decide +kernel
set_option maxRecDepth 100000 in
theorem oc_X11_isMove : Cond.code yX11_isMove cX11_isMove 2 (some .boolean) ∈ lw_tbl := List.mem_of_getElem? (i := 1729) rfl
set_option maxRecDepth 100000 in
theorem ok_X11_moves : xm_okM lw_tbl vwCl xm_TX xm_P mm_X11_moves = true := by decide +kernel
set_option maxRecDepth 100000 in
theorem oc_X11_moves : Cond.code yX11_moves cX11_moves 4 (some .int) ∈ lw_tbl := List.mem_of_getElem? (i := 1734) rfl
set_option maxRecDepth 100000 in
theorem ok_X11_fold : xm_okM lw_tbl vwCl xm_TX xm_P mm_X11_fold = true := by decide +kernel
set_option maxRecDepth 100000 in
theorem oc_X11_fold : Cond.code yX11_fold cX11_fold 2 (some .int) ∈ lw_tbl := List.mem_of_getElem? (i := 1738) rfl
set_option maxRecDepth 100000 in
theorem ok_X11_does : xm_okM lw_tbl vwCl xm_TX xm_P mm_X11_does = true := by decide +kernel
set_option maxRecDepth 100000 in
theorem oc_X11_does : Cond.code yX11_does cX11_does 2 (some .boolean) ∈ lw_tbl := List.mem_of_getElem? (i := 1742) rfl
set_option maxRecDepth 100000 in
theorem ok_X11_call : xm_okM lw_tbl vwCl xm_TX xm_P mm_X11_call = true := by decide +kernel
set_option maxRecDepth 100000 in
theorem oc_X11_call : Cond.code yX11_call cX11_call 3 (some .int) ∈ lw_tbl := List.mem_of_getElem? (i := 1746) rfl
set_option maxRecDepth 100000 in
theorem ok_X11_isCall : xm_okM lw_tbl vwCl xm_TX xm_P mm_X11_isCall = true := by decide +kernel
set_option maxRecDepth 100000 in
theorem oc_X11_isCall : Cond.code yX11_isCall cX11_isCall 3 (some .boolean) ∈ lw_tbl := List.mem_of_getElem? (i := 1750) rfl
set_option maxRecDepth 100000 in
theorem ok_X11_her : xm_okM lw_tbl vwCl xm_TX xm_P mm_X11_her = true := by decide +kernel
set_option maxRecDepth 100000 in
theorem oc_X11_her : Cond.code yX11_her cX11_her 2 (some .int) ∈ lw_tbl := List.mem_of_getElem? (i := 1754) rfl
set_option maxRecDepth 100000 in
theorem ok_X11_his : xm_okM lw_tbl vwCl xm_TX xm_P mm_X11_his = true := by decide +kernel
set_option maxRecDepth 100000 in
theorem oc_X11_his : Cond.code yX11_his cX11_his 2 (some .int) ∈ lw_tbl := List.mem_of_getElem? (i := 1758) rfl
set_option maxRecDepth 100000 in
theorem ok_X11_meaning : xm_okM lw_tbl vwCl xm_TX xm_P mm_X11_meaning = true := by decide +kernel
set_option maxRecDepth 100000 in
theorem oc_X11_meaning : Cond.code yX11_meaning cX11_meaning 2 (some .int) ∈ lw_tbl := List.mem_of_getElem? (i := 1761) rfl
set_option maxRecDepth 100000 in
theorem ok_X11_undo : xm_okM lw_tbl vwCl xm_TX xm_P mm_X11_undo = true := by decide +kernel
set_option maxRecDepth 100000 in
theorem oc_X11_undo : Cond.code yX11_undo cX11_undo 1 (some .int) ∈ lw_tbl := List.mem_of_getElem? (i := 1765) rfl
set_option maxRecDepth 100000 in
theorem ok_X11_led : xm_okM lw_tbl vwCl xm_TX xm_P mm_X11_led = true := by decide +kernel
set_option maxRecDepth 100000 in
theorem oc_X11_led : Cond.code yX11_led cX11_led 2 (some .int) ∈ lw_tbl := List.mem_of_getElem? (i := 1769) rfl
set_option maxRecDepth 100000 in
theorem ok_X11_anew : xm_okM lw_tbl vwCl xm_TX xm_P mm_X11_anew = true := by decide +kernel
set_option maxRecDepth 100000 in
theorem oc_X11_anew : Cond.code yX11_anew cX11_anew 2 (some .int) ∈ lw_tbl := List.mem_of_getElem? (i := 1773) rfl
set_option maxRecDepth 100000 in
theorem ok_X11_plan : xm_okM lw_tbl vwCl xm_TX xm_P mm_X11_plan = true := by decide +kernel
set_option maxRecDepth 100000 in
theorem oc_X11_plan : Cond.code yX11_plan cX11_plan 3 (some .int) ∈ lw_tbl := List.mem_of_getElem? (i := 1777) rfl
set_option maxRecDepth 100000 in
theorem ok_X11_asksRow : xm_okM lw_tbl vwCl xm_TX xm_P mm_X11_asksRow = true := by decide +kernel
set_option maxRecDepth 100000 in
theorem oc_X11_asksRow : Cond.code yX11_asksRow cX11_asksRow 5 (some .int) ∈ lw_tbl := List.mem_of_getElem? (i := 1781) rfl
set_option maxRecDepth 100000 in
theorem ok_X11_isSlot : xm_okM lw_tbl vwCl xm_TX xm_P mm_X11_isSlot = true := by decide +kernel
set_option maxRecDepth 100000 in
theorem oc_X11_isSlot : Cond.code yX11_isSlot cX11_isSlot 1 (some .boolean) ∈ lw_tbl := List.mem_of_getElem? (i := 1784) rfl
set_option maxRecDepth 100000 in
theorem ok_X11_numberAt : xm_okM lw_tbl vwCl xm_TX xm_P mm_X11_numberAt = true := by decide +kernel
set_option maxRecDepth 100000 in
theorem oc_X11_numberAt : Cond.code yX11_numberAt cX11_numberAt 3 (some .long) ∈ lw_tbl := List.mem_of_getElem? (i := 1789) rfl
set_option maxRecDepth 100000 in
theorem ok_X11_plans : xm_okM lw_tbl vwCl xm_TX xm_P mm_X11_plans = true := by decide +kernel
set_option maxRecDepth 100000 in
theorem oc_X11_plans : Cond.code yX11_plans cX11_plans 4 none ∈ lw_tbl := List.mem_of_getElem? (i := 1793) rfl
set_option maxRecDepth 100000 in
theorem ok_X11_after : xm_okM lw_tbl vwCl xm_TX xm_P mm_X11_after = true := by decide +kernel
set_option maxRecDepth 100000 in
theorem oc_X11_after : Cond.code yX11_after cX11_after 4 (some .int) ∈ lw_tbl := List.mem_of_getElem? (i := 1797) rfl
set_option maxRecDepth 100000 in
theorem ok_X11_fewest : xm_okM lw_tbl vwCl xm_TX xm_P mm_X11_fewest = true := by decide +kernel
set_option maxRecDepth 100000 in
theorem oc_X11_fewest : Cond.code yX11_fewest cX11_fewest 1 (some .int) ∈ lw_tbl := List.mem_of_getElem? (i := 1801) rfl
set_option maxRecDepth 100000 in
theorem ok_X11_canWish : xm_okM lw_tbl vwCl xm_TX xm_P mm_X11_canWish = true := by decide +kernel
set_option maxRecDepth 100000 in
theorem oc_X11_canWish : Cond.code yX11_canWish cX11_canWish 1 (some .boolean) ∈ lw_tbl := List.mem_of_getElem? (i := 1805) rfl
set_option maxRecDepth 100000 in
theorem ok_X11_isWished : xm_okM lw_tbl vwCl xm_TX xm_P mm_X11_isWished = true := by decide +kernel
set_option maxRecDepth 100000 in
theorem oc_X11_isWished : Cond.code yX11_isWished cX11_isWished 1 (some .boolean) ∈ lw_tbl := List.mem_of_getElem? (i := 1809) rfl
set_option maxRecDepth 100000 in
theorem ok_X11_searches : xm_okM lw_tbl vwCl xm_TX xm_P mm_X11_searches = true := by decide +kernel
set_option maxRecDepth 100000 in
theorem oc_X11_searches : Cond.code yX11_searches cX11_searches 7 (some .int) ∈ lw_tbl := List.mem_of_getElem? (i := 1813) rfl
set_option maxRecDepth 100000 in
theorem ok_X11_spreads : xm_okM lw_tbl vwCl xm_TX xm_P mm_X11_spreads = true := by decide +kernel
set_option maxRecDepth 100000 in
theorem oc_X11_spreads : Cond.code yX11_spreads cX11_spreads 6 none ∈ lw_tbl := List.mem_of_getElem? (i := 1817) rfl
set_option maxRecDepth 100000 in
theorem ok_X11_choices : xm_okM lw_tbl vwCl xm_TX xm_P mm_X11_choices = true := by decide +kernel
set_option maxRecDepth 100000 in
theorem oc_X11_choices : Cond.code yX11_choices cX11_choices 1 (some .int) ∈ lw_tbl := List.mem_of_getElem? (i := 1822) rfl
set_option maxRecDepth 100000 in
theorem ok_X11_chosen : xm_okM lw_tbl vwCl xm_TX xm_P mm_X11_chosen = true := by decide +kernel
set_option maxRecDepth 100000 in
theorem oc_X11_chosen : Cond.code yX11_chosen cX11_chosen 3 (some .int) ∈ lw_tbl := List.mem_of_getElem? (i := 1826) rfl
set_option maxRecDepth 100000 in
theorem ok_X11_goesFrom : xm_okM lw_tbl vwCl xm_TX xm_P mm_X11_goesFrom = true := by decide +kernel
set_option maxRecDepth 100000 in
theorem oc_X11_goesFrom : Cond.code yX11_goesFrom cX11_goesFrom 5 (some .boolean) ∈ lw_tbl := List.mem_of_getElem? (i := 1830) rfl
set_option maxRecDepth 100000 in
theorem ok_X11_costOf : xm_okM lw_tbl vwCl xm_TX xm_P mm_X11_costOf = true := by decide +kernel
set_option maxRecDepth 100000 in
theorem oc_X11_costOf : Cond.code yX11_costOf cX11_costOf 2 (some .int) ∈ lw_tbl := List.mem_of_getElem? (i := 1834) rfl
set_option maxRecDepth 100000 in
theorem ok_X11_nearest : xm_okM lw_tbl vwCl xm_TX xm_P mm_X11_nearest = true := by decide +kernel
set_option maxRecDepth 100000 in
theorem oc_X11_nearest : Cond.code yX11_nearest cX11_nearest 3 (some .int) ∈ lw_tbl := List.mem_of_getElem? (i := 1838) rfl
set_option maxRecDepth 100000 in
theorem ok_X11_isAsWished : xm_okM lw_tbl vwCl xm_TX xm_P mm_X11_isAsWished = true := by decide +kernel
set_option maxRecDepth 100000 in
theorem oc_X11_isAsWished : Cond.code yX11_isAsWished cX11_isAsWished 2 (some .boolean) ∈ lw_tbl := List.mem_of_getElem? (i := 1842) rfl
set_option maxRecDepth 100000 in
theorem ok_X11_step : xm_okM lw_tbl vwCl xm_TX xm_P mm_X11_step = true := by decide +kernel
set_option maxRecDepth 100000 in
theorem oc_X11_step : Cond.code yX11_step cX11_step 2 (some .int) ∈ lw_tbl := List.mem_of_getElem? (i := 1846) rfl
set_option maxRecDepth 100000 in
theorem ok_X11_chosenAt : xm_okM lw_tbl vwCl xm_TX xm_P mm_X11_chosenAt = true := by decide +kernel
set_option maxRecDepth 100000 in
theorem oc_X11_chosenAt : Cond.code yX11_chosenAt cX11_chosenAt 7 (some .int) ∈ lw_tbl := List.mem_of_getElem? (i := 1850) rfl
set_option maxRecDepth 100000 in
theorem ok_X11_leadsOn : xm_okM lw_tbl vwCl xm_TX xm_P mm_X11_leadsOn = true := by decide +kernel
set_option maxRecDepth 100000 in
theorem oc_X11_leadsOn : Cond.code yX11_leadsOn cX11_leadsOn 3 (some .boolean) ∈ lw_tbl := List.mem_of_getElem? (i := 1854) rfl
set_option maxRecDepth 100000 in
theorem ok_X11_leadsBy : xm_okM lw_tbl vwCl xm_TX xm_P mm_X11_leadsBy = true := by decide +kernel
set_option maxRecDepth 100000 in
theorem oc_X11_leadsBy : Cond.code yX11_leadsBy cX11_leadsBy 4 (some .boolean) ∈ lw_tbl := List.mem_of_getElem? (i := 1858) rfl
set_option maxRecDepth 100000 in
theorem ok_X11_quickest : xm_okM lw_tbl vwCl xm_TX xm_P mm_X11_quickest = true := by decide +kernel
set_option maxRecDepth 100000 in
theorem oc_X11_quickest : Cond.code yX11_quickest cX11_quickest 1 (some .int) ∈ lw_tbl := List.mem_of_getElem? (i := 1862) rfl
set_option maxRecDepth 100000 in
theorem ok_X11_quick : xm_okM lw_tbl vwCl xm_TX xm_P mm_X11_quick = true := by decide +kernel
set_option maxRecDepth 100000 in
theorem oc_X11_quick : Cond.code yX11_quick cX11_quick 2 (some .int) ∈ lw_tbl := List.mem_of_getElem? (i := 1866) rfl
set_option maxRecDepth 100000 in
theorem ok_X11_alone : xm_okM lw_tbl vwCl xm_TX xm_P mm_X11_alone = true := by decide +kernel
set_option maxRecDepth 100000 in
theorem oc_X11_alone : Cond.code yX11_alone cX11_alone 1 (some .int) ∈ lw_tbl := List.mem_of_getElem? (i := 1870) rfl
set_option maxRecDepth 100000 in
theorem ok_X11_rail : xm_okM lw_tbl vwCl xm_TX xm_P mm_X11_rail = true := by decide +kernel
set_option maxRecDepth 100000 in
theorem oc_X11_rail : Cond.code yX11_rail cX11_rail 2 (some .int) ∈ lw_tbl := List.mem_of_getElem? (i := 1874) rfl
set_option maxRecDepth 100000 in
theorem ok_X11_brief : xm_okM lw_tbl vwCl xm_TX xm_P mm_X11_brief = true := by decide +kernel
set_option maxRecDepth 100000 in
theorem oc_X11_brief : Cond.code yX11_brief cX11_brief 2 (some .int) ∈ lw_tbl := List.mem_of_getElem? (i := 1878) rfl
set_option maxRecDepth 100000 in
theorem ok_X11_room : xm_okM lw_tbl vwCl xm_TX xm_P mm_X11_room = true := by decide +kernel
set_option maxRecDepth 100000 in
theorem oc_X11_room : Cond.code yX11_room cX11_room 2 (some .int) ∈ lw_tbl := List.mem_of_getElem? (i := 1883) rfl
set_option maxRecDepth 100000 in
theorem ok_X11_best : xm_okM lw_tbl vwCl xm_TX xm_P mm_X11_best = true := by decide +kernel
set_option maxRecDepth 100000 in
theorem oc_X11_best : Cond.code yX11_best cX11_best 5 (some .int) ∈ lw_tbl := List.mem_of_getElem? (i := 1887) rfl
set_option maxRecDepth 100000 in
theorem ok_X11_parcel : xm_okM lw_tbl vwCl xm_TX xm_P mm_X11_parcel = true := by decide +kernel
set_option maxRecDepth 100000 in
theorem oc_X11_parcel : Cond.code yX11_parcel cX11_parcel 6 (some .int) ∈ lw_tbl := List.mem_of_getElem? (i := 1891) rfl
