set_option maxRecDepth 100000 in
theorem ok_X10_isSeed : xm_okM lw_tbl vwCl xm_TX xm_P mm_X10_isSeed = true := by decide +kernel
set_option maxRecDepth 100000 in
theorem oc_X10_isSeed : Cond.code yX10_isSeed cX10_isSeed 1 (some .boolean) ∈ lw_tbl := List.mem_of_getElem? (i := 1275) rfl
set_option maxRecDepth 100000 in
theorem ok_X7_draw : xm_okM lw_tbl vwCl xm_TX xm_P mm_X7_draw = true := by decide +kernel
set_option maxRecDepth 100000 in
theorem oc_X7_draw : Cond.code yX7_draw cX7_draw 8 none ∈ lw_tbl := List.mem_of_getElem? (i := 1280) rfl
set_option maxRecDepth 100000 in
theorem ok_X7_heard : xm_okM lw_tbl vwCl xm_TX xm_P mm_X7_heard = true := by decide +kernel
set_option maxRecDepth 100000 in
theorem oc_X7_heard : Cond.code yX7_heard cX7_heard 3 (some .int) ∈ lw_tbl := List.mem_of_getElem? (i := 1285) rfl
set_option maxRecDepth 100000 in
theorem ok_X10_slipped : xm_okM lw_tbl vwCl xm_TX xm_P mm_X10_slipped = true := by decide +kernel
set_option maxRecDepth 100000 in
theorem oc_X10_slipped : Cond.code yX10_slipped cX10_slipped 4 (some .int) ∈ lw_tbl := List.mem_of_getElem? (i := 1297) rfl
set_option maxRecDepth 100000 in
theorem ok_X10_years : xm_okM lw_tbl vwCl xm_TX xm_P mm_X10_years = true := by decide +kernel
set_option maxRecDepth 100000 in
theorem oc_X10_years : Cond.code yX10_years cX10_years 7 (some .int) ∈ lw_tbl := List.mem_of_getElem? (i := 1301) rfl
set_option maxRecDepth 100000 in
theorem ok_X10_count : xm_okM lw_tbl vwCl xm_TX xm_P mm_X10_count = true := by decide +kernel
set_option maxRecDepth 100000 in
theorem oc_X10_count : Cond.code yX10_count cX10_count 2 (some .int) ∈ lw_tbl := List.mem_of_getElem? (i := 1305) rfl
set_option maxRecDepth 100000 in
theorem ok_X10_slotsHeld : xm_okM lw_tbl vwCl xm_TX xm_P mm_X10_slotsHeld = true := by decide +kernel
set_option maxRecDepth 100000 in
theorem oc_X10_slotsHeld : Cond.code yX10_slotsHeld cX10_slotsHeld 3 (some .int) ∈ lw_tbl := List.mem_of_getElem? (i := 1309) rfl
set_option maxRecDepth 100000 in
theorem ok_X10_image : xm_okM lw_tbl vwCl xm_TX xm_P mm_X10_image = true := by decide +kernel
set_option maxRecDepth 100000 in
theorem oc_X10_image : Cond.code yX10_image cX10_image 2 (some .int) ∈ lw_tbl := List.mem_of_getElem? (i := 1313) rfl
set_option maxRecDepth 100000 in
theorem ok_X10_isImage : xm_okM lw_tbl vwCl xm_TX xm_P mm_X10_isImage = true := by decide +kernel
set_option maxRecDepth 100000 in
theorem oc_X10_isImage : Cond.code yX10_isImage cX10_isImage 1 (some .boolean) ∈ lw_tbl := List.mem_of_getElem? (i := 1316) rfl
set_option maxRecDepth 100000 in
theorem ok_X9_copy : xm_okM lw_tbl vwCl xm_TX xm_P mm_X9_copy = true := by decide +kernel
set_option maxRecDepth 100000 in
theorem oc_X9_copy : Cond.code yX9_copy cX9_copy 2 none ∈ lw_tbl := List.mem_of_getElem? (i := 1320) rfl
set_option maxRecDepth 100000 in
theorem ok_X0_copy : xm_okM lw_tbl vwCl xm_TX xm_P mm_X0_copy = true := by decide +kernel
set_option maxRecDepth 100000 in
theorem oc_X0_copy : Cond.code yX0_copy cX0_copy 2 none ∈ lw_tbl := List.mem_of_getElem? (i := 1324) rfl
set_option maxRecDepth 100000 in
theorem ok_X8_copy : xm_okM lw_tbl vwCl xm_TX xm_P mm_X8_copy = true := by decide +kernel
set_option maxRecDepth 100000 in
theorem oc_X8_copy : Cond.code yX8_copy cX8_copy 2 none ∈ lw_tbl := List.mem_of_getElem? (i := 1328) rfl
set_option maxRecDepth 100000 in
theorem ok_X0_copyAll : xm_okM lw_tbl vwCl xm_TX xm_P mm_X0_copyAll = true := by decide +kernel
set_option maxRecDepth 100000 in
theorem oc_X0_copyAll : Cond.code yX0_copyAll cX0_copyAll 2 none ∈ lw_tbl := List.mem_of_getElem? (i := 1331) rfl
set_option maxRecDepth 100000 in
theorem ok_X10_back : xm_okM lw_tbl vwCl xm_TX xm_P mm_X10_back = true := by decide +kernel
set_option maxRecDepth 100000 in
theorem oc_X10_back : Cond.code yX10_back cX10_back 2 (some .int) ∈ lw_tbl := List.mem_of_getElem? (i := 1338) rfl
set_option maxRecDepth 100000 in
theorem ok_X10_row : xm_okM lw_tbl vwCl xm_TX xm_P mm_X10_row = true := by decide +kernel
set_option maxRecDepth 100000 in
theorem oc_X10_row : Cond.code yX10_row cX10_row 4 (some .int) ∈ lw_tbl := List.mem_of_getElem? (i := 1342) rfl
set_option maxRecDepth 100000 in
theorem ok_X2_make : xm_okM lw_tbl vwCl xm_TX xm_P mm_X2_make = true := by decide +kernel
set_option maxRecDepth 100000 in
theorem oc_X2_make : Cond.code yX2_make cX2_make 3 none ∈ lw_tbl := List.mem_of_getElem? (i := 1346) rfl
set_option maxRecDepth 100000 in
theorem ok_J7_fill_d0a16 : xm_okM lw_tbl vwCl xm_TX xm_P mm_J7_fill_d0a16 = true := by decide +kernel
set_option maxRecDepth 100000 in
theorem oc_J7_fill_d0a16 : Cond.code yJ7_fill_d0a16 cJ7_fill_d0a16 5 none ∈ lw_tbl := List.mem_of_getElem? (i := 1351) rfl
set_option maxRecDepth 100000 in
theorem ok_X10_write : xm_okM lw_tbl vwCl xm_TX xm_P mm_X10_write = true := by decide +kernel
set_option maxRecDepth 100000 in
theorem oc_X10_write : Cond.code yX10_write cX10_write 6 (some .int) ∈ lw_tbl := List.mem_of_getElem? (i := 1355) rfl
set_option maxRecDepth 100000 in
theorem ok_X2_put : xm_okM lw_tbl vwCl xm_TX xm_P mm_X2_put = true := by decide +kernel
set_option maxRecDepth 100000 in
theorem oc_X2_put : Cond.code yX2_put cX2_put 4 none ∈ lw_tbl := List.mem_of_getElem? (i := 1359) rfl
set_option maxRecDepth 100000 in
theorem ok_X2_cut : xm_okM lw_tbl vwCl xm_TX xm_P mm_X2_cut = true := by decide +kernel
set_option maxRecDepth 100000 in
theorem oc_X2_cut : Cond.code yX2_cut cX2_cut 3 (some .long) ∈ lw_tbl := List.mem_of_getElem? (i := 1363) rfl
set_option maxRecDepth 100000 in
theorem ok_X10_paste : xm_okM lw_tbl vwCl xm_TX xm_P mm_X10_paste = true := by decide +kernel
set_option maxRecDepth 100000 in
theorem oc_X10_paste : Cond.code yX10_paste cX10_paste 8 (some .int) ∈ lw_tbl := List.mem_of_getElem? (i := 1367) rfl
set_option maxRecDepth 100000 in
theorem ok_X2_hasRun : xm_okM lw_tbl vwCl xm_TX xm_P mm_X2_hasRun = true := by decide +kernel
set_option maxRecDepth 100000 in
theorem oc_X2_hasRun : Cond.code yX2_hasRun cX2_hasRun 3 (some .boolean) ∈ lw_tbl := List.mem_of_getElem? (i := 1371) rfl
set_option maxRecDepth 100000 in
theorem ok_X11_image : xm_okM lw_tbl vwCl xm_TX xm_P mm_X11_image = true := by decide +kernel
set_option maxRecDepth 100000 in
theorem oc_X11_image : Cond.code yX11_image cX11_image 3 (some .int) ∈ lw_tbl := List.mem_of_getElem? (i := 1501) rfl
set_option maxRecDepth 100000 in
theorem ok_X11_in : xm_okM lw_tbl vwCl xm_TX xm_P mm_X11_in = true := by decide +kernel
set_option maxRecDepth 100000 in
theorem oc_X11_in : Cond.code yX11_in cX11_in 6 (some .boolean) ∈ lw_tbl := List.mem_of_getElem? (i := 1505) rfl
set_option maxRecDepth 100000 in
theorem ok_X11_back : xm_okM lw_tbl vwCl xm_TX xm_P mm_X11_back = true := by decide +kernel
set_option maxRecDepth 100000 in
theorem oc_X11_back : Cond.code yX11_back cX11_back 3 (some .int) ∈ lw_tbl := List.mem_of_getElem? (i := 1509) rfl
set_option maxRecDepth 100000 in
theorem ok_X11_feed : xm_okM lw_tbl vwCl xm_TX xm_P mm_X11_feed = true := by decide +kernel
set_option maxRecDepth 100000 in
theorem oc_X11_feed : Cond.code yX11_feed cX11_feed 7 (some .int) ∈ lw_tbl := List.mem_of_getElem? (i := 1513) rfl
set_option maxRecDepth 100000 in
theorem ok_X11_end : xm_okM lw_tbl vwCl xm_TX xm_P mm_X11_end = true := by decide +kernel
set_option maxRecDepth 100000 in
theorem oc_X11_end : Cond.code yX11_end cX11_end 2 (some .int) ∈ lw_tbl := List.mem_of_getElem? (i := 1517) rfl
set_option maxRecDepth 100000 in
theorem ok_X11_fault : xm_okM lw_tbl vwCl xm_TX xm_P mm_X11_fault = true := by decide +kernel
set_option maxRecDepth 100000 in
theorem oc_X11_fault : Cond.code yX11_fault cX11_fault 2 (some .int) ∈ lw_tbl := List.mem_of_getElem? (i := 1521) rfl
set_option maxRecDepth 100000 in
theorem ok_X11_linen : xm_okM lw_tbl vwCl xm_TX xm_P mm_X11_linen = true := by decide +kernel
set_option maxRecDepth 100000 in
theorem oc_X11_linen : Cond.code yX11_linen cX11_linen 2 (some .int) ∈ lw_tbl := List.mem_of_getElem? (i := 1525) rfl
set_option maxRecDepth 100000 in
theorem ok_X11_advance : xm_okM lw_tbl vwCl xm_TX xm_P mm_X11_advance = true := by decide +kernel
set_option maxRecDepth 100000 in
theorem oc_X11_advance : Cond.code yX11_advance cX11_advance 2 none ∈ lw_tbl := List.mem_of_getElem? (i := 1529) rfl
set_option maxRecDepth 100000 in
theorem ok_X11_see : xm_okM lw_tbl vwCl xm_TX xm_P mm_X11_see = true := by decide +kernel
set_option maxRecDepth 100000 in
theorem oc_X11_see : Cond.code yX11_see cX11_see 2 (some .int) ∈ lw_tbl := List.mem_of_getElem? (i := 1533) rfl
set_option maxRecDepth 100000 in
theorem ok_X11_good : xm_okM lw_tbl vwCl xm_TX xm_P mm_X11_good = true := by decide +kernel
set_option maxRecDepth 100000 in
theorem oc_X11_good : Cond.code yX11_good cX11_good 1 (some .boolean) ∈ lw_tbl := List.mem_of_getElem? (i := 1543) rfl
set_option maxRecDepth 100000 in
theorem ok_X11_readLine : xm_okM lw_tbl vwCl xm_TX xm_P mm_X11_readLine = true := by decide +kernel
set_option maxRecDepth 100000 in
theorem oc_X11_readLine : Cond.code yX11_readLine cX11_readLine 1 none ∈ lw_tbl := List.mem_of_getElem? (i := 1547) rfl
set_option maxRecDepth 100000 in
theorem ok_X11_readFirst : xm_okM lw_tbl vwCl xm_TX xm_P mm_X11_readFirst = true := by decide +kernel
set_option maxRecDepth 100000 in
theorem oc_X11_readFirst : Cond.code yX11_readFirst cX11_readFirst 2 none ∈ lw_tbl := List.mem_of_getElem? (i := 1551) rfl
set_option maxRecDepth 100000 in
theorem ok_X11_needs : xm_okM lw_tbl vwCl xm_TX xm_P mm_X11_needs = true := by decide +kernel
set_option maxRecDepth 100000 in
theorem oc_X11_needs : Cond.code yX11_needs cX11_needs 2 none ∈ lw_tbl := List.mem_of_getElem? (i := 1556) rfl
set_option maxRecDepth 100000 in
theorem ok_X11_takes : xm_okM lw_tbl vwCl xm_TX xm_P mm_X11_takes = true := by decide +kernel
set_option maxRecDepth 100000 in
theorem oc_X11_takes : Cond.code yX11_takes cX11_takes 3 (some .boolean) ∈ lw_tbl := List.mem_of_getElem? (i := 1560) rfl
set_option maxRecDepth 100000 in
theorem ok_X11_is : xm_okM lw_tbl vwCl xm_TX xm_P mm_X11_is = true := by decide +kernel
set_option maxRecDepth 100000 in
theorem oc_X11_is : Cond.code yX11_is cX11_is 4 (some .boolean) ∈ lw_tbl := List.mem_of_getElem? (i := 1564) rfl
set_option maxRecDepth 100000 in
theorem ok_X11_errs : xm_okM lw_tbl vwCl xm_TX xm_P mm_X11_errs = true := by decide +kernel
set_option maxRecDepth 100000 in
theorem oc_X11_errs : Cond.code yX11_errs cX11_errs 2 none ∈ lw_tbl := List.mem_of_getElem? (i := 1570) rfl
set_option maxRecDepth 100000 in
theorem ok_X11_told : xm_okM lw_tbl vwCl xm_TX xm_P mm_X11_told = true := by decide +kernel
set_option maxRecDepth 100000 in
theorem oc_X11_told : Cond.code yX11_told cX11_told 4 (some .int) ∈ lw_tbl := List.mem_of_getElem? (i := 1575) rfl
set_option maxRecDepth 100000 in
theorem ok_X11_number : xm_okM lw_tbl vwCl xm_TX xm_P mm_X11_number = true := by decide +kernel
set_option maxRecDepth 100000 in
theorem oc_X11_number : Cond.code yX11_number cX11_number 4 (some .int) ∈ lw_tbl := List.mem_of_getElem? (i := 1579) rfl
set_option maxRecDepth 100000 in
theorem ok_X11_readNext : xm_okM lw_tbl vwCl xm_TX xm_P mm_X11_readNext = true := by decide +kernel
set_option maxRecDepth 100000 in
theorem oc_X11_readNext : Cond.code yX11_readNext cX11_readNext 4 none ∈ lw_tbl := List.mem_of_getElem? (i := 1587) rfl
set_option maxRecDepth 100000 in
theorem ok_X11_moving : xm_okM lw_tbl vwCl xm_TX xm_P mm_X11_moving = true := by decide +kernel
set_option maxRecDepth 100000 in
theorem oc_X11_moving : Cond.code yX11_moving cX11_moving 1 (some .int) ∈ lw_tbl := List.mem_of_getElem? (i := 1591) rfl
set_option maxRecDepth 100000 in
theorem ok_X11_readCall : xm_okM lw_tbl vwCl xm_TX xm_P mm_X11_readCall = true := by decide +kernel
set_option maxRecDepth 100000 in
theorem oc_X11_readCall : Cond.code yX11_readCall cX11_readCall 3 none ∈ lw_tbl := List.mem_of_getElem? (i := 1608) rfl
set_option maxRecDepth 100000 in
theorem ok_X11_act : xm_okM lw_tbl vwCl xm_TX xm_P mm_X11_act = true := by decide +kernel
set_option maxRecDepth 100000 in
theorem oc_X11_act : Cond.code yX11_act cX11_act 1 (some .int) ∈ lw_tbl := List.mem_of_getElem? (i := 1613) rfl
set_option maxRecDepth 100000 in
theorem ok_X11_readWish : xm_okM lw_tbl vwCl xm_TX xm_P mm_X11_readWish = true := by decide +kernel
set_option maxRecDepth 100000 in
theorem oc_X11_readWish : Cond.code yX11_readWish cX11_readWish 5 none ∈ lw_tbl := List.mem_of_getElem? (i := 1622) rfl
set_option maxRecDepth 100000 in
theorem ok_X11_facing : xm_okM lw_tbl vwCl xm_TX xm_P mm_X11_facing = true := by decide +kernel
set_option maxRecDepth 100000 in
theorem oc_X11_facing : Cond.code yX11_facing cX11_facing 1 (some .int) ∈ lw_tbl := List.mem_of_getElem? (i := 1626) rfl
set_option maxRecDepth 100000 in
theorem ok_X11_hemming : xm_okM lw_tbl vwCl xm_TX xm_P mm_X11_hemming = true := by decide +kernel
set_option maxRecDepth 100000 in
theorem oc_X11_hemming : Cond.code yX11_hemming cX11_hemming 1 (some .int) ∈ lw_tbl := List.mem_of_getElem? (i := 1633) rfl
set_option maxRecDepth 100000 in
theorem ok_X11_state_ : xm_okM lw_tbl vwCl xm_TX xm_P mm_X11_state_ = true := by decide +kernel
set_option maxRecDepth 100000 in
theorem oc_X11_state_ : Cond.code yX11_state_ cX11_state_ 2 (some .int) ∈ lw_tbl := List.mem_of_getElem? (i := 1642) rfl
set_option maxRecDepth 100000 in
theorem ok_X11_isLinen : xm_okM lw_tbl vwCl xm_TX xm_P mm_X11_isLinen = true := by decide +kernel
set_option maxRecDepth 100000 in
theorem oc_X11_isLinen : Cond.code yX11_isLinen cX11_isLinen 1 (some .boolean) ∈ lw_tbl := List.mem_of_getElem? (i := 1646) rfl
set_option maxRecDepth 100000 in
theorem ok_X11_isOfState : xm_okM lw_tbl vwCl xm_TX xm_P mm_X11_isOfState = true := by decide +kernel
set_option maxRecDepth 100000 in
theorem oc_X11_isOfState : Cond.code yX11_isOfState cX11_isOfState 1 (some .boolean) ∈ lw_tbl := List.mem_of_getElem? (i := 1649) rfl
set_option maxRecDepth 100000 in
theorem ok_X11_now : xm_okM lw_tbl vwCl xm_TX xm_P mm_X11_now = true := by decide +kernel
set_option maxRecDepth 100000 in
theorem oc_X11_now : Cond.code yX11_now cX11_now 3 (some .int) ∈ lw_tbl := List.mem_of_getElem? (i := 1654) rfl
set_option maxRecDepth 100000 in
theorem ok_X11_asTold : xm_okM lw_tbl vwCl xm_TX xm_P mm_X11_asTold = true := by decide +kernel
set_option maxRecDepth 100000 in
theorem oc_X11_asTold : Cond.code yX11_asTold cX11_asTold 1 none ∈ lw_tbl := List.mem_of_getElem? (i := 1658) rfl
set_option maxRecDepth 100000 in
theorem ok_X11_firstState : xm_okM lw_tbl vwCl xm_TX xm_P mm_X11_firstState = true := by decide +kernel
set_option maxRecDepth 100000 in
theorem oc_X11_firstState : Cond.code yX11_firstState cX11_firstState 1 (some .int) ∈ lw_tbl := List.mem_of_getElem? (i := 1662) rfl
set_option maxRecDepth 100000 in
theorem ok_X11_state : xm_okM lw_tbl vwCl xm_TX xm_P mm_X11_state = true := by decide +kernel
set_option maxRecDepth 100000 in
theorem oc_X11_state : Cond.code yX11_state cX11_state 5 (some .int) ∈ lw_tbl := List.mem_of_getElem? (i := 1665) rfl
set_option maxRecDepth 100000 in
theorem ok_X11_done : xm_okM lw_tbl vwCl xm_TX xm_P mm_X11_done = true := by decide +kernel
set_option maxRecDepth 100000 in
theorem oc_X11_done : Cond.code yX11_done cX11_done 5 (some .int) ∈ lw_tbl := List.mem_of_getElem? (i := 1669) rfl
set_option maxRecDepth 100000 in
theorem ok_X11_moved : xm_okM lw_tbl vwCl xm_TX xm_P mm_X11_moved = true := by decide +kernel
set_option maxRecDepth 100000 in
theorem oc_X11_moved : Cond.code yX11_moved cX11_moved 8 (some .int) ∈ lw_tbl := List.mem_of_getElem? (i := 1673) rfl
