set_option maxRecDepth 100000 in
theorem law_ok6 : (((co_law.zipIdx.drop 300).take 50).all (fun q => xm_okI lw_tbl vwCl xm_TX xm_P "SheetByTwoLaw" code (some .boolean) co_law q.1 q.2)) = true := by decide +kernel
set_option maxRecDepth 100000 in
theorem law_ok7 : (((co_law.zipIdx.drop 350).take 50).all (fun q => xm_okI lw_tbl vwCl xm_TX xm_P "SheetByTwoLaw" code (some .boolean) co_law q.1 q.2)) = true := by decide +kernel
set_option maxRecDepth 100000 in
theorem law_ok8 : (((co_law.zipIdx.drop 400).take 50).all (fun q => xm_okI lw_tbl vwCl xm_TX xm_P "SheetByTwoLaw" code (some .boolean) co_law q.1 q.2)) = true := by decide +kernel
set_option maxRecDepth 100000 in
theorem law_ok9 : (((co_law.zipIdx.drop 450).take 50).all (fun q => xm_okI lw_tbl vwCl xm_TX xm_P "SheetByTwoLaw" code (some .boolean) co_law q.1 q.2)) = true := by decide +kernel
set_option maxRecDepth 100000 in
theorem law_ok10 : (((co_law.zipIdx.drop 500).take 50).all (fun q => xm_okI lw_tbl vwCl xm_TX xm_P "SheetByTwoLaw" code (some .boolean) co_law q.1 q.2)) = true := by decide +kernel
set_option maxRecDepth 100000 in
theorem law_ok11 : (((co_law.zipIdx.drop 550).take 50).all (fun q => xm_okI lw_tbl vwCl xm_TX xm_P "SheetByTwoLaw" code (some .boolean) co_law q.1 q.2)) = true := by decide +kernel
