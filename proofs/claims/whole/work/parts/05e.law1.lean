set_option maxRecDepth 100000 in
theorem law_ok0 : (((co_law.zipIdx.drop 0).take 50).all (fun q => xm_okI lw_tbl vwCl xm_TX xm_P "SheetByTwoLaw" code (some .boolean) co_law q.1 q.2)) = true := by decide +kernel
set_option maxRecDepth 100000 in
theorem law_ok1 : (((co_law.zipIdx.drop 50).take 50).all (fun q => xm_okI lw_tbl vwCl xm_TX xm_P "SheetByTwoLaw" code (some .boolean) co_law q.1 q.2)) = true := by decide +kernel
set_option maxRecDepth 100000 in
theorem law_ok2 : (((co_law.zipIdx.drop 100).take 50).all (fun q => xm_okI lw_tbl vwCl xm_TX xm_P "SheetByTwoLaw" code (some .boolean) co_law q.1 q.2)) = true := by decide +kernel
set_option maxRecDepth 100000 in
theorem law_ok3 : (((co_law.zipIdx.drop 150).take 50).all (fun q => xm_okI lw_tbl vwCl xm_TX xm_P "SheetByTwoLaw" code (some .boolean) co_law q.1 q.2)) = true := by decide +kernel
set_option maxRecDepth 100000 in
theorem law_ok4 : (((co_law.zipIdx.drop 200).take 50).all (fun q => xm_okI lw_tbl vwCl xm_TX xm_P "SheetByTwoLaw" code (some .boolean) co_law q.1 q.2)) = true := by decide +kernel
set_option maxRecDepth 100000 in
theorem law_ok5 : (((co_law.zipIdx.drop 250).take 50).all (fun q => xm_okI lw_tbl vwCl xm_TX xm_P "SheetByTwoLaw" code (some .boolean) co_law q.1 q.2)) = true := by decide +kernel
