set_option maxRecDepth 100000 in
theorem law_ok12 : (((co_law.zipIdx.drop 600).take 50).all (fun q => xm_okI lw_tbl vwCl xm_TX xm_P "SheetByTwoLaw" code (some .boolean) co_law q.1 q.2)) = true := by decide +kernel
set_option maxRecDepth 100000 in
theorem law_ok13 : (((co_law.zipIdx.drop 650).take 50).all (fun q => xm_okI lw_tbl vwCl xm_TX xm_P "SheetByTwoLaw" code (some .boolean) co_law q.1 q.2)) = true := by decide +kernel
set_option maxRecDepth 100000 in
theorem law_ok14 : (((co_law.zipIdx.drop 700).take 50).all (fun q => xm_okI lw_tbl vwCl xm_TX xm_P "SheetByTwoLaw" code (some .boolean) co_law q.1 q.2)) = true := by decide +kernel
set_option maxRecDepth 100000 in
theorem law_ok15 : (((co_law.zipIdx.drop 750).take 50).all (fun q => xm_okI lw_tbl vwCl xm_TX xm_P "SheetByTwoLaw" code (some .boolean) co_law q.1 q.2)) = true := by decide +kernel
set_option maxRecDepth 100000 in
theorem law_ok16 : (((co_law.zipIdx.drop 800).take 50).all (fun q => xm_okI lw_tbl vwCl xm_TX xm_P "SheetByTwoLaw" code (some .boolean) co_law q.1 q.2)) = true := by decide +kernel
set_option maxRecDepth 100000 in
theorem law_ok17 : (((co_law.zipIdx.drop 850).take 50).all (fun q => xm_okI lw_tbl vwCl xm_TX xm_P "SheetByTwoLaw" code (some .boolean) co_law q.1 q.2)) = true := by decide +kernel
