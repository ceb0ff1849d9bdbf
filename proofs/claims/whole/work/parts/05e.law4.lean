set_option maxRecDepth 100000 in
theorem law_ok18 : (((co_law.zipIdx.drop 900).take 50).all (fun q => xm_okI lw_tbl vwCl xm_TX xm_P "SheetByTwoLaw" code (some .boolean) co_law q.1 q.2)) = true := by decide +kernel
set_option maxRecDepth 100000 in
theorem law_ok19 : (((co_law.zipIdx.drop 950).take 50).all (fun q => xm_okI lw_tbl vwCl xm_TX xm_P "SheetByTwoLaw" code (some .boolean) co_law q.1 q.2)) = true := by decide +kernel
set_option maxRecDepth 100000 in
theorem law_ok20 : (((co_law.zipIdx.drop 1000).take 50).all (fun q => xm_okI lw_tbl vwCl xm_TX xm_P "SheetByTwoLaw" code (some .boolean) co_law q.1 q.2)) = true := by decide +kernel
set_option maxRecDepth 100000 in
theorem law_ok21 : (((co_law.zipIdx.drop 1050).take 50).all (fun q => xm_okI lw_tbl vwCl xm_TX xm_P "SheetByTwoLaw" code (some .boolean) co_law q.1 q.2)) = true := by decide +kernel
set_option maxRecDepth 100000 in
theorem law_ok22 : (((co_law.zipIdx.drop 1100).take 50).all (fun q => xm_okI lw_tbl vwCl xm_TX xm_P "SheetByTwoLaw" code (some .boolean) co_law q.1 q.2)) = true := by decide +kernel
