/-! the law's code, row by row -/
set_option maxRecDepth 100000 in
theorem ckL_15 : ((pgL_law.drop 375).take 25).all (chkE code pgL_law [] [] 4 (some .boolean) true) = true := by decide +kernel
set_option maxRecDepth 100000 in
theorem ckL_16 : ((pgL_law.drop 400).take 25).all (chkE code pgL_law [] [] 4 (some .boolean) true) = true := by decide +kernel
set_option maxRecDepth 100000 in
theorem ckL_17 : ((pgL_law.drop 425).take 25).all (chkE code pgL_law [] [] 4 (some .boolean) true) = true := by decide +kernel
set_option maxRecDepth 100000 in
theorem ckL_18 : ((pgL_law.drop 450).take 25).all (chkE code pgL_law [] [] 4 (some .boolean) true) = true := by decide +kernel
set_option maxRecDepth 100000 in
theorem ckL_19 : ((pgL_law.drop 475).take 25).all (chkE code pgL_law [] [] 4 (some .boolean) true) = true := by decide +kernel
