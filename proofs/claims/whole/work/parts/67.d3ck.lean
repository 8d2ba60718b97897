/-! the law's code, row by row -/
set_option maxRecDepth 100000 in
theorem ckL_10 : ((pgL_law.drop 250).take 25).all (chkE code pgL_law [] [] 4 (some .boolean) true) = true := by decide +kernel
set_option maxRecDepth 100000 in
theorem ckL_11 : ((pgL_law.drop 275).take 25).all (chkE code pgL_law [] [] 4 (some .boolean) true) = true := by decide +kernel
set_option maxRecDepth 100000 in
theorem ckL_12 : ((pgL_law.drop 300).take 25).all (chkE code pgL_law [] [] 4 (some .boolean) true) = true := by decide +kernel
set_option maxRecDepth 100000 in
theorem ckL_13 : ((pgL_law.drop 325).take 25).all (chkE code pgL_law [] [] 4 (some .boolean) true) = true := by decide +kernel
set_option maxRecDepth 100000 in
theorem ckL_14 : ((pgL_law.drop 350).take 25).all (chkE code pgL_law [] [] 4 (some .boolean) true) = true := by decide +kernel
