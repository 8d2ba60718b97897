/-! the law's code, row by row -/
set_option maxRecDepth 100000 in
theorem ckL_0 : ((pgL_law.drop 0).take 25).all (chkE code pgL_law [] [] 4 (some .boolean) true) = true := by decide +kernel
set_option maxRecDepth 100000 in
theorem ckL_1 : ((pgL_law.drop 25).take 25).all (chkE code pgL_law [] [] 4 (some .boolean) true) = true := by decide +kernel
set_option maxRecDepth 100000 in
theorem ckL_2 : ((pgL_law.drop 50).take 25).all (chkE code pgL_law [] [] 4 (some .boolean) true) = true := by decide +kernel
set_option maxRecDepth 100000 in
theorem ckL_3 : ((pgL_law.drop 75).take 25).all (chkE code pgL_law [] [] 4 (some .boolean) true) = true := by decide +kernel
set_option maxRecDepth 100000 in
theorem ckL_4 : ((pgL_law.drop 100).take 25).all (chkE code pgL_law [] [] 4 (some .boolean) true) = true := by decide +kernel
