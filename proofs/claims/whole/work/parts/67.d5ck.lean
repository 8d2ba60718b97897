/-! the law's code, row by row -/
set_option maxRecDepth 100000 in
theorem ckL_20 : ((pgL_law.drop 500).take 25).all (chkE code pgL_law [] [] 4 (some .boolean) true) = true := by decide +kernel
set_option maxRecDepth 100000 in
theorem ckL_21 : ((pgL_law.drop 525).take 25).all (chkE code pgL_law [] [] 4 (some .boolean) true) = true := by decide +kernel
set_option maxRecDepth 100000 in
theorem ckL_22 : ((pgL_law.drop 550).take 25).all (chkE code pgL_law [] [] 4 (some .boolean) true) = true := by decide +kernel
set_option maxRecDepth 100000 in
theorem ckL_23 : ((pgL_law.drop 575).take 25).all (chkE code pgL_law [] [] 4 (some .boolean) true) = true := by decide +kernel
set_option maxRecDepth 100000 in
theorem ckL_24 : ((pgL_law.drop 600).take 25).all (chkE code pgL_law [] [] 4 (some .boolean) true) = true := by decide +kernel
