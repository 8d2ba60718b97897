/-! the law's code, row by row -/
set_option maxRecDepth 100000 in
theorem ckL_25 : ((pgL_law.drop 625).take 25).all (chkE code pgL_law [] [] 4 (some .boolean) true) = true := by decide +kernel
set_option maxRecDepth 100000 in
theorem ckL_26 : ((pgL_law.drop 650).take 25).all (chkE code pgL_law [] [] 4 (some .boolean) true) = true := by decide +kernel
set_option maxRecDepth 100000 in
theorem ckL_27 : ((pgL_law.drop 675).take 25).all (chkE code pgL_law [] [] 4 (some .boolean) true) = true := by decide +kernel
set_option maxRecDepth 100000 in
theorem ckL_28 : ((pgL_law.drop 700).take 25).all (chkE code pgL_law [] [] 4 (some .boolean) true) = true := by decide +kernel
set_option maxRecDepth 100000 in
theorem ckL_29 : ((pgL_law.drop 725).take 25).all (chkE code pgL_law [] [] 4 (some .boolean) true) = true := by decide +kernel
