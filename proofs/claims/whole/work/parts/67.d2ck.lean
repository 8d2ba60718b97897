/-! the law's code, row by row -/
set_option maxRecDepth 100000 in
theorem ckL_5 : ((pgL_law.drop 125).take 25).all (chkE code pgL_law [] [] 4 (some .boolean) true) = true := by decide +kernel
set_option maxRecDepth 100000 in
theorem ckL_6 : ((pgL_law.drop 150).take 25).all (chkE code pgL_law [] [] 4 (some .boolean) true) = true := by decide +kernel
set_option maxRecDepth 100000 in
theorem ckL_7 : ((pgL_law.drop 175).take 25).all (chkE code pgL_law [] [] 4 (some .boolean) true) = true := by decide +kernel
set_option maxRecDepth 100000 in
theorem ckL_8 : ((pgL_law.drop 200).take 25).all (chkE code pgL_law [] [] 4 (some .boolean) true) = true := by decide +kernel
set_option maxRecDepth 100000 in
theorem ckL_9 : ((pgL_law.drop 225).take 25).all (chkE code pgL_law [] [] 4 (some .boolean) true) = true := by decide +kernel
