/-! the law's code, row by row -/
set_option maxRecDepth 100000 in
theorem ckL_30 : ((pgL_law.drop 750).take 25).all (chkE code pgL_law [] [] 4 (some .boolean) true) = true := by decide +kernel
theorem all_dt {α : Type} {f : α → Bool} {l : List α} {a k : Nat} (h1 : ((l.drop a).take k).all f = true) (h2 : (l.drop (a + k)).all f = true) : (l.drop a).all f = true := by
  rw [← List.take_append_drop k (l.drop a), List.all_append, h1, List.drop_drop, h2]
  rfl
theorem cdL_31 : (pgL_law.drop 775).all (chkE code pgL_law [] [] 4 (some .boolean) true) = true := by rw [List.drop_eq_nil_of_le (by decide +kernel)]; rfl
theorem cdL_30 : (pgL_law.drop 750).all (chkE code pgL_law [] [] 4 (some .boolean) true) = true := all_dt (l := pgL_law) (a := 750) (k := 25) ckL_30 cdL_31
theorem cdL_29 : (pgL_law.drop 725).all (chkE code pgL_law [] [] 4 (some .boolean) true) = true := all_dt (l := pgL_law) (a := 725) (k := 25) ckL_29 cdL_30
theorem cdL_28 : (pgL_law.drop 700).all (chkE code pgL_law [] [] 4 (some .boolean) true) = true := all_dt (l := pgL_law) (a := 700) (k := 25) ckL_28 cdL_29
theorem cdL_27 : (pgL_law.drop 675).all (chkE code pgL_law [] [] 4 (some .boolean) true) = true := all_dt (l := pgL_law) (a := 675) (k := 25) ckL_27 cdL_28
theorem cdL_26 : (pgL_law.drop 650).all (chkE code pgL_law [] [] 4 (some .boolean) true) = true := all_dt (l := pgL_law) (a := 650) (k := 25) ckL_26 cdL_27
theorem cdL_25 : (pgL_law.drop 625).all (chkE code pgL_law [] [] 4 (some .boolean) true) = true := all_dt (l := pgL_law) (a := 625) (k := 25) ckL_25 cdL_26
theorem cdL_24 : (pgL_law.drop 600).all (chkE code pgL_law [] [] 4 (some .boolean) true) = true := all_dt (l := pgL_law) (a := 600) (k := 25) ckL_24 cdL_25
theorem cdL_23 : (pgL_law.drop 575).all (chkE code pgL_law [] [] 4 (some .boolean) true) = true := all_dt (l := pgL_law) (a := 575) (k := 25) ckL_23 cdL_24
theorem cdL_22 : (pgL_law.drop 550).all (chkE code pgL_law [] [] 4 (some .boolean) true) = true := all_dt (l := pgL_law) (a := 550) (k := 25) ckL_22 cdL_23
theorem cdL_21 : (pgL_law.drop 525).all (chkE code pgL_law [] [] 4 (some .boolean) true) = true := all_dt (l := pgL_law) (a := 525) (k := 25) ckL_21 cdL_22
theorem cdL_20 : (pgL_law.drop 500).all (chkE code pgL_law [] [] 4 (some .boolean) true) = true := all_dt (l := pgL_law) (a := 500) (k := 25) ckL_20 cdL_21
theorem cdL_19 : (pgL_law.drop 475).all (chkE code pgL_law [] [] 4 (some .boolean) true) = true := all_dt (l := pgL_law) (a := 475) (k := 25) ckL_19 cdL_20
theorem cdL_18 : (pgL_law.drop 450).all (chkE code pgL_law [] [] 4 (some .boolean) true) = true := all_dt (l := pgL_law) (a := 450) (k := 25) ckL_18 cdL_19
theorem cdL_17 : (pgL_law.drop 425).all (chkE code pgL_law [] [] 4 (some .boolean) true) = true := all_dt (l := pgL_law) (a := 425) (k := 25) ckL_17 cdL_18
theorem cdL_16 : (pgL_law.drop 400).all (chkE code pgL_law [] [] 4 (some .boolean) true) = true := all_dt (l := pgL_law) (a := 400) (k := 25) ckL_16 cdL_17
theorem cdL_15 : (pgL_law.drop 375).all (chkE code pgL_law [] [] 4 (some .boolean) true) = true := all_dt (l := pgL_law) (a := 375) (k := 25) ckL_15 cdL_16
theorem cdL_14 : (pgL_law.drop 350).all (chkE code pgL_law [] [] 4 (some .boolean) true) = true := all_dt (l := pgL_law) (a := 350) (k := 25) ckL_14 cdL_15
theorem cdL_13 : (pgL_law.drop 325).all (chkE code pgL_law [] [] 4 (some .boolean) true) = true := all_dt (l := pgL_law) (a := 325) (k := 25) ckL_13 cdL_14
theorem cdL_12 : (pgL_law.drop 300).all (chkE code pgL_law [] [] 4 (some .boolean) true) = true := all_dt (l := pgL_law) (a := 300) (k := 25) ckL_12 cdL_13
theorem cdL_11 : (pgL_law.drop 275).all (chkE code pgL_law [] [] 4 (some .boolean) true) = true := all_dt (l := pgL_law) (a := 275) (k := 25) ckL_11 cdL_12
theorem cdL_10 : (pgL_law.drop 250).all (chkE code pgL_law [] [] 4 (some .boolean) true) = true := all_dt (l := pgL_law) (a := 250) (k := 25) ckL_10 cdL_11
theorem cdL_9 : (pgL_law.drop 225).all (chkE code pgL_law [] [] 4 (some .boolean) true) = true := all_dt (l := pgL_law) (a := 225) (k := 25) ckL_9 cdL_10
theorem cdL_8 : (pgL_law.drop 200).all (chkE code pgL_law [] [] 4 (some .boolean) true) = true := all_dt (l := pgL_law) (a := 200) (k := 25) ckL_8 cdL_9
theorem cdL_7 : (pgL_law.drop 175).all (chkE code pgL_law [] [] 4 (some .boolean) true) = true := all_dt (l := pgL_law) (a := 175) (k := 25) ckL_7 cdL_8
theorem cdL_6 : (pgL_law.drop 150).all (chkE code pgL_law [] [] 4 (some .boolean) true) = true := all_dt (l := pgL_law) (a := 150) (k := 25) ckL_6 cdL_7
theorem cdL_5 : (pgL_law.drop 125).all (chkE code pgL_law [] [] 4 (some .boolean) true) = true := all_dt (l := pgL_law) (a := 125) (k := 25) ckL_5 cdL_6
theorem cdL_4 : (pgL_law.drop 100).all (chkE code pgL_law [] [] 4 (some .boolean) true) = true := all_dt (l := pgL_law) (a := 100) (k := 25) ckL_4 cdL_5
theorem cdL_3 : (pgL_law.drop 75).all (chkE code pgL_law [] [] 4 (some .boolean) true) = true := all_dt (l := pgL_law) (a := 75) (k := 25) ckL_3 cdL_4
theorem cdL_2 : (pgL_law.drop 50).all (chkE code pgL_law [] [] 4 (some .boolean) true) = true := all_dt (l := pgL_law) (a := 50) (k := 25) ckL_2 cdL_3
theorem cdL_1 : (pgL_law.drop 25).all (chkE code pgL_law [] [] 4 (some .boolean) true) = true := all_dt (l := pgL_law) (a := 25) (k := 25) ckL_1 cdL_2
theorem cdL_0 : (pgL_law.drop 0).all (chkE code pgL_law [] [] 4 (some .boolean) true) = true := all_dt (l := pgL_law) (a := 0) (k := 25) ckL_0 cdL_1
theorem chkLaw : pgL_law.all (chkE code pgL_law [] [] 4 (some .boolean) true) = true := by
  have h := cdL_0
  rw [List.drop_zero] at h
  exact h
