/-! the law, case by case -/
def roL (L : Nat) (xs : Nat → Int32) : Ro := [(102, L, xs)]
def QL (v : Option Value) (_ : Mem) : Prop := v = some (.int 1)
def csL_law : Cs := [(13, 2, true, spX9_tank), (17, 2, true, spX10_tank), (18, 4, true, spX9_hit), (22, 4, true, spX10_hit), (23, 4, true, spX9_load), (26, 4, true, spX10_load), (27, 3, true, spX9_clock), (31, 3, true, spX10_clock), (32, 3, true, spX9_down), (35, 3, true, spX10_down), (36, 2, true, spX9_about), (39, 2, true, spX10_about), (40, 2, true, spX9_struck), (43, 2, true, spX10_struck), (44, 2, true, spX9_exposure), (48, 2, true, spX10_exposure), (49, 2, true, spX9_rule), (52, 2, true, spX10_rule), (53, 0, true, spX9_build), (57, 0, true, spX10_build), (58, 0, true, spX9_others), (61, 0, true, spX10_others), (62, 1, true, spX9_isOther), (66, 1, true, spX10_isOther), (67, 1, true, spX9_without), (70, 1, true, spX10_without), (71, 2, true, spX9_event), (74, 2, true, spX10_event), (75, 2, true, spX9_member), (78, 2, true, spX10_member), (79, 2, true, spX9_front), (82, 2, true, spX10_front), (83, 2, true, spX9_error), (86, 2, true, spX10_error), (87, 1, true, spX9_worst), (90, 1, true, spX10_worst), (91, 2, true, spX9_core), (94, 2, true, spX10_core), (95, 3, true, spX9_sheet), (98, 3, true, spX10_sheet), (99, 1, true, spX9_drop), (102, 1, true, spX10_drop), (103, 3, true, spX9_put), (106, 3, true, spX10_put), (107, 3, true, spX9_at), (111, 3, true, spX10_at), (112, 1, true, spX9_tell), (115, 1, true, spX10_tell), (116, 1, true, spX9_weigh), (119, 1, true, spX10_weigh), (120, 2, true, spX9_as), (123, 2, true, spX10_as), (124, 0, true, spX9_trace), (127, 0, true, spX10_trace), (128, 0, true, spX9_fault), (131, 0, true, spX10_fault), (132, 1, true, spX9_told), (135, 1, true, spX10_told)]
theorem vL {L i k : Nat} (hi : i + 5 ≤ L) (hk : k < 5) (hL : L ≤ 2560) : vp_in (nI i + nI k) L := by rw [nI_add]; exact inI (by omega) (by omega)
theorem lcmp_self (r : Int64) : lg_cmp r r = 0 := by unfold lg_cmp; simp
set_option maxRecDepth 100000 in
theorem lw_tank {L : Nat} {xs : Nat → Int32} {Ok : Nat → Lv → List Value → Mem → Prop} (hst : ∀ (cut : List Nat) (n k : Nat) (lv : Lv) (st : List Value) (σ : Mem), wps pgL_law (roL L xs) csL_law [] true cut Ok QL n k lv st σ → Ok k lv st σ) {σ : Mem} (h : Inv σ) {i : Nat} (hi : i + 5 ≤ L) (hL : L ≤ 2560) (nx : ∀ σ', Inv σ' → Ok 750 [some (.ref 102), some (.ref 0), some (.ref 42), some (.int (nI i))] [] σ') : Ok 22 [some (.ref 102), some (.ref 0), some (.ref 42), some (.int (nI i))] [] σ := by
  have p := prTank h (xs (rI (nI i + 1))) (xs (rI (nI i + 2)))
  refine hst [750] 80 _ _ _ _ ?_
  refine And.intro (vL hi (k := 1) (by decide) hL) (And.intro (vL hi (k := 2) (by decide) hL) (And.intro (Nat.le_of_ble_eq_true rfl) (mnX9_tank _ _ _ _ (fun v σ1 y => ?_) p)))
  obtain ⟨r, rfl, p2⟩ := y
  refine And.intro (vL hi (k := 1) (by decide) hL) (And.intro (vL hi (k := 2) (by decide) hL) (And.intro (Nat.le_of_ble_eq_true rfl) (mnX10_tank _ _ _ _ (fun w σ2 y => ?_) p2)))
  obtain ⟨rfl, hI⟩ := y
  exact br_t rfl (nx σ2 hI)
set_option maxRecDepth 100000 in
theorem lw_hit {L : Nat} {xs : Nat → Int32} {Ok : Nat → Lv → List Value → Mem → Prop} (hst : ∀ (cut : List Nat) (n k : Nat) (lv : Lv) (st : List Value) (σ : Mem), wps pgL_law (roL L xs) csL_law [] true cut Ok QL n k lv st σ → Ok k lv st σ) {σ : Mem} (h : Inv σ) {i : Nat} (hi : i + 5 ≤ L) (hL : L ≤ 2560) (nx : ∀ σ', Inv σ' → Ok 750 [some (.ref 102), some (.ref 0), some (.ref 42), some (.int (nI i))] [] σ') : Ok 49 [some (.ref 102), some (.ref 0), some (.ref 42), some (.int (nI i))] [] σ := by
  have p := prHit h (xs (rI (nI i + 1))) (xs (rI (nI i + 2))) (xs (rI (nI i + 3))) (xs (rI (nI i + 4)))
  refine hst [750] 80 _ _ _ _ ?_
  refine And.intro (vL hi (k := 1) (by decide) hL) (And.intro (vL hi (k := 2) (by decide) hL) (And.intro (vL hi (k := 3) (by decide) hL) (And.intro (vL hi (k := 4) (by decide) hL) (And.intro (Nat.le_of_ble_eq_true rfl) (mnX9_hit _ _ _ _ (fun v σ1 y => ?_) p)))))
  obtain ⟨r, rfl, p2⟩ := y
  refine And.intro (vL hi (k := 1) (by decide) hL) (And.intro (vL hi (k := 2) (by decide) hL) (And.intro (vL hi (k := 3) (by decide) hL) (And.intro (vL hi (k := 4) (by decide) hL) (And.intro (Nat.le_of_ble_eq_true rfl) (mnX10_hit _ _ _ _ (fun w σ2 y => ?_) p2)))))
  obtain ⟨rfl, hI⟩ := y
  exact br_t rfl (nx σ2 hI)
set_option maxRecDepth 100000 in
theorem lw_load {L : Nat} {xs : Nat → Int32} {Ok : Nat → Lv → List Value → Mem → Prop} (hst : ∀ (cut : List Nat) (n k : Nat) (lv : Lv) (st : List Value) (σ : Mem), wps pgL_law (roL L xs) csL_law [] true cut Ok QL n k lv st σ → Ok k lv st σ) {σ : Mem} (h : Inv σ) {i : Nat} (hi : i + 5 ≤ L) (hL : L ≤ 2560) (nx : ∀ σ', Inv σ' → Ok 750 [some (.ref 102), some (.ref 0), some (.ref 42), some (.int (nI i))] [] σ') : Ok 96 [some (.ref 102), some (.ref 0), some (.ref 42), some (.int (nI i))] [] σ := by
  have p := prLoad h (xs (rI (nI i + 1))) (xs (rI (nI i + 2))) (xs (rI (nI i + 3))) (xs (rI (nI i + 4)))
  refine hst [750] 80 _ _ _ _ ?_
  refine And.intro (vL hi (k := 1) (by decide) hL) (And.intro (vL hi (k := 2) (by decide) hL) (And.intro (vL hi (k := 3) (by decide) hL) (And.intro (vL hi (k := 4) (by decide) hL) (And.intro (Nat.le_of_ble_eq_true rfl) (mnX9_load _ _ _ _ (fun v σ1 y => ?_) p)))))
  obtain ⟨r, rfl, p2⟩ := y
  refine And.intro (vL hi (k := 1) (by decide) hL) (And.intro (vL hi (k := 2) (by decide) hL) (And.intro (vL hi (k := 3) (by decide) hL) (And.intro (vL hi (k := 4) (by decide) hL) (And.intro (Nat.le_of_ble_eq_true rfl) (mnX10_load _ _ _ _ (fun w σ2 y => ?_) p2)))))
  obtain ⟨rfl, hI⟩ := y
  exact br_t rfl (nx σ2 hI)
set_option maxRecDepth 100000 in
theorem lw_clock {L : Nat} {xs : Nat → Int32} {Ok : Nat → Lv → List Value → Mem → Prop} (hst : ∀ (cut : List Nat) (n k : Nat) (lv : Lv) (st : List Value) (σ : Mem), wps pgL_law (roL L xs) csL_law [] true cut Ok QL n k lv st σ → Ok k lv st σ) {σ : Mem} (h : Inv σ) {i : Nat} (hi : i + 5 ≤ L) (hL : L ≤ 2560) (nx : ∀ σ', Inv σ' → Ok 750 [some (.ref 102), some (.ref 0), some (.ref 42), some (.int (nI i))] [] σ') : Ok 143 [some (.ref 102), some (.ref 0), some (.ref 42), some (.int (nI i))] [] σ := by
  have p := prClock h (xs (rI (nI i + 1))) (xs (rI (nI i + 2))) (xs (rI (nI i + 3)))
  refine hst [750] 80 _ _ _ _ ?_
  refine And.intro (vL hi (k := 1) (by decide) hL) (And.intro (vL hi (k := 2) (by decide) hL) (And.intro (vL hi (k := 3) (by decide) hL) (And.intro (Nat.le_of_ble_eq_true rfl) (mnX9_clock _ _ _ _ (fun v σ1 y => ?_) p))))
  obtain ⟨r, rfl, p2⟩ := y
  refine And.intro (vL hi (k := 1) (by decide) hL) (And.intro (vL hi (k := 2) (by decide) hL) (And.intro (vL hi (k := 3) (by decide) hL) (And.intro (Nat.le_of_ble_eq_true rfl) (mnX10_clock _ _ _ _ (fun w σ2 y => ?_) p2))))
  obtain ⟨rfl, hI⟩ := y
  exact br_t rfl (nx σ2 hI)
set_option maxRecDepth 100000 in
theorem lw_down {L : Nat} {xs : Nat → Int32} {Ok : Nat → Lv → List Value → Mem → Prop} (hst : ∀ (cut : List Nat) (n k : Nat) (lv : Lv) (st : List Value) (σ : Mem), wps pgL_law (roL L xs) csL_law [] true cut Ok QL n k lv st σ → Ok k lv st σ) {σ : Mem} (h : Inv σ) {i : Nat} (hi : i + 5 ≤ L) (hL : L ≤ 2560) (nx : ∀ σ', Inv σ' → Ok 750 [some (.ref 102), some (.ref 0), some (.ref 42), some (.int (nI i))] [] σ') : Ok 180 [some (.ref 102), some (.ref 0), some (.ref 42), some (.int (nI i))] [] σ := by
  have p := prDown h (xs (rI (nI i + 1))) (xs (rI (nI i + 2))) (xs (rI (nI i + 3)))
  refine hst [750] 80 _ _ _ _ ?_
  refine And.intro (vL hi (k := 1) (by decide) hL) (And.intro (vL hi (k := 2) (by decide) hL) (And.intro (vL hi (k := 3) (by decide) hL) (And.intro (Nat.le_of_ble_eq_true rfl) (mnX9_down _ _ _ _ (fun v σ1 y => ?_) p))))
  obtain ⟨r, rfl, p2⟩ := y
  refine And.intro (vL hi (k := 1) (by decide) hL) (And.intro (vL hi (k := 2) (by decide) hL) (And.intro (vL hi (k := 3) (by decide) hL) (And.intro (Nat.le_of_ble_eq_true rfl) (mnX10_down _ _ _ _ (fun w σ2 y => ?_) p2))))
  obtain ⟨rfl, hI⟩ := y
  exact br_t rfl (nx σ2 hI)
set_option maxRecDepth 100000 in
theorem lw_about {L : Nat} {xs : Nat → Int32} {Ok : Nat → Lv → List Value → Mem → Prop} (hst : ∀ (cut : List Nat) (n k : Nat) (lv : Lv) (st : List Value) (σ : Mem), wps pgL_law (roL L xs) csL_law [] true cut Ok QL n k lv st σ → Ok k lv st σ) {σ : Mem} (h : Inv σ) {i : Nat} (hi : i + 5 ≤ L) (hL : L ≤ 2560) (nx : ∀ σ', Inv σ' → Ok 750 [some (.ref 102), some (.ref 0), some (.ref 42), some (.int (nI i))] [] σ') : Ok 217 [some (.ref 102), some (.ref 0), some (.ref 42), some (.int (nI i))] [] σ := by
  have p := prAbout h (xs (rI (nI i + 1))) (xs (rI (nI i + 2)))
  refine hst [750] 80 _ _ _ _ ?_
  refine And.intro (vL hi (k := 1) (by decide) hL) (And.intro (vL hi (k := 2) (by decide) hL) (And.intro (Nat.le_of_ble_eq_true rfl) (mnX9_about _ _ _ _ (fun v σ1 y => ?_) p)))
  obtain ⟨r, rfl, p2⟩ := y
  refine And.intro (vL hi (k := 1) (by decide) hL) (And.intro (vL hi (k := 2) (by decide) hL) (And.intro (Nat.le_of_ble_eq_true rfl) (mnX10_about _ _ _ _ (fun w σ2 y => ?_) p2)))
  obtain ⟨rfl, hI⟩ := y
  exact br_t rfl (nx σ2 hI)
set_option maxRecDepth 100000 in
theorem lw_struck {L : Nat} {xs : Nat → Int32} {Ok : Nat → Lv → List Value → Mem → Prop} (hst : ∀ (cut : List Nat) (n k : Nat) (lv : Lv) (st : List Value) (σ : Mem), wps pgL_law (roL L xs) csL_law [] true cut Ok QL n k lv st σ → Ok k lv st σ) {σ : Mem} (h : Inv σ) {i : Nat} (hi : i + 5 ≤ L) (hL : L ≤ 2560) (nx : ∀ σ', Inv σ' → Ok 750 [some (.ref 102), some (.ref 0), some (.ref 42), some (.int (nI i))] [] σ') : Ok 244 [some (.ref 102), some (.ref 0), some (.ref 42), some (.int (nI i))] [] σ := by
  have p := prStruck h (xs (rI (nI i + 1))) (xs (rI (nI i + 2)))
  refine hst [750] 80 _ _ _ _ ?_
  refine And.intro (vL hi (k := 1) (by decide) hL) (And.intro (vL hi (k := 2) (by decide) hL) (And.intro (Nat.le_of_ble_eq_true rfl) (mnX9_struck _ _ _ _ (fun v σ1 y => ?_) p)))
  obtain ⟨r, rfl, p2⟩ := y
  refine And.intro (vL hi (k := 1) (by decide) hL) (And.intro (vL hi (k := 2) (by decide) hL) (And.intro (Nat.le_of_ble_eq_true rfl) (mnX10_struck _ _ _ _ (fun w σ2 y => ?_) p2)))
  obtain ⟨rfl, hI⟩ := y
  exact br_t rfl (nx σ2 hI)
set_option maxRecDepth 100000 in
theorem lw_exposure {L : Nat} {xs : Nat → Int32} {Ok : Nat → Lv → List Value → Mem → Prop} (hst : ∀ (cut : List Nat) (n k : Nat) (lv : Lv) (st : List Value) (σ : Mem), wps pgL_law (roL L xs) csL_law [] true cut Ok QL n k lv st σ → Ok k lv st σ) {σ : Mem} (h : Inv σ) {i : Nat} (hi : i + 5 ≤ L) (hL : L ≤ 2560) (nx : ∀ σ', Inv σ' → Ok 750 [some (.ref 102), some (.ref 0), some (.ref 42), some (.int (nI i))] [] σ') : Ok 271 [some (.ref 102), some (.ref 0), some (.ref 42), some (.int (nI i))] [] σ := by
  have p := prExposure h (xs (rI (nI i + 1))) (xs (rI (nI i + 2)))
  refine hst [750] 80 _ _ _ _ ?_
  refine And.intro (vL hi (k := 1) (by decide) hL) (And.intro (vL hi (k := 2) (by decide) hL) (And.intro (Nat.le_of_ble_eq_true rfl) (mnX9_exposure _ _ _ _ (fun v σ1 y => ?_) p)))
  obtain ⟨r, rfl, p2⟩ := y
  refine And.intro (vL hi (k := 1) (by decide) hL) (And.intro (vL hi (k := 2) (by decide) hL) (And.intro (Nat.le_of_ble_eq_true rfl) (mnX10_exposure _ _ _ _ (fun w σ2 y => ?_) p2)))
  obtain ⟨rfl, hI⟩ := y
  exact br_t (lcmp_self r) (nx σ2 hI)
set_option maxRecDepth 100000 in
theorem lw_rule {L : Nat} {xs : Nat → Int32} {Ok : Nat → Lv → List Value → Mem → Prop} (hst : ∀ (cut : List Nat) (n k : Nat) (lv : Lv) (st : List Value) (σ : Mem), wps pgL_law (roL L xs) csL_law [] true cut Ok QL n k lv st σ → Ok k lv st σ) {σ : Mem} (h : Inv σ) {i : Nat} (hi : i + 5 ≤ L) (hL : L ≤ 2560) (nx : ∀ σ', Inv σ' → Ok 750 [some (.ref 102), some (.ref 0), some (.ref 42), some (.int (nI i))] [] σ') : Ok 299 [some (.ref 102), some (.ref 0), some (.ref 42), some (.int (nI i))] [] σ := by
  have p := prRule h (xs (rI (nI i + 1))) (xs (rI (nI i + 2)))
  refine hst [750] 80 _ _ _ _ ?_
  refine And.intro (vL hi (k := 1) (by decide) hL) (And.intro (vL hi (k := 2) (by decide) hL) (And.intro (Nat.le_of_ble_eq_true rfl) (mnX9_rule _ _ _ _ (fun v σ1 y => ?_) p)))
  obtain ⟨r, rfl, p2⟩ := y
  refine And.intro (vL hi (k := 1) (by decide) hL) (And.intro (vL hi (k := 2) (by decide) hL) (And.intro (Nat.le_of_ble_eq_true rfl) (mnX10_rule _ _ _ _ (fun w σ2 y => ?_) p2)))
  obtain ⟨rfl, hI⟩ := y
  exact br_t rfl (nx σ2 hI)
set_option maxRecDepth 100000 in
theorem lw_build {L : Nat} {xs : Nat → Int32} {Ok : Nat → Lv → List Value → Mem → Prop} (hst : ∀ (cut : List Nat) (n k : Nat) (lv : Lv) (st : List Value) (σ : Mem), wps pgL_law (roL L xs) csL_law [] true cut Ok QL n k lv st σ → Ok k lv st σ) {σ : Mem} (h : Inv σ) {i : Nat} (hi : i + 5 ≤ L) (hL : L ≤ 2560) (nx : ∀ σ', Inv σ' → Ok 750 [some (.ref 102), some (.ref 0), some (.ref 42), some (.int (nI i))] [] σ') : Ok 326 [some (.ref 102), some (.ref 0), some (.ref 42), some (.int (nI i))] [] σ := by
  have p := prBuild h 
  refine hst [750] 80 _ _ _ _ ?_
  refine And.intro (Nat.le_of_ble_eq_true rfl) (mnX9_build _ _ _ _ (fun v σ1 y => ?_) p)
  obtain ⟨r, rfl, p2⟩ := y
  refine And.intro (Nat.le_of_ble_eq_true rfl) (mnX10_build _ _ _ _ (fun w σ2 y => ?_) p2)
  obtain ⟨rfl, hI⟩ := y
  exact br_t rfl (nx σ2 hI)
set_option maxRecDepth 100000 in
theorem lw_others {L : Nat} {xs : Nat → Int32} {Ok : Nat → Lv → List Value → Mem → Prop} (hst : ∀ (cut : List Nat) (n k : Nat) (lv : Lv) (st : List Value) (σ : Mem), wps pgL_law (roL L xs) csL_law [] true cut Ok QL n k lv st σ → Ok k lv st σ) {σ : Mem} (h : Inv σ) {i : Nat} (hi : i + 5 ≤ L) (hL : L ≤ 2560) (nx : ∀ σ', Inv σ' → Ok 750 [some (.ref 102), some (.ref 0), some (.ref 42), some (.int (nI i))] [] σ') : Ok 333 [some (.ref 102), some (.ref 0), some (.ref 42), some (.int (nI i))] [] σ := by
  have p := prOthers h 
  refine hst [750] 80 _ _ _ _ ?_
  refine And.intro (Nat.le_of_ble_eq_true rfl) (mnX9_others _ _ _ _ (fun v σ1 y => ?_) p)
  obtain ⟨r, rfl, p2⟩ := y
  refine And.intro (Nat.le_of_ble_eq_true rfl) (mnX10_others _ _ _ _ (fun w σ2 y => ?_) p2)
  obtain ⟨rfl, hI⟩ := y
  exact br_t rfl (nx σ2 hI)
set_option maxRecDepth 100000 in
theorem lw_isOther {L : Nat} {xs : Nat → Int32} {Ok : Nat → Lv → List Value → Mem → Prop} (hst : ∀ (cut : List Nat) (n k : Nat) (lv : Lv) (st : List Value) (σ : Mem), wps pgL_law (roL L xs) csL_law [] true cut Ok QL n k lv st σ → Ok k lv st σ) {σ : Mem} (h : Inv σ) {i : Nat} (hi : i + 5 ≤ L) (hL : L ≤ 2560) (nx : ∀ σ', Inv σ' → Ok 750 [some (.ref 102), some (.ref 0), some (.ref 42), some (.int (nI i))] [] σ') : Ok 340 [some (.ref 102), some (.ref 0), some (.ref 42), some (.int (nI i))] [] σ := by
  have p := prIsOther h (xs (rI (nI i + 1)))
  refine hst [750] 80 _ _ _ _ ?_
  refine And.intro (vL hi (k := 1) (by decide) hL) (And.intro (Nat.le_of_ble_eq_true rfl) (mnX9_isOther _ _ _ _ (fun v σ1 y => ?_) p))
  obtain ⟨r, rfl, p2⟩ := y
  refine And.intro (vL hi (k := 1) (by decide) hL) (And.intro (Nat.le_of_ble_eq_true rfl) (mnX10_isOther _ _ _ _ (fun w σ2 y => ?_) p2))
  obtain ⟨rfl, hI⟩ := y
  exact br_t rfl (nx σ2 hI)
set_option maxRecDepth 100000 in
theorem lw_without {L : Nat} {xs : Nat → Int32} {Ok : Nat → Lv → List Value → Mem → Prop} (hst : ∀ (cut : List Nat) (n k : Nat) (lv : Lv) (st : List Value) (σ : Mem), wps pgL_law (roL L xs) csL_law [] true cut Ok QL n k lv st σ → Ok k lv st σ) {σ : Mem} (h : Inv σ) {i : Nat} (hi : i + 5 ≤ L) (hL : L ≤ 2560) (nx : ∀ σ', Inv σ' → Ok 750 [some (.ref 102), some (.ref 0), some (.ref 42), some (.int (nI i))] [] σ') : Ok 357 [some (.ref 102), some (.ref 0), some (.ref 42), some (.int (nI i))] [] σ := by
  have p := prWithout h (xs (rI (nI i + 1)))
  refine hst [750] 80 _ _ _ _ ?_
  refine And.intro (vL hi (k := 1) (by decide) hL) (And.intro (Nat.le_of_ble_eq_true rfl) (mnX9_without _ _ _ _ (fun v σ1 y => ?_) p))
  obtain ⟨r, rfl, p2⟩ := y
  refine And.intro (vL hi (k := 1) (by decide) hL) (And.intro (Nat.le_of_ble_eq_true rfl) (mnX10_without _ _ _ _ (fun w σ2 y => ?_) p2))
  obtain ⟨rfl, hI⟩ := y
  exact br_t rfl (nx σ2 hI)
set_option maxRecDepth 100000 in
theorem lw_event {L : Nat} {xs : Nat → Int32} {Ok : Nat → Lv → List Value → Mem → Prop} (hst : ∀ (cut : List Nat) (n k : Nat) (lv : Lv) (st : List Value) (σ : Mem), wps pgL_law (roL L xs) csL_law [] true cut Ok QL n k lv st σ → Ok k lv st σ) {σ : Mem} (h : Inv σ) {i : Nat} (hi : i + 5 ≤ L) (hL : L ≤ 2560) (nx : ∀ σ', Inv σ' → Ok 750 [some (.ref 102), some (.ref 0), some (.ref 42), some (.int (nI i))] [] σ') : Ok 374 [some (.ref 102), some (.ref 0), some (.ref 42), some (.int (nI i))] [] σ := by
  have p := prEvent h (xs (rI (nI i + 1))) (xs (rI (nI i + 2)))
  refine hst [750] 80 _ _ _ _ ?_
  refine And.intro (vL hi (k := 1) (by decide) hL) (And.intro (vL hi (k := 2) (by decide) hL) (And.intro (Nat.le_of_ble_eq_true rfl) (mnX9_event _ _ _ _ (fun v σ1 y => ?_) p)))
  obtain ⟨r, rfl, p2⟩ := y
  refine And.intro (vL hi (k := 1) (by decide) hL) (And.intro (vL hi (k := 2) (by decide) hL) (And.intro (Nat.le_of_ble_eq_true rfl) (mnX10_event _ _ _ _ (fun w σ2 y => ?_) p2)))
  obtain ⟨rfl, hI⟩ := y
  exact br_t rfl (nx σ2 hI)
set_option maxRecDepth 100000 in
theorem lw_member {L : Nat} {xs : Nat → Int32} {Ok : Nat → Lv → List Value → Mem → Prop} (hst : ∀ (cut : List Nat) (n k : Nat) (lv : Lv) (st : List Value) (σ : Mem), wps pgL_law (roL L xs) csL_law [] true cut Ok QL n k lv st σ → Ok k lv st σ) {σ : Mem} (h : Inv σ) {i : Nat} (hi : i + 5 ≤ L) (hL : L ≤ 2560) (nx : ∀ σ', Inv σ' → Ok 750 [some (.ref 102), some (.ref 0), some (.ref 42), some (.int (nI i))] [] σ') : Ok 401 [some (.ref 102), some (.ref 0), some (.ref 42), some (.int (nI i))] [] σ := by
  have p := prMember h (xs (rI (nI i + 1))) (xs (rI (nI i + 2)))
  refine hst [750] 80 _ _ _ _ ?_
  refine And.intro (vL hi (k := 1) (by decide) hL) (And.intro (vL hi (k := 2) (by decide) hL) (And.intro (Nat.le_of_ble_eq_true rfl) (mnX9_member _ _ _ _ (fun v σ1 y => ?_) p)))
  obtain ⟨r, rfl, p2⟩ := y
  refine And.intro (vL hi (k := 1) (by decide) hL) (And.intro (vL hi (k := 2) (by decide) hL) (And.intro (Nat.le_of_ble_eq_true rfl) (mnX10_member _ _ _ _ (fun w σ2 y => ?_) p2)))
  obtain ⟨rfl, hI⟩ := y
  exact br_t rfl (nx σ2 hI)
set_option maxRecDepth 100000 in
theorem lw_front {L : Nat} {xs : Nat → Int32} {Ok : Nat → Lv → List Value → Mem → Prop} (hst : ∀ (cut : List Nat) (n k : Nat) (lv : Lv) (st : List Value) (σ : Mem), wps pgL_law (roL L xs) csL_law [] true cut Ok QL n k lv st σ → Ok k lv st σ) {σ : Mem} (h : Inv σ) {i : Nat} (hi : i + 5 ≤ L) (hL : L ≤ 2560) (nx : ∀ σ', Inv σ' → Ok 750 [some (.ref 102), some (.ref 0), some (.ref 42), some (.int (nI i))] [] σ') : Ok 428 [some (.ref 102), some (.ref 0), some (.ref 42), some (.int (nI i))] [] σ := by
  have p := prFront h (xs (rI (nI i + 1))) (xs (rI (nI i + 2)))
  refine hst [750] 80 _ _ _ _ ?_
  refine And.intro (vL hi (k := 1) (by decide) hL) (And.intro (vL hi (k := 2) (by decide) hL) (And.intro (Nat.le_of_ble_eq_true rfl) (mnX9_front _ _ _ _ (fun v σ1 y => ?_) p)))
  obtain ⟨r, rfl, p2⟩ := y
  refine And.intro (vL hi (k := 1) (by decide) hL) (And.intro (vL hi (k := 2) (by decide) hL) (And.intro (Nat.le_of_ble_eq_true rfl) (mnX10_front _ _ _ _ (fun w σ2 y => ?_) p2)))
  obtain ⟨rfl, hI⟩ := y
  exact br_t (lcmp_self r) (nx σ2 hI)
set_option maxRecDepth 100000 in
theorem lw_error {L : Nat} {xs : Nat → Int32} {Ok : Nat → Lv → List Value → Mem → Prop} (hst : ∀ (cut : List Nat) (n k : Nat) (lv : Lv) (st : List Value) (σ : Mem), wps pgL_law (roL L xs) csL_law [] true cut Ok QL n k lv st σ → Ok k lv st σ) {σ : Mem} (h : Inv σ) {i : Nat} (hi : i + 5 ≤ L) (hL : L ≤ 2560) (nx : ∀ σ', Inv σ' → Ok 750 [some (.ref 102), some (.ref 0), some (.ref 42), some (.int (nI i))] [] σ') : Ok 456 [some (.ref 102), some (.ref 0), some (.ref 42), some (.int (nI i))] [] σ := by
  have p := prError h (xs (rI (nI i + 1))) (xs (rI (nI i + 2)))
  refine hst [750] 80 _ _ _ _ ?_
  refine And.intro (vL hi (k := 1) (by decide) hL) (And.intro (vL hi (k := 2) (by decide) hL) (And.intro (Nat.le_of_ble_eq_true rfl) (mnX9_error _ _ _ _ (fun v σ1 y => ?_) p)))
  obtain ⟨r, rfl, p2⟩ := y
  refine And.intro (vL hi (k := 1) (by decide) hL) (And.intro (vL hi (k := 2) (by decide) hL) (And.intro (Nat.le_of_ble_eq_true rfl) (mnX10_error _ _ _ _ (fun w σ2 y => ?_) p2)))
  obtain ⟨rfl, hI⟩ := y
  exact br_t (lcmp_self r) (nx σ2 hI)
set_option maxRecDepth 100000 in
theorem lw_worst {L : Nat} {xs : Nat → Int32} {Ok : Nat → Lv → List Value → Mem → Prop} (hst : ∀ (cut : List Nat) (n k : Nat) (lv : Lv) (st : List Value) (σ : Mem), wps pgL_law (roL L xs) csL_law [] true cut Ok QL n k lv st σ → Ok k lv st σ) {σ : Mem} (h : Inv σ) {i : Nat} (hi : i + 5 ≤ L) (hL : L ≤ 2560) (nx : ∀ σ', Inv σ' → Ok 750 [some (.ref 102), some (.ref 0), some (.ref 42), some (.int (nI i))] [] σ') : Ok 484 [some (.ref 102), some (.ref 0), some (.ref 42), some (.int (nI i))] [] σ := by
  have p := prWorst h (xs (rI (nI i + 1)))
  refine hst [750] 80 _ _ _ _ ?_
  refine And.intro (vL hi (k := 1) (by decide) hL) (And.intro (Nat.le_of_ble_eq_true rfl) (mnX9_worst _ _ _ _ (fun v σ1 y => ?_) p))
  obtain ⟨r, rfl, p2⟩ := y
  refine And.intro (vL hi (k := 1) (by decide) hL) (And.intro (Nat.le_of_ble_eq_true rfl) (mnX10_worst _ _ _ _ (fun w σ2 y => ?_) p2))
  obtain ⟨rfl, hI⟩ := y
  exact br_t rfl (nx σ2 hI)
set_option maxRecDepth 100000 in
theorem lw_core {L : Nat} {xs : Nat → Int32} {Ok : Nat → Lv → List Value → Mem → Prop} (hst : ∀ (cut : List Nat) (n k : Nat) (lv : Lv) (st : List Value) (σ : Mem), wps pgL_law (roL L xs) csL_law [] true cut Ok QL n k lv st σ → Ok k lv st σ) {σ : Mem} (h : Inv σ) {i : Nat} (hi : i + 5 ≤ L) (hL : L ≤ 2560) (nx : ∀ σ', Inv σ' → Ok 750 [some (.ref 102), some (.ref 0), some (.ref 42), some (.int (nI i))] [] σ') : Ok 501 [some (.ref 102), some (.ref 0), some (.ref 42), some (.int (nI i))] [] σ := by
  have p := prCore h (xs (rI (nI i + 1))) (xs (rI (nI i + 2)))
  refine hst [750] 80 _ _ _ _ ?_
  refine And.intro (vL hi (k := 1) (by decide) hL) (And.intro (vL hi (k := 2) (by decide) hL) (And.intro (Nat.le_of_ble_eq_true rfl) (mnX9_core _ _ _ _ (fun v σ1 y => ?_) p)))
  obtain ⟨r, rfl, p2⟩ := y
  refine And.intro (vL hi (k := 1) (by decide) hL) (And.intro (vL hi (k := 2) (by decide) hL) (And.intro (Nat.le_of_ble_eq_true rfl) (mnX10_core _ _ _ _ (fun w σ2 y => ?_) p2)))
  obtain ⟨rfl, hI⟩ := y
  exact br_t (lcmp_self r) (nx σ2 hI)
set_option maxRecDepth 100000 in
theorem lw_sheet {L : Nat} {xs : Nat → Int32} {Ok : Nat → Lv → List Value → Mem → Prop} (hst : ∀ (cut : List Nat) (n k : Nat) (lv : Lv) (st : List Value) (σ : Mem), wps pgL_law (roL L xs) csL_law [] true cut Ok QL n k lv st σ → Ok k lv st σ) {σ : Mem} (h : Inv σ) {i : Nat} (hi : i + 5 ≤ L) (hL : L ≤ 2560) (nx : ∀ σ', Inv σ' → Ok 750 [some (.ref 102), some (.ref 0), some (.ref 42), some (.int (nI i))] [] σ') : Ok 529 [some (.ref 102), some (.ref 0), some (.ref 42), some (.int (nI i))] [] σ := by
  have p := prSheet h (xs (rI (nI i + 1))) (xs (rI (nI i + 2))) (xs (rI (nI i + 3)))
  refine hst [750] 80 _ _ _ _ ?_
  refine And.intro (vL hi (k := 1) (by decide) hL) (And.intro (vL hi (k := 2) (by decide) hL) (And.intro (vL hi (k := 3) (by decide) hL) (And.intro (Nat.le_of_ble_eq_true rfl) (mnX9_sheet _ _ _ _ (fun v σ1 y => ?_) p))))
  obtain ⟨r, rfl, p2⟩ := y
  refine And.intro (vL hi (k := 1) (by decide) hL) (And.intro (vL hi (k := 2) (by decide) hL) (And.intro (vL hi (k := 3) (by decide) hL) (And.intro (Nat.le_of_ble_eq_true rfl) (mnX10_sheet _ _ _ _ (fun w σ2 y => ?_) p2))))
  obtain ⟨rfl, hI⟩ := y
  exact br_t rfl (nx σ2 hI)
set_option maxRecDepth 100000 in
theorem lw_drop {L : Nat} {xs : Nat → Int32} {Ok : Nat → Lv → List Value → Mem → Prop} (hst : ∀ (cut : List Nat) (n k : Nat) (lv : Lv) (st : List Value) (σ : Mem), wps pgL_law (roL L xs) csL_law [] true cut Ok QL n k lv st σ → Ok k lv st σ) {σ : Mem} (h : Inv σ) {i : Nat} (hi : i + 5 ≤ L) (hL : L ≤ 2560) (nx : ∀ σ', Inv σ' → Ok 750 [some (.ref 102), some (.ref 0), some (.ref 42), some (.int (nI i))] [] σ') : Ok 566 [some (.ref 102), some (.ref 0), some (.ref 42), some (.int (nI i))] [] σ := by
  have p := prDrop h (xs (rI (nI i + 1)))
  refine hst [750] 80 _ _ _ _ ?_
  refine And.intro (vL hi (k := 1) (by decide) hL) (And.intro (Nat.le_of_ble_eq_true rfl) (mnX9_drop _ _ _ _ (fun v σ1 y => ?_) p))
  obtain ⟨r, rfl, p2⟩ := y
  refine And.intro (vL hi (k := 1) (by decide) hL) (And.intro (Nat.le_of_ble_eq_true rfl) (mnX10_drop _ _ _ _ (fun w σ2 y => ?_) p2))
  obtain ⟨rfl, hI⟩ := y
  exact br_t rfl (nx σ2 hI)
set_option maxRecDepth 100000 in
theorem lw_put {L : Nat} {xs : Nat → Int32} {Ok : Nat → Lv → List Value → Mem → Prop} (hst : ∀ (cut : List Nat) (n k : Nat) (lv : Lv) (st : List Value) (σ : Mem), wps pgL_law (roL L xs) csL_law [] true cut Ok QL n k lv st σ → Ok k lv st σ) {σ : Mem} (h : Inv σ) {i : Nat} (hi : i + 5 ≤ L) (hL : L ≤ 2560) (nx : ∀ σ', Inv σ' → Ok 750 [some (.ref 102), some (.ref 0), some (.ref 42), some (.int (nI i))] [] σ') : Ok 583 [some (.ref 102), some (.ref 0), some (.ref 42), some (.int (nI i))] [] σ := by
  have p := prPut h (xs (rI (nI i + 1))) (xs (rI (nI i + 2))) (xs (rI (nI i + 3)))
  refine hst [750] 80 _ _ _ _ ?_
  refine And.intro (vL hi (k := 1) (by decide) hL) (And.intro (vL hi (k := 2) (by decide) hL) (And.intro (vL hi (k := 3) (by decide) hL) (And.intro (Nat.le_of_ble_eq_true rfl) (mnX9_put _ _ _ _ (fun v σ1 y => ?_) p))))
  obtain ⟨r, rfl, p2⟩ := y
  refine And.intro (vL hi (k := 1) (by decide) hL) (And.intro (vL hi (k := 2) (by decide) hL) (And.intro (vL hi (k := 3) (by decide) hL) (And.intro (Nat.le_of_ble_eq_true rfl) (mnX10_put _ _ _ _ (fun w σ2 y => ?_) p2))))
  obtain ⟨rfl, hI⟩ := y
  exact br_t rfl (nx σ2 hI)
set_option maxRecDepth 100000 in
theorem lw_at {L : Nat} {xs : Nat → Int32} {Ok : Nat → Lv → List Value → Mem → Prop} (hst : ∀ (cut : List Nat) (n k : Nat) (lv : Lv) (st : List Value) (σ : Mem), wps pgL_law (roL L xs) csL_law [] true cut Ok QL n k lv st σ → Ok k lv st σ) {σ : Mem} (h : Inv σ) {i : Nat} (hi : i + 5 ≤ L) (hL : L ≤ 2560) (nx : ∀ σ', Inv σ' → Ok 750 [some (.ref 102), some (.ref 0), some (.ref 42), some (.int (nI i))] [] σ') : Ok 620 [some (.ref 102), some (.ref 0), some (.ref 42), some (.int (nI i))] [] σ := by
  have p := prAt h (xs (rI (nI i + 1))) (xs (rI (nI i + 2))) (xs (rI (nI i + 3)))
  refine hst [750] 80 _ _ _ _ ?_
  refine And.intro (vL hi (k := 1) (by decide) hL) (And.intro (vL hi (k := 2) (by decide) hL) (And.intro (vL hi (k := 3) (by decide) hL) (And.intro (Nat.le_of_ble_eq_true rfl) (mnX9_at _ _ _ _ (fun v σ1 y => ?_) p))))
  obtain ⟨r, rfl, p2⟩ := y
  refine And.intro (vL hi (k := 1) (by decide) hL) (And.intro (vL hi (k := 2) (by decide) hL) (And.intro (vL hi (k := 3) (by decide) hL) (And.intro (Nat.le_of_ble_eq_true rfl) (mnX10_at _ _ _ _ (fun w σ2 y => ?_) p2))))
  obtain ⟨rfl, hI⟩ := y
  exact br_t (lcmp_self r) (nx σ2 hI)
set_option maxRecDepth 100000 in
theorem lw_tell {L : Nat} {xs : Nat → Int32} {Ok : Nat → Lv → List Value → Mem → Prop} (hst : ∀ (cut : List Nat) (n k : Nat) (lv : Lv) (st : List Value) (σ : Mem), wps pgL_law (roL L xs) csL_law [] true cut Ok QL n k lv st σ → Ok k lv st σ) {σ : Mem} (h : Inv σ) {i : Nat} (hi : i + 5 ≤ L) (hL : L ≤ 2560) (nx : ∀ σ', Inv σ' → Ok 750 [some (.ref 102), some (.ref 0), some (.ref 42), some (.int (nI i))] [] σ') : Ok 658 [some (.ref 102), some (.ref 0), some (.ref 42), some (.int (nI i))] [] σ := by
  have p := prTell h (xs (rI (nI i + 1)))
  refine hst [750] 80 _ _ _ _ ?_
  refine And.intro (vL hi (k := 1) (by decide) hL) (And.intro (Nat.le_of_ble_eq_true rfl) (mnX9_tell _ _ _ _ (fun v σ1 y => ?_) p))
  obtain ⟨r, rfl, p2⟩ := y
  refine And.intro (vL hi (k := 1) (by decide) hL) (And.intro (Nat.le_of_ble_eq_true rfl) (mnX10_tell _ _ _ _ (fun w σ2 y => ?_) p2))
  obtain ⟨rfl, hI⟩ := y
  exact br_t rfl (nx σ2 hI)
set_option maxRecDepth 100000 in
theorem lw_weigh {L : Nat} {xs : Nat → Int32} {Ok : Nat → Lv → List Value → Mem → Prop} (hst : ∀ (cut : List Nat) (n k : Nat) (lv : Lv) (st : List Value) (σ : Mem), wps pgL_law (roL L xs) csL_law [] true cut Ok QL n k lv st σ → Ok k lv st σ) {σ : Mem} (h : Inv σ) {i : Nat} (hi : i + 5 ≤ L) (hL : L ≤ 2560) (nx : ∀ σ', Inv σ' → Ok 750 [some (.ref 102), some (.ref 0), some (.ref 42), some (.int (nI i))] [] σ') : Ok 675 [some (.ref 102), some (.ref 0), some (.ref 42), some (.int (nI i))] [] σ := by
  have p := prWeigh h (xs (rI (nI i + 1)))
  refine hst [750] 80 _ _ _ _ ?_
  refine And.intro (vL hi (k := 1) (by decide) hL) (And.intro (Nat.le_of_ble_eq_true rfl) (mnX9_weigh _ _ _ _ (fun v σ1 y => ?_) p))
  obtain ⟨r, rfl, p2⟩ := y
  refine And.intro (vL hi (k := 1) (by decide) hL) (And.intro (Nat.le_of_ble_eq_true rfl) (mnX10_weigh _ _ _ _ (fun w σ2 y => ?_) p2))
  obtain ⟨rfl, hI⟩ := y
  exact br_t rfl (nx σ2 hI)
set_option maxRecDepth 100000 in
theorem lw_as {L : Nat} {xs : Nat → Int32} {Ok : Nat → Lv → List Value → Mem → Prop} (hst : ∀ (cut : List Nat) (n k : Nat) (lv : Lv) (st : List Value) (σ : Mem), wps pgL_law (roL L xs) csL_law [] true cut Ok QL n k lv st σ → Ok k lv st σ) {σ : Mem} (h : Inv σ) {i : Nat} (hi : i + 5 ≤ L) (hL : L ≤ 2560) (nx : ∀ σ', Inv σ' → Ok 750 [some (.ref 102), some (.ref 0), some (.ref 42), some (.int (nI i))] [] σ') : Ok 692 [some (.ref 102), some (.ref 0), some (.ref 42), some (.int (nI i))] [] σ := by
  have p := prAs h (xs (rI (nI i + 1))) (xs (rI (nI i + 2)))
  refine hst [750] 80 _ _ _ _ ?_
  refine And.intro (vL hi (k := 1) (by decide) hL) (And.intro (vL hi (k := 2) (by decide) hL) (And.intro (Nat.le_of_ble_eq_true rfl) (mnX9_as _ _ _ _ (fun v σ1 y => ?_) p)))
  obtain ⟨r, rfl, p2⟩ := y
  refine And.intro (vL hi (k := 1) (by decide) hL) (And.intro (vL hi (k := 2) (by decide) hL) (And.intro (Nat.le_of_ble_eq_true rfl) (mnX10_as _ _ _ _ (fun w σ2 y => ?_) p2)))
  obtain ⟨rfl, hI⟩ := y
  exact br_t rfl (nx σ2 hI)
set_option maxRecDepth 100000 in
theorem lw_trace {L : Nat} {xs : Nat → Int32} {Ok : Nat → Lv → List Value → Mem → Prop} (hst : ∀ (cut : List Nat) (n k : Nat) (lv : Lv) (st : List Value) (σ : Mem), wps pgL_law (roL L xs) csL_law [] true cut Ok QL n k lv st σ → Ok k lv st σ) {σ : Mem} (h : Inv σ) {i : Nat} (hi : i + 5 ≤ L) (hL : L ≤ 2560) (nx : ∀ σ', Inv σ' → Ok 750 [some (.ref 102), some (.ref 0), some (.ref 42), some (.int (nI i))] [] σ') : Ok 719 [some (.ref 102), some (.ref 0), some (.ref 42), some (.int (nI i))] [] σ := by
  have p := prTrace h 
  refine hst [750] 80 _ _ _ _ ?_
  refine And.intro (Nat.le_of_ble_eq_true rfl) (mnX9_trace _ _ _ _ (fun v σ1 y => ?_) p)
  obtain ⟨r, rfl, p2⟩ := y
  refine And.intro (Nat.le_of_ble_eq_true rfl) (mnX10_trace _ _ _ _ (fun w σ2 y => ?_) p2)
  obtain ⟨rfl, hI⟩ := y
  exact br_t rfl (nx σ2 hI)
set_option maxRecDepth 100000 in
theorem lw_fault {L : Nat} {xs : Nat → Int32} {Ok : Nat → Lv → List Value → Mem → Prop} (hst : ∀ (cut : List Nat) (n k : Nat) (lv : Lv) (st : List Value) (σ : Mem), wps pgL_law (roL L xs) csL_law [] true cut Ok QL n k lv st σ → Ok k lv st σ) {σ : Mem} (h : Inv σ) {i : Nat} (hi : i + 5 ≤ L) (hL : L ≤ 2560) (nx : ∀ σ', Inv σ' → Ok 750 [some (.ref 102), some (.ref 0), some (.ref 42), some (.int (nI i))] [] σ') : Ok 726 [some (.ref 102), some (.ref 0), some (.ref 42), some (.int (nI i))] [] σ := by
  have p := prFault h 
  refine hst [750] 80 _ _ _ _ ?_
  refine And.intro (Nat.le_of_ble_eq_true rfl) (mnX9_fault _ _ _ _ (fun v σ1 y => ?_) p)
  obtain ⟨r, rfl, p2⟩ := y
  refine And.intro (Nat.le_of_ble_eq_true rfl) (mnX10_fault _ _ _ _ (fun w σ2 y => ?_) p2)
  obtain ⟨rfl, hI⟩ := y
  exact br_t rfl (nx σ2 hI)
set_option maxRecDepth 100000 in
theorem lw_told {L : Nat} {xs : Nat → Int32} {Ok : Nat → Lv → List Value → Mem → Prop} (hst : ∀ (cut : List Nat) (n k : Nat) (lv : Lv) (st : List Value) (σ : Mem), wps pgL_law (roL L xs) csL_law [] true cut Ok QL n k lv st σ → Ok k lv st σ) {σ : Mem} (h : Inv σ) {i : Nat} (hi : i + 5 ≤ L) (hL : L ≤ 2560) (nx : ∀ σ', Inv σ' → Ok 750 [some (.ref 102), some (.ref 0), some (.ref 42), some (.int (nI i))] [] σ') : Ok 733 [some (.ref 102), some (.ref 0), some (.ref 42), some (.int (nI i))] [] σ := by
  have p := prTold h (xs (rI (nI i + 1)))
  refine hst [750] 80 _ _ _ _ ?_
  refine And.intro (vL hi (k := 1) (by decide) hL) (And.intro (Nat.le_of_ble_eq_true rfl) (mnX9_told _ _ _ _ (fun v σ1 y => ?_) p))
  obtain ⟨r, rfl, p2⟩ := y
  refine And.intro (vL hi (k := 1) (by decide) hL) (And.intro (Nat.le_of_ble_eq_true rfl) (mnX10_told _ _ _ _ (fun w σ2 y => ?_) p2))
  obtain ⟨rfl, hI⟩ := y
  exact br_t rfl (nx σ2 hI)
