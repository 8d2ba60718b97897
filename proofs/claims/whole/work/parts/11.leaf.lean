/-! the leaves -/
theorem c3 {A B C : Prop} (a : A) (b : B) (c : C) : A ∧ B ∧ C := ⟨a, b, c⟩
theorem c4 {A B C D : Prop} (a : A) (b : B) (c : C) (d : D) : A ∧ B ∧ C ∧ D := ⟨a, b, c, d⟩
theorem c5 {A B C D F : Prop} (a : A) (b : B) (c : C) (d : D) (e : F) : A ∧ B ∧ C ∧ D ∧ F := ⟨a, b, c, d, e⟩
theorem K_int {K : Option Value → Mem → Prop} {x y : Int32} {σ : Mem} (e : x = y) (h : K (some (.int x)) σ) : K (some (.int y)) σ := e ▸ h
theorem K_long {K : Option Value → Mem → Prop} {x y : Int64} {σ : Mem} (e : x = y) (h : K (some (.long x)) σ) : K (some (.long y)) σ := e ▸ h
theorem ltI {a b : Int32} : a < b ↔ a.toInt < b.toInt := Int32.lt_iff_toInt_lt
theorem leI {a b : Int32} : a ≤ b ↔ a.toInt ≤ b.toInt := Int32.le_iff_toInt_le
theorem eqI {a b : Int32} : a = b ↔ a.toInt = b.toInt := Int32.toInt_inj.symm
def csX9_isWithin : Cs := []
def spX9_isWithin : SP := G [(0, []), (0, []), (0, [])] (spV (fun _ _ => True) (fun vs σ => match vs with
  | [.int a0, .int a1, .int a2] => (some (.int (bI (a1 ≤ a0 ∧ a0 ≤ a2))), σ)
  | _ => (none, σ)))
theorem mnX9_isWithin : Mono spX9_isWithin := Mono.spV
theorem bdX9_isWithin : Body 3 pgX9_isWithin roM csX9_isWithin lcX9 true spX9_isWithin := by
  intro vs σ K h Ok hst
  obtain ⟨hs, -, hk⟩ := h
  obtain ⟨v, vs, rfl, hs1⟩ := shpI hs
  obtain ⟨lo, vs, rfl, hs2⟩ := shpI hs1
  obtain ⟨hi, vs, rfl, hs3⟩ := shpI hs2
  cases shpN hs3
  have hk : K (some (.int (bI (lo ≤ v ∧ v ≤ hi)))) σ := hk
  refine hst [] 30 _ _ _ _ ?_
  refine And.intro (fun c => ?_) (fun c => And.intro (fun c2 => ?_) (fun c2 => ?_))
  · exact And.intro (Or.inl rfl) (K_int (bI_neg (fun q => Int32.not_le.mpr c q.1)) hk)
  · exact And.intro (Or.inl rfl) (K_int (bI_neg (fun q => Int32.not_le.mpr c2 q.2)) hk)
  · exact And.intro (Or.inr rfl) (K_int (bI_pos ⟨Int32.not_lt.mp c, Int32.not_lt.mp c2⟩) hk)
def csX10_within : Cs := []
def spX10_within : SP := G [(0, []), (0, []), (0, [])] (spV (fun _ _ => True) (fun vs σ => match vs with
  | [.int a0, .int a1, .int a2] => (some (.int (bI (a1 ≤ a0 ∧ a0 ≤ a2))), σ)
  | _ => (none, σ)))
theorem mnX10_within : Mono spX10_within := Mono.spV
theorem bdX10_within : Body 3 pgX10_within roM csX10_within lcX10 true spX10_within := by
  intro vs σ K h Ok hst
  obtain ⟨hs, -, hk⟩ := h
  obtain ⟨v, vs, rfl, hs1⟩ := shpI hs
  obtain ⟨lo, vs, rfl, hs2⟩ := shpI hs1
  obtain ⟨hi, vs, rfl, hs3⟩ := shpI hs2
  cases shpN hs3
  have hk : K (some (.int (bI (lo ≤ v ∧ v ≤ hi)))) σ := hk
  refine hst [] 30 _ _ _ _ ?_
  refine And.intro (fun c => ?_) (fun c => And.intro (fun c2 => ?_) (fun c2 => ?_))
  · exact And.intro (Or.inl rfl) (K_int (bI_neg (fun q => Int32.not_le.mpr c q.1)) hk)
  · exact And.intro (Or.inl rfl) (K_int (bI_neg (fun q => Int32.not_le.mpr c2 q.2)) hk)
  · exact And.intro (Or.inr rfl) (K_int (bI_pos ⟨Int32.not_lt.mp c, Int32.not_lt.mp c2⟩) hk)
def csX9_isLane : Cs := [(74, 3, false, spX9_isWithin)]
def spX9_isLane : SP := G [(0, [])] (spV (fun _ _ => True) (fun vs σ => match vs with
  | [.int a0] => (some (.int (bI (0 ≤ a0 ∧ a0 ≤ 2))), σ)
  | _ => (none, σ)))
theorem mnX9_isLane : Mono spX9_isLane := Mono.spV
theorem bdX9_isLane : Body 1 pgX9_isLane roM csX9_isLane lcX9 true spX9_isLane := by
  intro vs σ K h Ok hst
  obtain ⟨hs, -, hk⟩ := h
  obtain ⟨v, vs, rfl, hs1⟩ := shpI hs
  cases shpN hs1
  refine hst [] 30 _ _ _ _ ?_
  exact c5 (Nat.le_of_ble_eq_true rfl) (Nat.le_of_ble_eq_true rfl) rfl trivial (And.intro (bI_01 _) hk)
def csX9_isSpan : Cs := [(74, 3, false, spX9_isWithin)]
def spX9_isSpan : SP := G [(0, []), (0, [])] (spV (fun _ _ => True) (fun vs σ => match vs with
  | [.int a0, .int a1] => (some (.int (bI ((0 ≤ a0 ∧ a0 ≤ 20000) ∧ a0 ≤ a1 ∧ a1 ≤ 20001))), σ)
  | _ => (none, σ)))
theorem mnX9_isSpan : Mono spX9_isSpan := Mono.spV
theorem bdX9_isSpan : Body 2 pgX9_isSpan roM csX9_isSpan lcX9 true spX9_isSpan := by
  intro vs σ K h Ok hst
  obtain ⟨hs, hp, hk⟩ := h
  obtain ⟨v, vs, rfl, hs1⟩ := shpI hs
  obtain ⟨i, vs, rfl, hs2⟩ := shpI hs1
  cases shpN hs2
  refine hst [] 30 _ _ _ _ ?_
  refine c5 (Nat.le_of_ble_eq_true rfl) (Nat.le_of_ble_eq_true rfl) rfl trivial (brb (fun q => ?_) (fun q => ?_))
  · refine c5 (Nat.le_of_ble_eq_true rfl) (Nat.le_of_ble_eq_true rfl) rfl trivial (brb (fun q2 => ?_) (fun q2 => ?_))
    · exact And.intro (Or.inr rfl) (K_int (bI_pos ⟨q, q2⟩) hk)
    · exact And.intro (Or.inl rfl) (K_int (bI_neg (fun z => q2 z.2)) hk)
  · exact And.intro (Or.inl rfl) (K_int (bI_neg (fun z => q z.1)) hk)
def csX8_has : Cs := [(22, 3, false, spX9_isWithin)]
def spX8_has : SP := G [(2, [1]), (0, [])] (spV (fun _ _ => True) (fun vs σ => match vs with
  | [_, .int a1] => (some (.int (bI (0 ≤ a1 ∧ a1 ≤ gI σ 1 2 - 1))), σ)
  | _ => (none, σ)))
theorem mnX8_has : Mono spX8_has := Mono.spV
theorem bdX8_has : Body 2 pgX8_has roM csX8_has lcX8 true spX8_has := by
  intro vs σ K h Ok hst
  obtain ⟨hs, -, hk⟩ := h
  obtain ⟨vs, rfl, hs1⟩ := shpR1 hs
  obtain ⟨v, vs, rfl, hs2⟩ := shpI hs1
  cases shpN hs2
  refine hst [] 30 _ _ _ _ ?_
  exact c5 (Nat.le_of_ble_eq_true rfl) (Nat.le_of_ble_eq_true rfl) rfl trivial (And.intro (bI_01 _) hk)
def csX5_has : Cs := [(28, 3, false, spX9_isWithin)]
def spX5_has : SP := G [(2, [4]), (0, [])] (spV (fun _ _ => True) (fun vs σ => match vs with
  | [_, .int a1] => (some (.int (bI (0 ≤ a1 ∧ a1 ≤ gI σ 4 4 - 1))), σ)
  | _ => (none, σ)))
theorem mnX5_has : Mono spX5_has := Mono.spV
theorem bdX5_has : Body 2 pgX5_has roM csX5_has lcX5 true spX5_has := by
  intro vs σ K h Ok hst
  obtain ⟨hs, -, hk⟩ := h
  obtain ⟨vs, rfl, hs1⟩ := shpR1 hs
  obtain ⟨v, vs, rfl, hs2⟩ := shpI hs1
  cases shpN hs2
  refine hst [] 30 _ _ _ _ ?_
  exact c5 (Nat.le_of_ble_eq_true rfl) (Nat.le_of_ble_eq_true rfl) rfl trivial (And.intro (bI_01 _) hk)
def csX7_has : Cs := [(21, 3, false, spX9_isWithin)]
def spX7_has : SP := G [(2, [17]), (0, [])] (spV (fun _ _ => True) (fun vs σ => match vs with
  | [_, .int a1] => (some (.int (bI (0 ≤ a1 ∧ a1 ≤ 3))), σ)
  | _ => (none, σ)))
theorem mnX7_has : Mono spX7_has := Mono.spV
theorem bdX7_has : Body 2 pgX7_has roM csX7_has lcX7 true spX7_has := by
  intro vs σ K h Ok hst
  obtain ⟨hs, -, hk⟩ := h
  obtain ⟨vs, rfl, hs1⟩ := shpR1 hs
  obtain ⟨v, vs, rfl, hs2⟩ := shpI hs1
  cases shpN hs2
  refine hst [] 30 _ _ _ _ ?_
  exact c5 (Nat.le_of_ble_eq_true rfl) (Nat.le_of_ble_eq_true rfl) rfl trivial (And.intro (bI_01 _) hk)
def csX7_hasCell : Cs := [(21, 3, false, spX9_isWithin)]
def spX7_hasCell : SP := G [(2, [17]), (0, []), (0, [])] (spV (fun vs _ => match vs with
  | [_, .int a1, .int a2] => vp_in (a1) 4
  | _ => True) (fun vs σ => match vs with
  | [_, .int a1, .int a2] => (some (.int (bI (0 ≤ a2 ∧ a2 ≤ gI σ 19 (rI (a1)) - 1))), σ)
  | _ => (none, σ)))
theorem mnX7_hasCell : Mono spX7_hasCell := Mono.spV
theorem bdX7_hasCell : Body 3 pgX7_hasCell roM csX7_hasCell lcX7 true spX7_hasCell := by
  intro vs σ K h Ok hst
  obtain ⟨hs, hp, hk⟩ := h
  obtain ⟨vs, rfl, hs1⟩ := shpR1 hs
  obtain ⟨k, vs, rfl, hs2⟩ := shpI hs1
  obtain ⟨i, vs, rfl, hs3⟩ := shpI hs2
  cases shpN hs3
  refine hst [] 30 _ _ _ _ ?_
  exact And.intro hp (c5 (Nat.le_of_ble_eq_true rfl) (Nat.le_of_ble_eq_true rfl) rfl trivial (And.intro (bI_01 _) hk))
def csX0_has : Cs := [(37, 3, false, spX9_isWithin)]
def spX0_has : SP := G [(2, [30, 36]), (0, [])] (spV (fun _ _ => True) (fun vs σ => match vs with
  | [.ref a0, .int a1] => (some (.int (bI (0 ≤ a1 ∧ a1 ≤ gI σ (a0) 0 - 1))), σ)
  | _ => (none, σ)))
theorem mnX0_has : Mono spX0_has := Mono.spV
theorem bdX0_has : Body 2 pgX0_has roM csX0_has lcX0 true spX0_has := by
  intro vs σ K h Ok hst
  obtain ⟨hs, -, hk⟩ := h
  obtain ⟨b, vs, rfl, hb, hs1⟩ := shpR hs
  obtain ⟨v, vs, rfl, hs2⟩ := shpI hs1
  cases shpN hs2
  refine hst [] 30 _ _ _ _ ?_
  rcases (by simpa using hb : b = 30 ∨ b = 36) with rfl | rfl
  · exact c5 (Nat.le_of_ble_eq_true rfl) (Nat.le_of_ble_eq_true rfl) rfl trivial (And.intro (bI_01 _) hk)
  · exact c5 (Nat.le_of_ble_eq_true rfl) (Nat.le_of_ble_eq_true rfl) rfl trivial (And.intro (bI_01 _) hk)
def csX0_sizeOf : Cs := []
def spX0_sizeOf : SP := G [(2, [30, 36]), (0, [])] (spV (fun vs _ => match vs with
  | [.ref a0, .int a1] => vp_in (a1 + 1) 241 ∧ vp_in (a1) 241
  | _ => True) (fun vs σ => match vs with
  | [.ref a0, .int a1] => (some (.int (gI σ (a0 + 1) (rI (a1 + 1)) - gI σ (a0 + 1) (rI (a1)))), σ)
  | _ => (none, σ)))
theorem mnX0_sizeOf : Mono spX0_sizeOf := Mono.spV
theorem bdX0_sizeOf : Body 2 pgX0_sizeOf roM csX0_sizeOf lcX0 false spX0_sizeOf := by
  intro vs σ K h Ok hst
  obtain ⟨hs, hp9, hk⟩ := h
  obtain ⟨b, vs, rfl, hb, hs1⟩ := shpR hs
  obtain ⟨v, vs, rfl, hs2⟩ := shpI hs1
  cases shpN hs2
  obtain ⟨hp1, hp2⟩ := hp9
  refine hst [] 30 _ _ _ _ ?_
  rcases (by simpa using hb : b = 30 ∨ b = 36) with rfl | rfl
  · exact And.intro hp1 (And.intro hp2 hk)
  · exact And.intro hp1 (And.intro hp2 hk)
def csX0_hasMember : Cs := [(37, 3, false, spX9_isWithin), (41, 1, true, spX0_has), (45, 1, true, spX0_sizeOf)]
def spX0_hasMember : SP := G [(2, [30, 36]), (0, []), (0, [])] (spV (fun vs σ => match vs with
  | [.ref a0, .int a1, .int a2] => 0 ≤ a1 ∧ a1 ≤ gI σ (a0) 0 - 1 → vp_in (a1 + 1) 241 ∧ vp_in (a1) 241
  | _ => True) (fun vs σ => match vs with
  | [.ref a0, .int a1, .int a2] => (some (.int (bI ((0 ≤ a1 ∧ a1 ≤ gI σ (a0) 0 - 1) ∧ 0 ≤ a2 ∧ a2 ≤ gI σ (a0 + 1) (rI (a1 + 1)) - gI σ (a0 + 1) (rI (a1)) - 1))), σ)
  | _ => (none, σ)))
theorem mnX0_hasMember : Mono spX0_hasMember := Mono.spV
theorem bdX0_hasMember : Body 3 pgX0_hasMember roM csX0_hasMember lcX0 true spX0_hasMember := by
  intro vs σ K h Ok hst
  obtain ⟨hs, hp, hk⟩ := h
  obtain ⟨b, vs, rfl, hb, hs1⟩ := shpR hs
  obtain ⟨v, vs, rfl, hs2⟩ := shpI hs1
  obtain ⟨i, vs, rfl, hs3⟩ := shpI hs2
  cases shpN hs3
  refine hst [] 30 _ _ _ _ ?_
  rcases (by simpa using hb : b = 30 ∨ b = 36) with rfl | rfl
  · refine c4 (Nat.le_of_ble_eq_true rfl) rfl trivial (brb (fun q => ?_) (fun q => ?_))
    · refine c4 (Nat.le_of_ble_eq_true rfl) rfl (hp q) (c5 (Nat.le_of_ble_eq_true rfl) (Nat.le_of_ble_eq_true rfl) rfl trivial (brb (fun q2 => ?_) (fun q2 => ?_)))
      · exact And.intro (Or.inr rfl) (K_int (bI_pos ⟨q, q2⟩) hk)
      · exact And.intro (Or.inl rfl) (K_int (bI_neg (fun z => q2 z.2)) hk)
    · exact And.intro (Or.inl rfl) (K_int (bI_neg (fun z => q z.1)) hk)
  · refine c4 (Nat.le_of_ble_eq_true rfl) rfl trivial (brb (fun q => ?_) (fun q => ?_))
    · refine c4 (Nat.le_of_ble_eq_true rfl) rfl (hp q) (c5 (Nat.le_of_ble_eq_true rfl) (Nat.le_of_ble_eq_true rfl) rfl trivial (brb (fun q2 => ?_) (fun q2 => ?_)))
      · exact And.intro (Or.inr rfl) (K_int (bI_pos ⟨q, q2⟩) hk)
      · exact And.intro (Or.inl rfl) (K_int (bI_neg (fun z => q2 z.2)) hk)
    · exact And.intro (Or.inl rfl) (K_int (bI_neg (fun z => q z.1)) hk)
def csX5_kindOf : Cs := []
/-- the kind of a hit, as the class finds it -/
def kdT (lo hi : Int32) : Int32 := if lo < 255 then 0 else if hi = -1 then 2 else if hi < 255 then 1 else 3
def spX5_kindOf : SP := G [(2, [4]), (0, [])] (spV (fun vs _ => match vs with
  | [_, .int a1] => vp_in (a1) 240
  | _ => True) (fun vs σ => match vs with
  | [_, .int a1] => (some (.int (kdT (gI σ 7 (rI (a1))) (gI σ 8 (rI (a1))))), σ)
  | _ => (none, σ)))
theorem mnX5_kindOf : Mono spX5_kindOf := Mono.spV
theorem bdX5_kindOf : Body 2 pgX5_kindOf roM csX5_kindOf lcX5 false spX5_kindOf := by
  intro vs σ K h Ok hst
  obtain ⟨hs, hp, hk⟩ := h
  obtain ⟨vs, rfl, hs1⟩ := shpR1 hs
  obtain ⟨v, vs, rfl, hs2⟩ := shpI hs1
  cases shpN hs2
  have hk : K (some (.int (kdT (gI σ 7 (rI v)) (gI σ 8 (rI v))))) σ := hk
  refine hst [] 30 _ _ _ _ ?_
  refine And.intro hp (And.intro (fun c => ?_) (fun c => ?_))
  · have c : ¬ gI σ 7 (rI v) < 255 := Int32.not_lt.mpr c
    refine And.intro hp (And.intro (fun c2 => ?_) (fun c2 => ?_))
    · exact K_int (by rw [kdT, if_neg c, if_pos c2]) hk
    · refine And.intro hp (And.intro (fun c3 => ?_) (fun c3 => ?_))
      · exact K_int (by rw [kdT, if_neg c, if_neg c2, if_neg (Int32.not_lt.mpr c3)]) hk
      · exact K_int (by rw [kdT, if_neg c, if_neg c2, if_pos (Int32.not_le.mp c3)]) hk
  · exact K_int (by rw [kdT, if_pos (Int32.not_le.mp c)]) hk
def csX5_amountOf : Cs := []
def amT (lo hi : Int32) : Int32 := if hi = -1 then lo else 16 * hi
def spX5_amountOf : SP := G [(2, [4]), (0, [])] (spV (fun vs _ => match vs with
  | [_, .int a1] => vp_in (a1) 240
  | _ => True) (fun vs σ => match vs with
  | [_, .int a1] => (some (.int (amT (gI σ 7 (rI (a1))) (gI σ 8 (rI (a1))))), σ)
  | _ => (none, σ)))
theorem mnX5_amountOf : Mono spX5_amountOf := Mono.spV
theorem bdX5_amountOf : Body 2 pgX5_amountOf roM csX5_amountOf lcX5 false spX5_amountOf := by
  intro vs σ K h Ok hst
  obtain ⟨hs, hp, hk⟩ := h
  obtain ⟨vs, rfl, hs1⟩ := shpR1 hs
  obtain ⟨v, vs, rfl, hs2⟩ := shpI hs1
  cases shpN hs2
  have hk : K (some (.int (amT (gI σ 7 (rI v)) (gI σ 8 (rI v))))) σ := hk
  refine hst [] 30 _ _ _ _ ?_
  refine And.intro hp (And.intro (fun c => ?_) (fun c => ?_))
  · exact And.intro hp (K_int (by rw [amT, if_pos c]) hk)
  · exact And.intro hp (K_int (by rw [amT, if_neg c]) hk)
def csJ9_min_7cf53 : Cs := []
def spJ9_min_7cf53 : SP := G [(0, []), (0, [])] (spV (fun _ _ => True) (fun vs σ => match vs with
  | [.int a0, .int a1] => (some (.int (if a1 < a0 then a1 else a0)), σ)
  | _ => (none, σ)))
theorem mnJ9_min_7cf53 : Mono spJ9_min_7cf53 := Mono.spV
theorem bdJ9_min_7cf53 : Body 2 pgJ9_min_7cf53 roM csJ9_min_7cf53 lcJ9 false spJ9_min_7cf53 := by
  intro vs σ K h Ok hst
  obtain ⟨hs, hp, hk⟩ := h
  obtain ⟨a, vs, rfl, hs1⟩ := shpI hs
  obtain ⟨b, vs, rfl, hs2⟩ := shpI hs1
  cases shpN hs2
  have hk : K (some (.int (if b < a then b else a))) σ := hk
  refine hst [] 30 _ _ _ _ ?_
  refine And.intro (fun c => ?_) (fun c => ?_)
  · exact K_int (if_pos c) hk
  · exact K_int (if_neg c) hk
def csJ9_max_7cf53 : Cs := []
def spJ9_max_7cf53 : SP := G [(0, []), (0, [])] (spV (fun _ _ => True) (fun vs σ => match vs with
  | [.int a0, .int a1] => (some (.int (if a0 < a1 then a1 else a0)), σ)
  | _ => (none, σ)))
theorem mnJ9_max_7cf53 : Mono spJ9_max_7cf53 := Mono.spV
theorem bdJ9_max_7cf53 : Body 2 pgJ9_max_7cf53 roM csJ9_max_7cf53 lcJ9 false spJ9_max_7cf53 := by
  intro vs σ K h Ok hst
  obtain ⟨hs, hp, hk⟩ := h
  obtain ⟨a, vs, rfl, hs1⟩ := shpI hs
  obtain ⟨b, vs, rfl, hs2⟩ := shpI hs1
  cases shpN hs2
  have hk : K (some (.int (if a < b then b else a))) σ := hk
  refine hst [] 30 _ _ _ _ ?_
  refine And.intro (fun c => ?_) (fun c => ?_)
  · exact K_int (if_pos c) hk
  · exact K_int (if_neg c) hk
def csJ9_abs_067f4 : Cs := []
def spJ9_abs_067f4 : SP := G [(1, [])] (spV (fun _ _ => True) (fun vs σ => match vs with
  | [.long a0] => (some (.long (if 0 ≤ a0 then a0 else - a0)), σ)
  | _ => (none, σ)))
theorem mnJ9_abs_067f4 : Mono spJ9_abs_067f4 := Mono.spV
theorem bdJ9_abs_067f4 : Body 2 pgJ9_abs_067f4 roM csJ9_abs_067f4 lcJ9 false spJ9_abs_067f4 := by
  intro vs σ K h Ok hst
  obtain ⟨hs, hp, hk⟩ := h
  obtain ⟨a, vs, rfl, hs1⟩ := shpL hs
  cases shpN hs1
  have hk : K (some (.long (if 0 ≤ a then a else - a))) σ := hk
  refine hst [] 30 _ _ _ _ ?_
  refine And.intro (fun c => ?_) (fun c => ?_)
  · exact K_long (if_pos ((lg_cmp_ge _ _).mp c)) hk
  · exact K_long (if_neg (fun z => c ((lg_cmp_ge _ _).mpr z))) hk
def csJ7_rangeCheck_23922 : Cs := []
def spJ7_rangeCheck_23922 : SP := G [(0, []), (0, []), (0, [])] (spV (fun vs _ => match vs with
  | [.int a0, .int a1, .int a2] => a1 ≤ a2 ∧ 0 ≤ a1 ∧ a2 ≤ a0
  | _ => True) (fun vs σ => match vs with
  | [.int a0, .int a1, .int a2] => (none, σ)
  | _ => (none, σ)))
theorem mnJ7_rangeCheck_23922 : Mono spJ7_rangeCheck_23922 := Mono.spV
theorem bdJ7_rangeCheck_23922 : Body 3 pgJ7_rangeCheck_23922 roM csJ7_rangeCheck_23922 lcJ7 false spJ7_rangeCheck_23922 := by
  intro vs σ K h Ok hst
  obtain ⟨hs, hp9, hk⟩ := h
  obtain ⟨a, vs, rfl, hs1⟩ := shpI hs
  obtain ⟨b, vs, rfl, hs2⟩ := shpI hs1
  obtain ⟨c, vs, rfl, hs3⟩ := shpI hs2
  cases shpN hs3
  obtain ⟨hp1, hp2, hp3⟩ := hp9
  refine hst [] 60 _ _ _ _ ?_
  refine And.intro (fun _ => ?_) (fun q => absurd hp1 q)
  refine And.intro (fun _ => ?_) (fun q => absurd hp2 q)
  refine And.intro (fun _ => ?_) (fun q => absurd hp3 q)
  exact hk
def csJ7_fill_53178 : Cs := []
def spJ7_fill_53178 : SP := G [(2, [20, 27, 35, 41]), (0, [])] (spV (fun vs _ => match vs with
  | [.ref a0, .int a1] => ∃ n, nth lay (a0) = some (.inl (0, n)) ∧ n < 1000
  | _ => True) (fun vs σ => match vs with
  | [.ref a0, .int a1] => (none, fillM σ (a0) 0 (match nth lay (a0) with
  | some (.inl (_, n)) => n
  | _ => 0) (a1))
  | _ => (none, σ)))
theorem mnJ7_fill_53178 : Mono spJ7_fill_53178 := Mono.spV
set_option maxHeartbeats 2000000 in
theorem bdJ7_fill_53178 : Body 4 pgJ7_fill_53178 roM csJ7_fill_53178 lcJ7 false spJ7_fill_53178 := by
  intro vs σ K h Ok hst
  obtain ⟨hs, hp9, hk⟩ := h
  obtain ⟨a, vs, rfl, ha, hs1⟩ := shpR hs
  obtain ⟨v, vs, rfl, hs2⟩ := shpI hs1
  cases shpN hs2
  obtain ⟨n, hn, hlt⟩ := hp9
  have hn : nth lay a = some (.inl (0, n)) := hn
  have hk : K none (fillM σ a 0 n v) := by
    have : (match nth lay a with
      | some (.inl (_, n)) => n
      | _ => 0) = n := by rw [hn]
    rw [← this]; exact hk
  have loop : ∀ d i, i + d = n → Ok 5 [some (.ref a), some (.int v), some (.int (nI i)), some (.int (nI n))] [] (fillM σ a 0 i v) := by
    intro d
    induction d with
    | zero =>
      intro i hi
      refine hst [5] 30 _ _ _ _ ?_
      refine And.intro (fun c => ?_) (fun c => absurd (nI_le (by omega) (by omega)) c)
      have : i = n := by omega
      rw [this]
      exact hk
    | succ d ih =>
      intro i hi
      refine hst [5] 30 _ _ _ _ ?_
      refine And.intro (fun c => absurd c (nI_ge (by omega) (by omega))) (fun c => ?_)
      have key : vp_in (nI i) n ∧ Ok 5 [some (.ref a), some (.int v), some (.int (nI i + 1)), some (.int (nI n))] [] (sI (fillM σ a 0 i v) a (rI (nI i)) v) := by
        refine ⟨inI (by omega) (by omega), ?_⟩
        rw [rI_nI (by omega), nI_1]
        have e := fillM_succ σ a 0 i v
        rw [Nat.zero_add] at e
        rw [e]
        exact ih (i + 1) (by omega)
      rcases (by simpa using ha : a = 20 ∨ a = 27 ∨ a = 35 ∨ a = 41) with rfl | rfl | rfl | rfl <;> (cases hn; exact key)
  have l0 := loop n 0 (by omega)
  rw [fillM_0] at l0
  refine hst [5] 30 _ _ _ _ ?_
  rcases (by simpa using ha : a = 20 ∨ a = 27 ∨ a = 35 ∨ a = 41) with rfl | rfl | rfl | rfl <;> (cases hn; exact l0)
def csJ7_fill_fda19 : Cs := [(13, 3, false, spJ7_rangeCheck_23922)]
/-- fill(cells, a, b, v): from a to ahead of b -/
def spJ7_fill_fda19 : SP := G [(2, [20, 27, 35, 41]), (0, []), (0, []), (0, [])] (spF (fun vs _ => match vs with
  | [.ref a0, .int a1, .int a2, .int a3] => a0 = 20 ∧ ∃ a n, a + n ≤ 160 ∧ a1 = nI a ∧ a2 = nI (a + n)
  | _ => True) (fun vs σ r σ' => match vs with
  | [.ref a0, .int a1, .int a2, .int a3] => r = none ∧ ∀ a n, a + n ≤ 160 → a1 = nI a → a2 = nI (a + n) → σ' = fillM σ 20 a n (a3)
  | _ => True))
theorem mnJ7_fill_fda19 : Mono spJ7_fill_fda19 := Mono.spF
set_option maxHeartbeats 2000000 in
theorem bdJ7_fill_fda19 : Body 5 pgJ7_fill_fda19 roM csJ7_fill_fda19 lcJ7 false spJ7_fill_fda19 := by
  intro vs σ K h Ok hst
  obtain ⟨hs, hp9, hk⟩ := h
  obtain ⟨q, vs, rfl, hq, hs1⟩ := shpR hs
  obtain ⟨x1, vs, rfl, hs2⟩ := shpI hs1
  obtain ⟨x2, vs, rfl, hs3⟩ := shpI hs2
  obtain ⟨v, vs, rfl, hs4⟩ := shpI hs3
  cases shpN hs4
  obtain ⟨h20, a, n, han, ha, hn⟩ := hp9
  have h20 : q = 20 := h20
  have ha : x1 = nI a := ha
  have hn : x2 = nI (a + n) := hn
  subst h20; subst ha; subst hn
  have hk : K none (fillM σ 20 a n v) := hk none _ ⟨rfl, fun a' n' h1 h2 h3 => by
    have e1 : a = a' := (nI_eq (by omega) (by omega)).mp h2
    have e2 : a + n = a' + n' := (nI_eq (by omega) (by omega)).mp h3
    have e3 : n = n' := by omega
    rw [← e1, ← e3]⟩
  have loop : ∀ d i, i + d = n → Ok 7 [some (.ref 20), some (.int (nI a)), some (.int (nI (a + n))), some (.int v), some (.int (nI (a + i)))] [] (fillM σ 20 a i v) := by
    intro d
    induction d with
    | zero =>
      intro i hi
      refine hst [7] 30 _ _ _ _ ?_
      refine And.intro (fun c => ?_) (fun c => absurd (nI_le (by omega) (by omega)) c)
      have : i = n := by omega
      rw [this]
      exact hk
    | succ d ih =>
      intro i hi
      refine hst [7] 30 _ _ _ _ ?_
      refine And.intro (fun c => absurd c (nI_ge (by omega) (by omega))) (fun c => And.intro (inI (by omega) (by omega)) ?_)
      have key : Ok 7 [some (.ref 20), some (.int (nI a)), some (.int (nI (a + n))), some (.int v), some (.int (nI (a + i) + 1))] [] (sI (fillM σ 20 a i v) 20 (rI (nI (a + i))) v) := by
        rw [rI_nI (by omega), nI_1, fillM_succ]
        exact ih (i + 1) (by omega)
      exact key
  have l0 := loop n 0 (by omega)
  rw [fillM_0] at l0
  refine hst [7] 30 _ _ _ _ ?_
  exact c5 (Nat.le_of_ble_eq_true rfl) (Nat.le_of_ble_eq_true rfl) rfl ⟨nI_le (by omega) (by omega), nI_pos' (by omega), nI_le (by omega) (by omega)⟩ l0
