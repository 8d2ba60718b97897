/-! fronts -/
def dT (n x y xx xy yy : Int64) : Int64 := n * (xx * yy - xy * xy) + x * (xy * y - x * yy) + y * (x * xy - xx * y)
def cT (x y xx xy yy t tx ty : Int64) : Int64 := t * (xx * yy - xy * xy) + tx * (xy * y - x * yy) + ty * (x * xy - xx * y)
def uT (n x y xy yy t tx ty : Int64) : Int64 := t * (xy * y - x * yy) + tx * (n * yy - y * y) + ty * (x * y - n * xy)
def vT (n x y xx xy t tx ty : Int64) : Int64 := t * (x * xy - xx * y) + tx * (x * y - n * xy) + ty * (n * xx - x * x)
def det (a b c d e f g h i : Int64) : Int64 := a * (e * i - f * h) - b * (d * i - f * g) + c * (d * h - e * g)
theorem det_d (n x y xx xy yy : Int64) : det n x y x xx xy y xy yy = dT n x y xx xy yy := by unfold det dT; grind
theorem det_c (x y xx xy yy t tx ty : Int64) : det t x y tx xx xy ty xy yy = cT x y xx xy yy t tx ty := by unfold det cT; grind
theorem det_u (n x y xy yy t tx ty : Int64) : det n t y x tx xy y ty yy = uT n x y xy yy t tx ty := by unfold det uT; grind
theorem det_v (n x y xx xy t tx ty : Int64) : det n x t x xx tx y xy ty = vT n x y xx xy t tx ty := by unfold det vT; grind
def addF (τ : Mem) (x y t : Int64) : Mem := sL (sL (sL (sL (sL (sL (sL (sL (sL τ 28 1 (gL τ 28 1 + 1)) 28 2 (gL τ 28 2 + x)) 28 3 (gL τ 28 3 + y)) 28 4 (gL τ 28 4 + x * x)) 28 5 (gL τ 28 5 + x * y)) 28 6 (gL τ 28 6 + y * y)) 28 7 (gL τ 28 7 + t)) 28 8 (gL τ 28 8 + t * x)) 28 9 (gL τ 28 9 + t * y)
def slvF (τ : Mem) : Mem := sL (sL (sL (sL τ 28 10 (dT (gL τ 28 1) (gL τ 28 2) (gL τ 28 3) (gL τ 28 4) (gL τ 28 5) (gL τ 28 6))) 28 11 (cT (gL τ 28 2) (gL τ 28 3) (gL τ 28 4) (gL τ 28 5) (gL τ 28 6) (gL τ 28 7) (gL τ 28 8) (gL τ 28 9))) 28 12 (uT (gL τ 28 1) (gL τ 28 2) (gL τ 28 3) (gL τ 28 5) (gL τ 28 6) (gL τ 28 7) (gL τ 28 8) (gL τ 28 9))) 28 13 (vT (gL τ 28 1) (gL τ 28 2) (gL τ 28 3) (gL τ 28 4) (gL τ 28 5) (gL τ 28 7) (gL τ 28 8) (gL τ 28 9))
def frM (σ : Mem) (l : Int32) (a1 a2 a3 a4 a5 a6 a7 a8 a9 : Int64) : Mem := sL (sL (sL (sL (sL (sL (sL (sL (sL (sI σ 28 0 l) 28 1 a1) 28 2 a2) 28 3 a3) 28 4 a4) 28 5 a5) 28 6 a6) 28 7 a7) 28 8 a8) 28 9 a9
theorem fr_add (σ : Mem) (l : Int32) (a1 a2 a3 a4 a5 a6 a7 a8 a9 x y t : Int64) : addF (frM σ l a1 a2 a3 a4 a5 a6 a7 a8 a9) x y t = frM σ l (a1 + 1) (a2 + x) (a3 + y) (a4 + x * x) (a5 + x * y) (a6 + y * y) (a7 + t) (a8 + t * x) (a9 + t * y) := by
  refine Mem.ext (fun _ _ => rfl) (fun k j => ?_) rfl rfl
  unfold addF
  by_cases d9 : k = 28 ∧ j = 9
  · obtain ⟨rfl, rfl⟩ := d9; rfl
  by_cases d8 : k = 28 ∧ j = 8
  · obtain ⟨rfl, rfl⟩ := d8; rfl
  by_cases d7 : k = 28 ∧ j = 7
  · obtain ⟨rfl, rfl⟩ := d7; rfl
  by_cases d6 : k = 28 ∧ j = 6
  · obtain ⟨rfl, rfl⟩ := d6; rfl
  by_cases d5 : k = 28 ∧ j = 5
  · obtain ⟨rfl, rfl⟩ := d5; rfl
  by_cases d4 : k = 28 ∧ j = 4
  · obtain ⟨rfl, rfl⟩ := d4; rfl
  by_cases d3 : k = 28 ∧ j = 3
  · obtain ⟨rfl, rfl⟩ := d3; rfl
  by_cases d2 : k = 28 ∧ j = 2
  · obtain ⟨rfl, rfl⟩ := d2; rfl
  by_cases d1 : k = 28 ∧ j = 1
  · obtain ⟨rfl, rfl⟩ := d1; rfl
  unfold frM
  rw [gL_sL, if_neg d9, gL_sL, if_neg d8, gL_sL, if_neg d7, gL_sL, if_neg d6, gL_sL, if_neg d5, gL_sL, if_neg d4, gL_sL, if_neg d3, gL_sL, if_neg d2, gL_sL, if_neg d1]
  rw [gL_sL, if_neg d9, gL_sL, if_neg d8, gL_sL, if_neg d7, gL_sL, if_neg d6, gL_sL, if_neg d5, gL_sL, if_neg d4, gL_sL, if_neg d3, gL_sL, if_neg d2, gL_sL, if_neg d1]
  rw [gL_sL, if_neg d9, gL_sL, if_neg d8, gL_sL, if_neg d7, gL_sL, if_neg d6, gL_sL, if_neg d5, gL_sL, if_neg d4, gL_sL, if_neg d3, gL_sL, if_neg d2, gL_sL, if_neg d1]
def smF (f : Nat → Int64) (s n : Nat) : Int64 := foldN (fun i a => a + f (s + i)) 0 n
theorem smF_congr {f g : Nat → Int64} {s n : Nat} (h : ∀ i, i < n → f (s + i) = g (s + i)) : smF f s n = smF g s n := foldN_congr rfl (fun i hi x => by rw [h i hi])
def csX3_clear : Cs := []
def spX3_clear : SP := G [(2, [28]), (0, [])] (slf 2 pgX3_clear csX3_clear lcX3 false 32)
theorem bdX3_clear : Body 2 pgX3_clear roM csX3_clear lcX3 false spX3_clear := Body.slf
theorem mnX3_clear : Mono spX3_clear := Mono.slf csM_nil
def csX3_add : Cs := []
def spX3_add : SP := G [(2, [28]), (1, []), (1, []), (0, [])] (spV (fun _ _ => True) (fun vs σ => match vs with
  | [_, .long a1, .long a2, .int a3] => (none, addF σ (a1) (a2) (a3 - gI σ 28 0).toInt64)
  | _ => (none, σ)))
theorem mnX3_add : Mono spX3_add := Mono.spV
set_option maxHeartbeats 4000000 in
theorem bdX3_add : Body 8 pgX3_add roM csX3_add lcX3 false spX3_add := by
  intro vs σ K h Ok hst
  obtain ⟨hs, hp, hk⟩ := h
  obtain ⟨vs, rfl, hs1⟩ := shpR1 hs
  obtain ⟨x, vs, rfl, hs2⟩ := shpL hs1
  obtain ⟨y, vs, rfl, hs3⟩ := shpL hs2
  obtain ⟨t, vs, rfl, hs4⟩ := shpI hs3
  cases shpN hs4
  refine hst [] 90 _ _ _ _ ?_
  exact hk
def csX3_solve : Cs := []
def spX3_solve : SP := G [(2, [28])] (spV (fun _ _ => True) (fun vs σ => (none, slvF σ)))
theorem mnX3_solve : Mono spX3_solve := Mono.spV
set_option maxRecDepth 100000 in
set_option maxHeartbeats 4000000 in
theorem bdX3_solve : Body 13 pgX3_solve roM csX3_solve lcX3 false spX3_solve := by
  intro vs σ K h Ok hst
  obtain ⟨hs, hp, hk⟩ := h
  obtain ⟨vs, rfl, hs1⟩ := shpR1 hs
  cases shpN hs1
  refine hst [] 160 _ _ _ _ ?_
  exact hk
def csX3_errorAt : Cs := []
def spX3_errorAt : SP := G [(2, [28]), (1, []), (1, []), (0, [])] (slf 6 pgX3_errorAt csX3_errorAt lcX3 false 23)
theorem bdX3_errorAt : Body 6 pgX3_errorAt roM csX3_errorAt lcX3 false spX3_errorAt := Body.slf
theorem mnX3_errorAt : Mono spX3_errorAt := Mono.slf csM_nil
def csX10_determinant : Cs := []
def spX10_determinant : SP := G [(1, []), (1, []), (1, []), (1, []), (1, []), (1, []), (1, []), (1, []), (1, [])] (spV (fun _ _ => True) (fun vs σ => match vs with
  | [.long a0, .long a1, .long a2, .long a3, .long a4, .long a5, .long a6, .long a7, .long a8] => (some (.long (det (a0) (a1) (a2) (a3) (a4) (a5) (a6) (a7) (a8))), σ)
  | _ => (none, σ)))
theorem mnX10_determinant : Mono spX10_determinant := Mono.spV
theorem bdX10_determinant : Body 18 pgX10_determinant roM csX10_determinant lcX10 false spX10_determinant := by
  intro vs σ K h Ok hst
  obtain ⟨hs, hp, hk⟩ := h
  obtain ⟨a, vs, rfl, hs1⟩ := shpL hs
  obtain ⟨b, vs, rfl, hs2⟩ := shpL hs1
  obtain ⟨c, vs, rfl, hs3⟩ := shpL hs2
  obtain ⟨d, vs, rfl, hs4⟩ := shpL hs3
  obtain ⟨e, vs, rfl, hs5⟩ := shpL hs4
  obtain ⟨f, vs, rfl, hs6⟩ := shpL hs5
  obtain ⟨g, vs, rfl, hs7⟩ := shpL hs6
  obtain ⟨h', vs, rfl, hs8⟩ := shpL hs7
  obtain ⟨i, vs, rfl, hs9⟩ := shpL hs8
  cases shpN hs9
  refine hst [] 40 _ _ _ _ ?_
  exact hk
