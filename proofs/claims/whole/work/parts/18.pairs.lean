theorem prAs {σ : Mem} (h : Inv σ) (w kd : Int32) : PRi spX9_as spX10_as [.int w, .int kd] σ := by
  have h0 := h
  obtain ⟨nT, nH, nC, nD, ⟨hT, hH, hC, hD⟩, ⟨hS, hR, hX⟩, hE⟩ := h
  have no : Inv (sI (sI (sI (sI σ 0 12 0) 0 12 2) 42 0 0) 42 0 2) := by
    rw [sI_twice, sI_twice]
    exact h0.fault 2
  refine And.intro rfl ?_
  by_cases q1 : 0 ≤ w ∧ w < gI σ 42 5
  · have q1' := (hasH hH w).mpr q1
    obtain ⟨k, hk, hw⟩ := idx_of (n := nH) (by rw [← hH.2.2.1]; exact q1) (by have := hH.1; omega)
    have hk240 : k < 240 := by have := hH.1; omega
    have hin : vp_in w 240 := by rw [hw]; exact inI hk240 (by decide)
    have er : rI w = k := by rw [hw]; exact rI_nI (by omega)
    obtain ⟨⟨a1, a2, a3, a4⟩, ho⟩ := hH.2.2.2 k hk
    have hkd : kdM (gI σ 47 (rI w)) (gI σ 48 (rI w)) = kdT (gI σ 7 (rI w)) (gI σ 8 (rI w)) := by rw [er, a3, a4]; exact kd_eq ho
    by_cases q2 : 0 ≤ kd ∧ kd ≤ 3
    · by_cases d1 : kd = 0
      · repeat (first
          | refine c5 (Nat.le_of_ble_eq_true rfl) (Nat.le_of_ble_eq_true rfl) rfl trivial (brbT (by first | assumption | decide | exact rfl | exact ne10 | exact ne20 | exact ne30) ?_)
          | refine c5 (Nat.le_of_ble_eq_true rfl) (Nat.le_of_ble_eq_true rfl) rfl trivial (brbF (by first | assumption | decide | exact rfl | exact ne10 | exact ne20 | exact ne30) ?_)
          | refine c4 (Nat.le_of_ble_eq_true rfl) rfl trivial (brbT (by first | assumption | decide | exact rfl | exact ne10 | exact ne20 | exact ne30) ?_)
          | refine c4 (Nat.le_of_ble_eq_true rfl) rfl trivial (brbF (by first | assumption | decide | exact rfl | exact ne10 | exact ne20 | exact ne30) ?_)
          | refine c4 (Nat.le_of_ble_eq_true rfl) (Nat.le_of_ble_eq_true rfl) rfl ?_
          | refine c3 (Nat.le_of_ble_eq_true rfl) rfl ?_
          | refine And.intro (by first | assumption | exact trivial) ?_
          | refine brbT (by first | assumption | decide | exact rfl | exact ne10 | exact ne20 | exact ne30) ?_
          | refine brbF (by first | assumption | decide | exact rfl | exact ne10 | exact ne20 | exact ne30) ?_
          | refine br_t (by first | assumption | decide | exact rfl | exact ne10 | exact ne20 | exact ne30) ?_
          | refine br_f (by first | assumption | decide | exact rfl | exact ne10 | exact ne20 | exact ne30) ?_
          | refine Exists.intro _ (And.intro rfl (And.intro rfl ?_)))
        exact ⟨rfl, h0.fault 0⟩
      · by_cases d2 : kd = kdT (gI σ 7 (rI w)) (gI σ 8 (rI w))
        · have d2' : kd = kdM (gI σ 47 (rI w)) (gI σ 48 (rI w)) := by rw [hkd]; exact d2
          repeat (first
            | refine c5 (Nat.le_of_ble_eq_true rfl) (Nat.le_of_ble_eq_true rfl) rfl trivial (brbT (by first | assumption | decide | exact rfl | exact ne10 | exact ne20 | exact ne30) ?_)
            | refine c5 (Nat.le_of_ble_eq_true rfl) (Nat.le_of_ble_eq_true rfl) rfl trivial (brbF (by first | assumption | decide | exact rfl | exact ne10 | exact ne20 | exact ne30) ?_)
            | refine c4 (Nat.le_of_ble_eq_true rfl) rfl trivial (brbT (by first | assumption | decide | exact rfl | exact ne10 | exact ne20 | exact ne30) ?_)
            | refine c4 (Nat.le_of_ble_eq_true rfl) rfl trivial (brbF (by first | assumption | decide | exact rfl | exact ne10 | exact ne20 | exact ne30) ?_)
            | refine c4 (Nat.le_of_ble_eq_true rfl) (Nat.le_of_ble_eq_true rfl) rfl ?_
            | refine c3 (Nat.le_of_ble_eq_true rfl) rfl ?_
            | refine And.intro (by first | assumption | exact trivial) ?_
            | refine brbT (by first | assumption | decide | exact rfl | exact ne10 | exact ne20 | exact ne30) ?_
            | refine brbF (by first | assumption | decide | exact rfl | exact ne10 | exact ne20 | exact ne30) ?_
            | refine br_t (by first | assumption | decide | exact rfl | exact ne10 | exact ne20 | exact ne30) ?_
            | refine br_f (by first | assumption | decide | exact rfl | exact ne10 | exact ne20 | exact ne30) ?_
            | refine Exists.intro _ (And.intro rfl (And.intro rfl ?_)))
          exact ⟨rfl, h0.fault 0⟩
        · have d2' : ¬ kd = kdM (gI σ 47 (rI w)) (gI σ 48 (rI w)) := by rw [hkd]; exact d2
          by_cases d3 : kd = 2
          · by_cases d4 : kdT (gI σ 7 (rI w)) (gI σ 8 (rI w)) = 3
            · have d4' : kdM (gI σ 47 (rI w)) (gI σ 48 (rI w)) = 3 := by rw [hkd]; exact d4
              repeat (first
                | refine c5 (Nat.le_of_ble_eq_true rfl) (Nat.le_of_ble_eq_true rfl) rfl trivial (brbT (by first | assumption | decide | exact rfl | exact ne10 | exact ne20 | exact ne30) ?_)
                | refine c5 (Nat.le_of_ble_eq_true rfl) (Nat.le_of_ble_eq_true rfl) rfl trivial (brbF (by first | assumption | decide | exact rfl | exact ne10 | exact ne20 | exact ne30) ?_)
                | refine c4 (Nat.le_of_ble_eq_true rfl) rfl trivial (brbT (by first | assumption | decide | exact rfl | exact ne10 | exact ne20 | exact ne30) ?_)
                | refine c4 (Nat.le_of_ble_eq_true rfl) rfl trivial (brbF (by first | assumption | decide | exact rfl | exact ne10 | exact ne20 | exact ne30) ?_)
                | refine c4 (Nat.le_of_ble_eq_true rfl) (Nat.le_of_ble_eq_true rfl) rfl ?_
                | refine c3 (Nat.le_of_ble_eq_true rfl) rfl ?_
                | refine And.intro (by first | assumption | exact trivial) ?_
                | refine brbT (by first | assumption | decide | exact rfl | exact ne10 | exact ne20 | exact ne30) ?_
                | refine brbF (by first | assumption | decide | exact rfl | exact ne10 | exact ne20 | exact ne30) ?_
                | refine br_t (by first | assumption | decide | exact rfl | exact ne10 | exact ne20 | exact ne30) ?_
                | refine br_f (by first | assumption | decide | exact rfl | exact ne10 | exact ne20 | exact ne30) ?_
                | refine Exists.intro _ (And.intro rfl (And.intro rfl ?_)))
              exact ⟨rfl, h0.fault 0⟩
            · have d4' : ¬ kdM (gI σ 47 (rI w)) (gI σ 48 (rI w)) = 3 := by rw [hkd]; exact d4
              repeat (first
                | refine c5 (Nat.le_of_ble_eq_true rfl) (Nat.le_of_ble_eq_true rfl) rfl trivial (brbT (by first | assumption | decide | exact rfl | exact ne10 | exact ne20 | exact ne30) ?_)
                | refine c5 (Nat.le_of_ble_eq_true rfl) (Nat.le_of_ble_eq_true rfl) rfl trivial (brbF (by first | assumption | decide | exact rfl | exact ne10 | exact ne20 | exact ne30) ?_)
                | refine c4 (Nat.le_of_ble_eq_true rfl) rfl trivial (brbT (by first | assumption | decide | exact rfl | exact ne10 | exact ne20 | exact ne30) ?_)
                | refine c4 (Nat.le_of_ble_eq_true rfl) rfl trivial (brbF (by first | assumption | decide | exact rfl | exact ne10 | exact ne20 | exact ne30) ?_)
                | refine c4 (Nat.le_of_ble_eq_true rfl) (Nat.le_of_ble_eq_true rfl) rfl ?_
                | refine c3 (Nat.le_of_ble_eq_true rfl) rfl ?_
                | refine And.intro (by first | assumption | exact trivial) ?_
                | refine brbT (by first | assumption | decide | exact rfl | exact ne10 | exact ne20 | exact ne30) ?_
                | refine brbF (by first | assumption | decide | exact rfl | exact ne10 | exact ne20 | exact ne30) ?_
                | refine br_t (by first | assumption | decide | exact rfl | exact ne10 | exact ne20 | exact ne30) ?_
                | refine br_f (by first | assumption | decide | exact rfl | exact ne10 | exact ne20 | exact ne30) ?_
                | refine Exists.intro _ (And.intro rfl (And.intro rfl ?_)))
              exact ⟨rfl, no⟩
          · repeat (first
              | refine c5 (Nat.le_of_ble_eq_true rfl) (Nat.le_of_ble_eq_true rfl) rfl trivial (brbT (by first | assumption | decide | exact rfl | exact ne10 | exact ne20 | exact ne30) ?_)
              | refine c5 (Nat.le_of_ble_eq_true rfl) (Nat.le_of_ble_eq_true rfl) rfl trivial (brbF (by first | assumption | decide | exact rfl | exact ne10 | exact ne20 | exact ne30) ?_)
              | refine c4 (Nat.le_of_ble_eq_true rfl) rfl trivial (brbT (by first | assumption | decide | exact rfl | exact ne10 | exact ne20 | exact ne30) ?_)
              | refine c4 (Nat.le_of_ble_eq_true rfl) rfl trivial (brbF (by first | assumption | decide | exact rfl | exact ne10 | exact ne20 | exact ne30) ?_)
              | refine c4 (Nat.le_of_ble_eq_true rfl) (Nat.le_of_ble_eq_true rfl) rfl ?_
              | refine c3 (Nat.le_of_ble_eq_true rfl) rfl ?_
              | refine And.intro (by first | assumption | exact trivial) ?_
              | refine brbT (by first | assumption | decide | exact rfl | exact ne10 | exact ne20 | exact ne30) ?_
              | refine brbF (by first | assumption | decide | exact rfl | exact ne10 | exact ne20 | exact ne30) ?_
              | refine br_t (by first | assumption | decide | exact rfl | exact ne10 | exact ne20 | exact ne30) ?_
              | refine br_f (by first | assumption | decide | exact rfl | exact ne10 | exact ne20 | exact ne30) ?_
              | refine Exists.intro _ (And.intro rfl (And.intro rfl ?_)))
            exact ⟨rfl, no⟩
    · repeat (first
        | refine c5 (Nat.le_of_ble_eq_true rfl) (Nat.le_of_ble_eq_true rfl) rfl trivial (brbT (by first | assumption | decide | exact rfl | exact ne10 | exact ne20 | exact ne30) ?_)
        | refine c5 (Nat.le_of_ble_eq_true rfl) (Nat.le_of_ble_eq_true rfl) rfl trivial (brbF (by first | assumption | decide | exact rfl | exact ne10 | exact ne20 | exact ne30) ?_)
        | refine c4 (Nat.le_of_ble_eq_true rfl) rfl trivial (brbT (by first | assumption | decide | exact rfl | exact ne10 | exact ne20 | exact ne30) ?_)
        | refine c4 (Nat.le_of_ble_eq_true rfl) rfl trivial (brbF (by first | assumption | decide | exact rfl | exact ne10 | exact ne20 | exact ne30) ?_)
        | refine c4 (Nat.le_of_ble_eq_true rfl) (Nat.le_of_ble_eq_true rfl) rfl ?_
        | refine c3 (Nat.le_of_ble_eq_true rfl) rfl ?_
        | refine And.intro (by first | assumption | exact trivial) ?_
        | refine brbT (by first | assumption | decide | exact rfl | exact ne10 | exact ne20 | exact ne30) ?_
        | refine brbF (by first | assumption | decide | exact rfl | exact ne10 | exact ne20 | exact ne30) ?_
        | refine br_t (by first | assumption | decide | exact rfl | exact ne10 | exact ne20 | exact ne30) ?_
        | refine br_f (by first | assumption | decide | exact rfl | exact ne10 | exact ne20 | exact ne30) ?_
        | refine Exists.intro _ (And.intro rfl (And.intro rfl ?_)))
      exact ⟨rfl, h0.fault 0⟩
  · have q1' : ¬ (0 ≤ w ∧ w ≤ gI σ 4 4 - 1) := fun z => q1 ((hasH hH w).mp z)
    repeat (first
      | refine c5 (Nat.le_of_ble_eq_true rfl) (Nat.le_of_ble_eq_true rfl) rfl trivial (brbT (by first | assumption | decide | exact rfl | exact ne10 | exact ne20 | exact ne30) ?_)
      | refine c5 (Nat.le_of_ble_eq_true rfl) (Nat.le_of_ble_eq_true rfl) rfl trivial (brbF (by first | assumption | decide | exact rfl | exact ne10 | exact ne20 | exact ne30) ?_)
      | refine c4 (Nat.le_of_ble_eq_true rfl) rfl trivial (brbT (by first | assumption | decide | exact rfl | exact ne10 | exact ne20 | exact ne30) ?_)
      | refine c4 (Nat.le_of_ble_eq_true rfl) rfl trivial (brbF (by first | assumption | decide | exact rfl | exact ne10 | exact ne20 | exact ne30) ?_)
      | refine c4 (Nat.le_of_ble_eq_true rfl) (Nat.le_of_ble_eq_true rfl) rfl ?_
      | refine c3 (Nat.le_of_ble_eq_true rfl) rfl ?_
      | refine And.intro (by first | assumption | exact trivial) ?_
      | refine brbT (by first | assumption | decide | exact rfl | exact ne10 | exact ne20 | exact ne30) ?_
      | refine brbF (by first | assumption | decide | exact rfl | exact ne10 | exact ne20 | exact ne30) ?_
      | refine br_t (by first | assumption | decide | exact rfl | exact ne10 | exact ne20 | exact ne30) ?_
      | refine br_f (by first | assumption | decide | exact rfl | exact ne10 | exact ne20 | exact ne30) ?_
      | refine Exists.intro _ (And.intro rfl (And.intro rfl ?_)))
    exact ⟨rfl, h0.fault 0⟩
theorem prTrace {σ : Mem} (h : Inv σ) : PRi spX9_trace spX10_trace [] σ := by
  have h0 := h
  obtain ⟨nT, nH, nC, nD, hA, ⟨hS, hR, hX⟩, hE⟩ := h
  refine And.intro rfl ?_
  repeat (first
    | refine c5 (Nat.le_of_ble_eq_true rfl) (Nat.le_of_ble_eq_true rfl) rfl trivial (brbT (by first | assumption | decide | exact rfl | exact ne10 | exact ne20 | exact ne30) ?_)
    | refine c5 (Nat.le_of_ble_eq_true rfl) (Nat.le_of_ble_eq_true rfl) rfl trivial (brbF (by first | assumption | decide | exact rfl | exact ne10 | exact ne20 | exact ne30) ?_)
    | refine c4 (Nat.le_of_ble_eq_true rfl) rfl trivial (brbT (by first | assumption | decide | exact rfl | exact ne10 | exact ne20 | exact ne30) ?_)
    | refine c4 (Nat.le_of_ble_eq_true rfl) rfl trivial (brbF (by first | assumption | decide | exact rfl | exact ne10 | exact ne20 | exact ne30) ?_)
    | refine c4 (Nat.le_of_ble_eq_true rfl) (Nat.le_of_ble_eq_true rfl) rfl ?_
    | refine c3 (Nat.le_of_ble_eq_true rfl) rfl ?_
    | refine And.intro (by first | assumption | exact trivial) ?_
    | refine brbT (by first | assumption | decide | exact rfl | exact ne10 | exact ne20 | exact ne30) ?_
    | refine brbF (by first | assumption | decide | exact rfl | exact ne10 | exact ne20 | exact ne30) ?_
    | refine br_t (by first | assumption | decide | exact rfl | exact ne10 | exact ne20 | exact ne30) ?_
    | refine br_f (by first | assumption | decide | exact rfl | exact ne10 | exact ne20 | exact ne30) ?_
    | refine Exists.intro _ (And.intro rfl (And.intro rfl ?_)))
  exact ⟨by rw [hX.2.1], h0⟩
theorem prFault {σ : Mem} (h : Inv σ) : PRi spX9_fault spX10_fault [] σ := by
  have h0 := h
  obtain ⟨nT, nH, nC, nD, hA, ⟨hS, hR, hX⟩, hE⟩ := h
  refine And.intro rfl ?_
  repeat (first
    | refine c5 (Nat.le_of_ble_eq_true rfl) (Nat.le_of_ble_eq_true rfl) rfl trivial (brbT (by first | assumption | decide | exact rfl | exact ne10 | exact ne20 | exact ne30) ?_)
    | refine c5 (Nat.le_of_ble_eq_true rfl) (Nat.le_of_ble_eq_true rfl) rfl trivial (brbF (by first | assumption | decide | exact rfl | exact ne10 | exact ne20 | exact ne30) ?_)
    | refine c4 (Nat.le_of_ble_eq_true rfl) rfl trivial (brbT (by first | assumption | decide | exact rfl | exact ne10 | exact ne20 | exact ne30) ?_)
    | refine c4 (Nat.le_of_ble_eq_true rfl) rfl trivial (brbF (by first | assumption | decide | exact rfl | exact ne10 | exact ne20 | exact ne30) ?_)
    | refine c4 (Nat.le_of_ble_eq_true rfl) (Nat.le_of_ble_eq_true rfl) rfl ?_
    | refine c3 (Nat.le_of_ble_eq_true rfl) rfl ?_
    | refine And.intro (by first | assumption | exact trivial) ?_
    | refine brbT (by first | assumption | decide | exact rfl | exact ne10 | exact ne20 | exact ne30) ?_
    | refine brbF (by first | assumption | decide | exact rfl | exact ne10 | exact ne20 | exact ne30) ?_
    | refine br_t (by first | assumption | decide | exact rfl | exact ne10 | exact ne20 | exact ne30) ?_
    | refine br_f (by first | assumption | decide | exact rfl | exact ne10 | exact ne20 | exact ne30) ?_
    | refine Exists.intro _ (And.intro rfl (And.intro rfl ?_)))
  exact ⟨by rw [hX.2.2], h0⟩
