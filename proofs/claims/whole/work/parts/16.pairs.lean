/-- the fault is told on both sides -/
theorem Inv.fault {σ : Mem} (h : Inv σ) (v : Int32) : Inv (sI (sI σ 0 12 v) 42 0 v) := by
  obtain ⟨nT, nH, nC, nD, hA, ⟨hS, hR, hX⟩, hE⟩ := h
  refine ⟨nT, nH, nC, nD, hA, ⟨hS, hR, hX.1, hX.2.1, rfl⟩, IE.congr (σ := σ) (fun k j hk => ?_) rfl rfl hE⟩
  unfold Ek at hk
  rw [gI_off (by omega), gI_off (by omega)]
theorem sI_comm (σ : Mem) {a j b i : Nat} (v w : Int32) (h : ¬ (a = b ∧ j = i)) : sI (sI σ a j v) b i w = sI (sI σ b i w) a j v := by
  refine Mem.ext (fun k x => ?_) (fun _ _ => rfl) rfl rfl
  rw [gI_sI, gI_sI, gI_sI, gI_sI]
  by_cases h1 : k = b ∧ x = i
  · rw [if_pos h1, if_neg (by omega), if_pos h1]
  · by_cases h2 : k = a ∧ x = j
    · rw [if_neg h1, if_pos h2, if_pos h2]
    · rw [if_neg h1, if_neg h2, if_neg h2, if_neg h1]
theorem sI_twice (σ : Mem) (a j : Nat) (v w : Int32) : sI (sI σ a j v) a j w = sI σ a j w := by
  refine Mem.ext (fun k x => ?_) (fun _ _ => rfl) rfl rfl
  rw [gI_sI, gI_sI, gI_sI]
  by_cases h1 : k = a ∧ x = j
  · rw [if_pos h1, if_pos h1]
  · rw [if_neg h1, if_neg h1, if_neg h1]
theorem cell_of {k i : Nat} (hk : k ≤ 3) (hi : i < 40) : nI k * 40 + nI i = nI (40 * k + i) ∧ 40 * nI k + nI i = nI (40 * k + i) := by
  have e : (40 : Int32) = nI 40 := rfl
  rw [e, pk_mul, pk_mul, nI_add, nI_add]
  exact ⟨by congr 1; omega, rfl⟩
theorem Inv.cell {σ : Mem} (h : Inv σ) (i : Nat) (v : Int32) : Inv (sI (sI σ 20 i v) 57 i v) := by
  obtain ⟨nT, nH, nC, nD, hA, ⟨hS, hR, hX⟩, hE⟩ := h
  refine ⟨nT, nH, nC, nD, hA, ⟨⟨hS.1, hS.2.1, fun j hj => ?_⟩, hR, hX⟩, IE.congr (σ := σ) (fun k j hk => ?_) rfl rfl hE⟩
  · by_cases e : j = i
    · simp [gI_sI, e]
    · have := hS.2.2 j hj
      simp [gI_sI, e]
      exact this
  · unfold Ek at hk
    rw [gI_off (by omega), gI_off (by omega)]
theorem prPut {σ : Mem} (h : Inv σ) (w i v : Int32) : PRi spX9_put spX10_put [.int w, .int i, .int v] σ := by
  have h0 := h
  obtain ⟨nT, nH, nC, nD, hA, ⟨hS, hR, hX⟩, hE⟩ := h
  refine And.intro rfl ?_
  by_cases q1 : 0 ≤ w ∧ w ≤ 3
  · obtain ⟨k, hk, hw⟩ := idx_le (n := 3) (by decide) q1
    have hin : vp_in w 4 := by rw [hw]; exact inI (by omega) (by decide)
    have er : rI w = k := by rw [hw]; exact rI_nI (by omega)
    rcases lane_cases hS (k := k) (by omega) with ⟨l1, l2⟩ | ⟨l1, l2, l3, l4⟩
    · have f1 : gI σ 18 (rI w) = -1 := by rw [er]; exact l1
      have f2 : gI σ 55 (rI w) = -9 := by rw [er]; exact l2
      repeat (first
        | refine c5 (Nat.le_of_ble_eq_true rfl) (Nat.le_of_ble_eq_true rfl) rfl trivial (brbT (by first | assumption | decide | exact rfl | exact ne10 | exact ne20 | exact ne30) ?_)
        | refine c5 (Nat.le_of_ble_eq_true rfl) (Nat.le_of_ble_eq_true rfl) rfl trivial (brbF (by first | assumption | decide | exact rfl | exact ne10 | exact ne20 | exact ne30) ?_)
        | refine c4 (Nat.le_of_ble_eq_true rfl) rfl trivial (brbT (by first | assumption | decide | exact rfl | exact ne10 | exact ne20 | exact ne30) ?_)
        | refine c4 (Nat.le_of_ble_eq_true rfl) rfl trivial (brbF (by first | assumption | decide | exact rfl | exact ne10 | exact ne20 | exact ne30) ?_)
        | refine c4 (Nat.le_of_ble_eq_true rfl) (Nat.le_of_ble_eq_true rfl) rfl ?_
        | refine c3 (Nat.le_of_ble_eq_true rfl) rfl ?_
        | refine And.intro (by first | assumption | exact trivial) ?_
        | refine brbT (by first | assumption | decide | exact rfl | exact ne10 | exact ne20 | exact ne30) ?_
        | refine brbF (by first | assumption | decide | exact rfl | exact ne10 | exact ne20 | exact ne30) ?_
        | refine br_t (by first | assumption | decide | exact rfl | exact ne10 | exact ne20 | exact ne30) ?_
        | refine br_f (by first | assumption | decide | exact rfl | exact ne10 | exact ne20 | exact ne30) ?_
        | refine Exists.intro _ (And.intro rfl (And.intro rfl ?_)))
      refine ⟨rfl, ?_⟩
      show Inv (sI (sI (sI (sI σ 0 12 0) 0 12 1) 42 0 0) 42 0 1)
      rw [sI_twice, sI_twice]
      exact h0.fault 1
    · have f1 : ¬ gI σ 18 (rI w) = -1 := by rw [er]; exact l1
      have f2 : ¬ gI σ 55 (rI w) = -9 := by rw [er]; exact l2
      obtain ⟨z1, n, hn, hz⟩ := hS.2.1 k (by omega)
      by_cases q2 : 0 ≤ i ∧ i ≤ gI σ 19 (rI w) - 1
      · have q3 : 0 ≤ i ∧ i ≤ gI σ 56 (rI w) - 1 := by rw [er, z1, ← er]; exact q2
        obtain ⟨ii, hii, hi⟩ : ∃ j, j < n ∧ i = nI j := by
          refine idx_of ⟨q2.1, ?_⟩ (by omega)
          rw [← hz]
          exact (cn_lt (cn_of hz hn (by decide)).1 (by decide) i).mp (by rw [← er]; exact q2.2)
        have hc := cell_of (k := k) (i := ii) hk (by omega)
        have hin2 : vp_in (w * 40 + i) 160 := by rw [hw, hi, hc.1]; exact inI (by omega) (by decide)
        have hin3 : vp_in (40 * w + i) 160 := by rw [hw, hi, hc.2]; exact inI (by omega) (by decide)
        have e1 : rI (w * 40 + i) = 40 * k + ii := by rw [hw, hi, hc.1]; exact rI_nI (by omega)
        have e2 : rI (40 * w + i) = 40 * k + ii := by rw [hw, hi, hc.2]; exact rI_nI (by omega)
        have l3' : gI σ 55 (rI w) = gI σ 18 (rI w) := by rw [er]; exact l3
        have fin : ∀ x : Int32, Inv (sI (sI (sI (sI σ 0 12 0) 20 (rI (w * 40 + i)) x) 42 0 0) 57 (rI (40 * w + i)) x) := by
          intro x
          rw [e1, e2, sI_comm _ (a := 20) (b := 42) _ _ (by omega)]
          exact (h0.fault 0).cell _ _
        rcases l4 with z | z | z
        · have g1 : gI σ 18 (rI w) = 0 := by rw [er]; exact z
          have g2 : gI σ 55 (rI w) = 0 := by rw [l3']; exact g1
          repeat (first
            | refine c5 (Nat.le_of_ble_eq_true rfl) (Nat.le_of_ble_eq_true rfl) rfl trivial (brbT (by first | assumption | decide | exact rfl | exact ne10 | exact ne20 | exact ne30) ?_)
            | refine c5 (Nat.le_of_ble_eq_true rfl) (Nat.le_of_ble_eq_true rfl) rfl trivial (brbF (by first | assumption | decide | exact rfl | exact ne10 | exact ne20 | exact ne30) ?_)
            | refine c4 (Nat.le_of_ble_eq_true rfl) rfl trivial (brbT (by first | assumption | decide | exact rfl | exact ne10 | exact ne20 | exact ne30) ?_)
            | refine c4 (Nat.le_of_ble_eq_true rfl) rfl trivial (brbF (by first | assumption | decide | exact rfl | exact ne10 | exact ne20 | exact ne30) ?_)
            | refine c4 (Nat.le_of_ble_eq_true rfl) (Nat.le_of_ble_eq_true rfl) rfl ?_
            | refine c3 (Nat.le_of_ble_eq_true rfl) rfl ?_
            | refine And.intro (by first | assumption | exact trivial) ?_
            | refine brbT (by first | assumption | decide | exact rfl | exact ne10 | exact ne20 | exact ne30) ?_
            | refine brbF (by first | assumption | decide | exact rfl | exact ne10 | exact ne20 | exact ne30) ?_
            | refine br_t (by first | assumption | decide | exact rfl | exact ne10 | exact ne20 | exact ne30) ?_
            | refine br_f (by first | assumption | decide | exact rfl | exact ne10 | exact ne20 | exact ne30) ?_
            | refine Exists.intro _ (And.intro rfl (And.intro rfl ?_)))
          exact ⟨rfl, fin _⟩
        · have g1 : gI σ 18 (rI w) = 1 := by rw [er]; exact z
          have g2 : gI σ 55 (rI w) = 1 := by rw [l3']; exact g1
          have g3 : ¬ gI σ 18 (rI w) = 0 := by rw [g1]; decide
          have g4 : ¬ gI σ 55 (rI w) = 0 := by rw [g2]; decide
          repeat (first
            | refine c5 (Nat.le_of_ble_eq_true rfl) (Nat.le_of_ble_eq_true rfl) rfl trivial (brbT (by first | assumption | decide | exact rfl | exact ne10 | exact ne20 | exact ne30) ?_)
            | refine c5 (Nat.le_of_ble_eq_true rfl) (Nat.le_of_ble_eq_true rfl) rfl trivial (brbF (by first | assumption | decide | exact rfl | exact ne10 | exact ne20 | exact ne30) ?_)
            | refine c4 (Nat.le_of_ble_eq_true rfl) rfl trivial (brbT (by first | assumption | decide | exact rfl | exact ne10 | exact ne20 | exact ne30) ?_)
            | refine c4 (Nat.le_of_ble_eq_true rfl) rfl trivial (brbF (by first | assumption | decide | exact rfl | exact ne10 | exact ne20 | exact ne30) ?_)
            | refine c4 (Nat.le_of_ble_eq_true rfl) (Nat.le_of_ble_eq_true rfl) rfl ?_
            | refine c3 (Nat.le_of_ble_eq_true rfl) rfl ?_
            | refine And.intro (by first | assumption | exact trivial) ?_
            | refine brbT (by first | assumption | decide | exact rfl | exact ne10 | exact ne20 | exact ne30) ?_
            | refine brbF (by first | assumption | decide | exact rfl | exact ne10 | exact ne20 | exact ne30) ?_
            | refine br_t (by first | assumption | decide | exact rfl | exact ne10 | exact ne20 | exact ne30) ?_
            | refine br_f (by first | assumption | decide | exact rfl | exact ne10 | exact ne20 | exact ne30) ?_
            | refine Exists.intro _ (And.intro rfl (And.intro rfl ?_)))
          exact ⟨rfl, fin _⟩
        · have g1 : gI σ 18 (rI w) = 2 := by rw [er]; exact z
          have g2 : gI σ 55 (rI w) = 2 := by rw [l3']; exact g1
          have g3 : ¬ gI σ 18 (rI w) = 0 := by rw [g1]; decide
          have g4 : ¬ gI σ 55 (rI w) = 0 := by rw [g2]; decide
          have g5 : ¬ gI σ 18 (rI w) = 1 := by rw [g1]; decide
          have g6 : ¬ gI σ 55 (rI w) = 1 := by rw [g2]; decide
          repeat (first
            | refine c5 (Nat.le_of_ble_eq_true rfl) (Nat.le_of_ble_eq_true rfl) rfl trivial (brbT (by first | assumption | decide | exact rfl | exact ne10 | exact ne20 | exact ne30) ?_)
            | refine c5 (Nat.le_of_ble_eq_true rfl) (Nat.le_of_ble_eq_true rfl) rfl trivial (brbF (by first | assumption | decide | exact rfl | exact ne10 | exact ne20 | exact ne30) ?_)
            | refine c4 (Nat.le_of_ble_eq_true rfl) rfl trivial (brbT (by first | assumption | decide | exact rfl | exact ne10 | exact ne20 | exact ne30) ?_)
            | refine c4 (Nat.le_of_ble_eq_true rfl) rfl trivial (brbF (by first | assumption | decide | exact rfl | exact ne10 | exact ne20 | exact ne30) ?_)
            | refine c4 (Nat.le_of_ble_eq_true rfl) (Nat.le_of_ble_eq_true rfl) rfl ?_
            | refine c3 (Nat.le_of_ble_eq_true rfl) rfl ?_
            | refine And.intro (by first | assumption | exact trivial) ?_
            | refine brbT (by first | assumption | decide | exact rfl | exact ne10 | exact ne20 | exact ne30) ?_
            | refine brbF (by first | assumption | decide | exact rfl | exact ne10 | exact ne20 | exact ne30) ?_
            | refine br_t (by first | assumption | decide | exact rfl | exact ne10 | exact ne20 | exact ne30) ?_
            | refine br_f (by first | assumption | decide | exact rfl | exact ne10 | exact ne20 | exact ne30) ?_
            | refine Exists.intro _ (And.intro rfl (And.intro rfl ?_)))
          exact ⟨rfl, fin _⟩
      · have q3 : ¬ (0 ≤ i ∧ i ≤ gI σ 56 (rI w) - 1) := by rw [er, z1, ← er]; exact q2
        repeat (first
          | refine c5 (Nat.le_of_ble_eq_true rfl) (Nat.le_of_ble_eq_true rfl) rfl trivial (brbT (by first | assumption | decide | exact rfl | exact ne10 | exact ne20 | exact ne30) ?_)
          | refine c5 (Nat.le_of_ble_eq_true rfl) (Nat.le_of_ble_eq_true rfl) rfl trivial (brbF (by first | assumption | decide | exact rfl | exact ne10 | exact ne20 | exact ne30) ?_)
          | refine c4 (Nat.le_of_ble_eq_true rfl) rfl trivial (brbT (by first | assumption | decide | exact rfl | exact ne10 | exact ne20 | exact ne30) ?_)
          | refine c4 (Nat.le_of_ble_eq_true rfl) rfl trivial (brbF (by first | assumption | decide | exact rfl | exact ne10 | exact ne20 | exact ne30) ?_)
          | refine c4 (Nat.le_of_ble_eq_true rfl) (Nat.le_of_ble_eq_true rfl) rfl ?_
          | refine c3 (Nat.le_of_ble_eq_true rfl) rfl ?_
          | refine And.intro (by first | assumption | exact trivial) ?_
          | refine brbT (by first | assumption | decide | exact rfl | exact ne10 | exact ne20 | exact ne30) ?_
          | refine brbF (by first | assumption | decide | exact rfl | exact ne10 | exact ne20 | exact ne30) ?_
          | refine br_t (by first | assumption | decide | exact rfl | exact ne10 | exact ne20 | exact ne30) ?_
          | refine br_f (by first | assumption | decide | exact rfl | exact ne10 | exact ne20 | exact ne30) ?_
          | refine Exists.intro _ (And.intro rfl (And.intro rfl ?_)))
        refine ⟨rfl, ?_⟩
        show Inv (sI (sI (sI (sI σ 0 12 0) 0 12 3) 42 0 0) 42 0 3)
        rw [sI_twice, sI_twice]
        exact h0.fault 3
  · repeat (first
      | refine c5 (Nat.le_of_ble_eq_true rfl) (Nat.le_of_ble_eq_true rfl) rfl trivial (brbT (by first | assumption | decide | exact rfl | exact ne10 | exact ne20 | exact ne30) ?_)
      | refine c5 (Nat.le_of_ble_eq_true rfl) (Nat.le_of_ble_eq_true rfl) rfl trivial (brbF (by first | assumption | decide | exact rfl | exact ne10 | exact ne20 | exact ne30) ?_)
      | refine c4 (Nat.le_of_ble_eq_true rfl) rfl trivial (brbT (by first | assumption | decide | exact rfl | exact ne10 | exact ne20 | exact ne30) ?_)
      | refine c4 (Nat.le_of_ble_eq_true rfl) rfl trivial (brbF (by first | assumption | decide | exact rfl | exact ne10 | exact ne20 | exact ne30) ?_)
      | refine c4 (Nat.le_of_ble_eq_true rfl) (Nat.le_of_ble_eq_true rfl) rfl ?_
      | refine c3 (Nat.le_of_ble_eq_true rfl) rfl ?_
      | refine And.intro (by first | assumption | exact trivial) ?_
      | refine brbT (by first | assumption | decide | exact rfl | exact ne10 | exact ne20 | exact ne30) ?_
      | refine brbF (by first | assumption | decide | exact rfl | exact ne10 | exact ne20 | exact ne30) ?_
      | refine br_t (by first | assumption | decide | exact rfl | exact ne10 | exact ne20 | exact ne30) ?_
      | refine br_f (by first | assumption | decide | exact rfl | exact ne10 | exact ne20 | exact ne30) ?_
      | refine Exists.intro _ (And.intro rfl (And.intro rfl ?_)))
    refine ⟨rfl, ?_⟩
    exact h0.fault 0
theorem prAt {σ : Mem} (h : Inv σ) (w i ln : Int32) : PRl spX9_at spX10_at [.int w, .int i, .int ln] σ := by
  have h0 := h
  obtain ⟨nT, nH, nC, nD, hA, ⟨hS, hR, hX⟩, hE⟩ := h
  refine And.intro rfl ?_
  by_cases q1 : 0 ≤ w ∧ w ≤ 3
  · obtain ⟨k, hk, hw⟩ := idx_le (n := 3) (by decide) q1
    have hin : vp_in w 4 := by rw [hw]; exact inI (by omega) (by decide)
    have er : rI w = k := by rw [hw]; exact rI_nI (by omega)
    by_cases q2 : 0 ≤ ln ∧ ln ≤ 2
    · rcases lane_cases hS (k := k) (by omega) with ⟨l1, l2⟩ | ⟨l1, l2, l3, l4⟩
      · have f1 : gI σ 18 (rI w) = -1 := by rw [er]; exact l1
        have f2 : gI σ 55 (rI w) = -9 := by rw [er]; exact l2
        repeat (first
          | refine c5 (Nat.le_of_ble_eq_true rfl) (Nat.le_of_ble_eq_true rfl) rfl trivial (brbT (by first | assumption | decide | exact rfl | exact ne10 | exact ne20 | exact ne30) ?_)
          | refine c5 (Nat.le_of_ble_eq_true rfl) (Nat.le_of_ble_eq_true rfl) rfl trivial (brbF (by first | assumption | decide | exact rfl | exact ne10 | exact ne20 | exact ne30) ?_)
          | refine c4 (Nat.le_of_ble_eq_true rfl) rfl trivial (brbT (by first | assumption | decide | exact rfl | exact ne10 | exact ne20 | exact ne30) ?_)
          | refine c4 (Nat.le_of_ble_eq_true rfl) rfl trivial (brbF (by first | assumption | decide | exact rfl | exact ne10 | exact ne20 | exact ne30) ?_)
          | refine c4 (Nat.le_of_ble_eq_true rfl) (Nat.le_of_ble_eq_true rfl) rfl ?_
          | refine c3 (Nat.le_of_ble_eq_true rfl) rfl ?_
          | refine And.intro (by first | assumption | exact trivial) ?_
          | refine brbT (by first | assumption | decide | exact rfl | exact ne10 | exact ne20 | exact ne30) ?_
          | refine brbF (by first | assumption | decide | exact rfl | exact ne10 | exact ne20 | exact ne30) ?_
          | refine br_t (by first | assumption | decide | exact rfl | exact ne10 | exact ne20 | exact ne30) ?_
          | refine br_f (by first | assumption | decide | exact rfl | exact ne10 | exact ne20 | exact ne30) ?_
          | refine Exists.intro _ (And.intro rfl (And.intro rfl ?_)))
        refine ⟨rfl, ?_⟩
        show Inv (sI (sI (sI (sI σ 0 12 0) 0 12 1) 42 0 0) 42 0 1)
        rw [sI_twice, sI_twice]
        exact h0.fault 1
      · have f1 : ¬ gI σ 18 (rI w) = -1 := by rw [er]; exact l1
        have f2 : ¬ gI σ 55 (rI w) = -9 := by rw [er]; exact l2
        have l3' : gI σ 55 (rI w) = gI σ 18 (rI w) := by rw [er]; exact l3
        by_cases q3 : gI σ 18 (rI w) = ln
        · have q3' : gI σ 55 (rI w) = ln := by rw [l3']; exact q3
          obtain ⟨z1, n, hn, hz⟩ := hS.2.1 k (by omega)
          by_cases q4 : 0 ≤ i ∧ i ≤ gI σ 19 (rI w) - 1
          · have q5 : 0 ≤ i ∧ i ≤ gI σ 56 (rI w) - 1 := by rw [er, z1, ← er]; exact q4
            obtain ⟨ii, hii, hi⟩ : ∃ j, j < n ∧ i = nI j := by
              refine idx_of ⟨q4.1, ?_⟩ (by omega)
              rw [← hz]
              exact (cn_lt (cn_of hz hn (by decide)).1 (by decide) i).mp (by rw [← er]; exact q4.2)
            have hc := cell_of (k := k) (i := ii) hk (by omega)
            have hin2 : vp_in (w * 40 + i) 160 := by rw [hw, hi, hc.1]; exact inI (by omega) (by decide)
            have hin3 : vp_in (40 * w + i) 160 := by rw [hw, hi, hc.2]; exact inI (by omega) (by decide)
            have e1 : rI (w * 40 + i) = 40 * k + ii := by rw [hw, hi, hc.1]; exact rI_nI (by omega)
            have e2 : rI (40 * w + i) = 40 * k + ii := by rw [hw, hi, hc.2]; exact rI_nI (by omega)
            repeat (first
              | refine c5 (Nat.le_of_ble_eq_true rfl) (Nat.le_of_ble_eq_true rfl) rfl trivial (brbT (by first | assumption | decide | exact rfl | exact ne10 | exact ne20 | exact ne30) ?_)
              | refine c5 (Nat.le_of_ble_eq_true rfl) (Nat.le_of_ble_eq_true rfl) rfl trivial (brbF (by first | assumption | decide | exact rfl | exact ne10 | exact ne20 | exact ne30) ?_)
              | refine c4 (Nat.le_of_ble_eq_true rfl) rfl trivial (brbT (by first | assumption | decide | exact rfl | exact ne10 | exact ne20 | exact ne30) ?_)
              | refine c4 (Nat.le_of_ble_eq_true rfl) rfl trivial (brbF (by first | assumption | decide | exact rfl | exact ne10 | exact ne20 | exact ne30) ?_)
              | refine c4 (Nat.le_of_ble_eq_true rfl) (Nat.le_of_ble_eq_true rfl) rfl ?_
              | refine c3 (Nat.le_of_ble_eq_true rfl) rfl ?_
              | refine And.intro (by first | assumption | exact trivial) ?_
              | refine brbT (by first | assumption | decide | exact rfl | exact ne10 | exact ne20 | exact ne30) ?_
              | refine brbF (by first | assumption | decide | exact rfl | exact ne10 | exact ne20 | exact ne30) ?_
              | refine br_t (by first | assumption | decide | exact rfl | exact ne10 | exact ne20 | exact ne30) ?_
              | refine br_f (by first | assumption | decide | exact rfl | exact ne10 | exact ne20 | exact ne30) ?_
              | refine Exists.intro _ (And.intro rfl (And.intro rfl ?_)))
            refine ⟨?_, ?_⟩
            · show some (Value.long (gI σ 57 (rI (40 * w + i))).toInt64) = some (Value.long (gI σ 20 (rI (w * 40 + i))).toInt64)
              rw [e1, e2, hS.2.2 _ (by omega)]
            · show Inv (sI (sI (sI σ 0 12 0) 0 12 0) 42 0 0)
              rw [sI_twice]
              exact h0.fault 0
          · have q5 : ¬ (0 ≤ i ∧ i ≤ gI σ 56 (rI w) - 1) := by rw [er, z1, ← er]; exact q4
            repeat (first
              | refine c5 (Nat.le_of_ble_eq_true rfl) (Nat.le_of_ble_eq_true rfl) rfl trivial (brbT (by first | assumption | decide | exact rfl | exact ne10 | exact ne20 | exact ne30) ?_)
              | refine c5 (Nat.le_of_ble_eq_true rfl) (Nat.le_of_ble_eq_true rfl) rfl trivial (brbF (by first | assumption | decide | exact rfl | exact ne10 | exact ne20 | exact ne30) ?_)
              | refine c4 (Nat.le_of_ble_eq_true rfl) rfl trivial (brbT (by first | assumption | decide | exact rfl | exact ne10 | exact ne20 | exact ne30) ?_)
              | refine c4 (Nat.le_of_ble_eq_true rfl) rfl trivial (brbF (by first | assumption | decide | exact rfl | exact ne10 | exact ne20 | exact ne30) ?_)
              | refine c4 (Nat.le_of_ble_eq_true rfl) (Nat.le_of_ble_eq_true rfl) rfl ?_
              | refine c3 (Nat.le_of_ble_eq_true rfl) rfl ?_
              | refine And.intro (by first | assumption | exact trivial) ?_
              | refine brbT (by first | assumption | decide | exact rfl | exact ne10 | exact ne20 | exact ne30) ?_
              | refine brbF (by first | assumption | decide | exact rfl | exact ne10 | exact ne20 | exact ne30) ?_
              | refine br_t (by first | assumption | decide | exact rfl | exact ne10 | exact ne20 | exact ne30) ?_
              | refine br_f (by first | assumption | decide | exact rfl | exact ne10 | exact ne20 | exact ne30) ?_
              | refine Exists.intro _ (And.intro rfl (And.intro rfl ?_)))
            refine ⟨rfl, ?_⟩
            show Inv (sI (sI (sI (sI (sI σ 0 12 0) 0 12 0) 0 12 3) 42 0 0) 42 0 3)
            rw [sI_twice, sI_twice, sI_twice]
            exact h0.fault 3
        · have q3' : ¬ gI σ 55 (rI w) = ln := by rw [l3']; exact q3
          repeat (first
            | refine c5 (Nat.le_of_ble_eq_true rfl) (Nat.le_of_ble_eq_true rfl) rfl trivial (brbT (by first | assumption | decide | exact rfl | exact ne10 | exact ne20 | exact ne30) ?_)
            | refine c5 (Nat.le_of_ble_eq_true rfl) (Nat.le_of_ble_eq_true rfl) rfl trivial (brbF (by first | assumption | decide | exact rfl | exact ne10 | exact ne20 | exact ne30) ?_)
            | refine c4 (Nat.le_of_ble_eq_true rfl) rfl trivial (brbT (by first | assumption | decide | exact rfl | exact ne10 | exact ne20 | exact ne30) ?_)
            | refine c4 (Nat.le_of_ble_eq_true rfl) rfl trivial (brbF (by first | assumption | decide | exact rfl | exact ne10 | exact ne20 | exact ne30) ?_)
            | refine c4 (Nat.le_of_ble_eq_true rfl) (Nat.le_of_ble_eq_true rfl) rfl ?_
            | refine c3 (Nat.le_of_ble_eq_true rfl) rfl ?_
            | refine And.intro (by first | assumption | exact trivial) ?_
            | refine brbT (by first | assumption | decide | exact rfl | exact ne10 | exact ne20 | exact ne30) ?_
            | refine brbF (by first | assumption | decide | exact rfl | exact ne10 | exact ne20 | exact ne30) ?_
            | refine br_t (by first | assumption | decide | exact rfl | exact ne10 | exact ne20 | exact ne30) ?_
            | refine br_f (by first | assumption | decide | exact rfl | exact ne10 | exact ne20 | exact ne30) ?_
            | refine Exists.intro _ (And.intro rfl (And.intro rfl ?_)))
          refine ⟨rfl, ?_⟩
          show Inv (sI (sI (sI (sI σ 0 12 0) 0 12 2) 42 0 0) 42 0 2)
          rw [sI_twice, sI_twice]
          exact h0.fault 2
    · repeat (first
        | refine c5 (Nat.le_of_ble_eq_true rfl) (Nat.le_of_ble_eq_true rfl) rfl trivial (brbT (by first | assumption | decide | exact rfl | exact ne10 | exact ne20 | exact ne30) ?_)
        | refine c5 (Nat.le_of_ble_eq_true rfl) (Nat.le_of_ble_eq_true rfl) rfl trivial (brbF (by first | assumption | decide | exact rfl | exact ne10 | exact ne20 | exact ne30) ?_)
        | refine c4 (Nat.le_of_ble_eq_true rfl) rfl trivial (brbT (by first | assumption | decide | exact rfl | exact ne10 | exact ne20 | exact ne30) ?_)
        | refine c4 (Nat.le_of_ble_eq_true rfl) rfl trivial (brbF (by first | assumption | decide | exact rfl | exact ne10 | exact ne20 | exact ne30) ?_)
        | refine c4 (Nat.le_of_ble_eq_true rfl) (Nat.le_of_ble_eq_true rfl) rfl ?_
        | refine c3 (Nat.le_of_ble_eq_true rfl) rfl ?_
        | refine And.intro (by first | assumption | exact trivial) ?_
        | refine brbT (by first | assumption | decide | exact rfl | exact ne10 | exact ne20 | exact ne30) ?_
        | refine brbF (by first | assumption | decide | exact rfl | exact ne10 | exact ne20 | exact ne30) ?_
        | refine br_t (by first | assumption | decide | exact rfl | exact ne10 | exact ne20 | exact ne30) ?_
        | refine br_f (by first | assumption | decide | exact rfl | exact ne10 | exact ne20 | exact ne30) ?_
        | refine Exists.intro _ (And.intro rfl (And.intro rfl ?_)))
      exact ⟨rfl, h0.fault 0⟩
  · repeat (first
      | refine c5 (Nat.le_of_ble_eq_true rfl) (Nat.le_of_ble_eq_true rfl) rfl trivial (brbT (by first | assumption | decide | exact rfl | exact ne10 | exact ne20 | exact ne30) ?_)
      | refine c5 (Nat.le_of_ble_eq_true rfl) (Nat.le_of_ble_eq_true rfl) rfl trivial (brbF (by first | assumption | decide | exact rfl | exact ne10 | exact ne20 | exact ne30) ?_)
      | refine c4 (Nat.le_of_ble_eq_true rfl) rfl trivial (brbT (by first | assumption | decide | exact rfl | exact ne10 | exact ne20 | exact ne30) ?_)
      | refine c4 (Nat.le_of_ble_eq_true rfl) rfl trivial (brbF (by first | assumption | decide | exact rfl | exact ne10 | exact ne20 | exact ne30) ?_)
      | refine c4 (Nat.le_of_ble_eq_true rfl) (Nat.le_of_ble_eq_true rfl) rfl ?_
      | refine c3 (Nat.le_of_ble_eq_true rfl) rfl ?_
      | refine And.intro (by first | assumption | exact trivial) ?_
      | refine brbT (by first | assumption | decide | exact rfl | exact ne10 | exact ne20 | exact ne30) ?_
      | refine brbF (by first | assumption | decide | exact rfl | exact ne10 | exact ne20 | exact ne30) ?_
      | refine br_t (by first | assumption | decide | exact rfl | exact ne10 | exact ne20 | exact ne30) ?_
      | refine br_f (by first | assumption | decide | exact rfl | exact ne10 | exact ne20 | exact ne30) ?_
      | refine Exists.intro _ (And.intro rfl (And.intro rfl ?_)))
    exact ⟨rfl, h0.fault 0⟩
