theorem idx_le {w M : Int32} {n : Nat} (hM : M.toInt = n) (h : 0 ≤ w ∧ w ≤ M) : ∃ k, k ≤ n ∧ w = nI k := nI_of2 hM (Int32.not_lt.mpr h.1) h.2
theorem prRule {σ : Mem} (h : Inv σ) (w v : Int32) : PRi spX9_rule spX10_rule [.int w, .int v] σ := by
  have h0 := h
  obtain ⟨nT, nH, nC, nD, hA, ⟨hS, hR, hX⟩, hE⟩ := h
  refine And.intro rfl ?_
  by_cases q1 : 0 ≤ w ∧ w ≤ 3
  · obtain ⟨k, hk, hw⟩ := idx_le (n := 3) (by decide) q1
    have hin : vp_in w 4 := by rw [hw]; exact inI (by omega) (by decide)
    have fin : ∀ k, k < 4 → (rlo k ≤ v ∧ v ≤ rhi k) → Inv (sI (sI σ 29 k v) 58 k v) := by
      intro k _ q2
      refine ⟨nT, nH, nC, nD, hA, ⟨hS, fun i hi => ?_, hX⟩, IE.congr (σ := σ) (fun k j hk => ?_) rfl rfl hE⟩
      · by_cases e : i = k
        · simp [gI_sI, e, q2]
        · have := hR i hi
          simp [gI_sI, e]
          exact this
      · unfold Ek at hk
        rw [gI_off (by omega), gI_off (by omega)]
    have res := fun k hk => (hR k hk).1
    rcases (by omega : k = 0 ∨ k = 1 ∨ k = 2 ∨ k = 3) with e | e | e | e
    · subst e
      subst hw
      by_cases q2 : (1 : Int32) ≤ v ∧ v ≤ 300
      · repeat (first
          | refine c5 (Nat.le_of_ble_eq_true rfl) (Nat.le_of_ble_eq_true rfl) rfl trivial (brbT (by first | assumption | decide | exact rfl | exact ne10 | exact ne20 | exact ne30) ?_)
          | refine c5 (Nat.le_of_ble_eq_true rfl) (Nat.le_of_ble_eq_true rfl) rfl trivial (brbF (by first | assumption | decide | exact rfl | exact ne10 | exact ne20 | exact ne30) ?_)
          | refine c4 (Nat.le_of_ble_eq_true rfl) rfl trivial (brbT (by first | assumption | decide | exact rfl | exact ne10 | exact ne20 | exact ne30) ?_)
          | refine c4 (Nat.le_of_ble_eq_true rfl) rfl trivial (brbF (by first | assumption | decide | exact rfl | exact ne10 | exact ne20 | exact ne30) ?_)
          | refine c4 (Nat.le_of_ble_eq_true rfl) (Nat.le_of_ble_eq_true rfl) rfl ?_
          | refine c3 (Nat.le_of_ble_eq_true rfl) rfl ?_
          | refine And.intro (by first | assumption | exact trivial) ?_
          | refine brbT (by first | assumption | decide | exact rfl | exact ne10 | exact ne20 | exact ne30) ?_
          | refine brbF (by first | assumption | decide | exact rfl | exact ne10 | exact ne20 | exact ne30) ?_
          | refine br_t (by first | assumption | decide | exact rfl | exact ne10 | exact ne20 | exact ne30) ?_
          | refine br_f (by first | assumption | decide | exact rfl | exact ne10 | exact ne20 | exact ne30) ?_
          | refine Exists.intro _ (And.intro rfl (And.intro rfl ?_)))
        exact ⟨congrArg (fun z => some (Value.int z)) (res 0 (by decide)), fin 0 (by decide) q2⟩
      · repeat (first
          | refine c5 (Nat.le_of_ble_eq_true rfl) (Nat.le_of_ble_eq_true rfl) rfl trivial (brbT (by first | assumption | decide | exact rfl | exact ne10 | exact ne20 | exact ne30) ?_)
          | refine c5 (Nat.le_of_ble_eq_true rfl) (Nat.le_of_ble_eq_true rfl) rfl trivial (brbF (by first | assumption | decide | exact rfl | exact ne10 | exact ne20 | exact ne30) ?_)
          | refine c4 (Nat.le_of_ble_eq_true rfl) rfl trivial (brbT (by first | assumption | decide | exact rfl | exact ne10 | exact ne20 | exact ne30) ?_)
          | refine c4 (Nat.le_of_ble_eq_true rfl) rfl trivial (brbF (by first | assumption | decide | exact rfl | exact ne10 | exact ne20 | exact ne30) ?_)
          | refine c4 (Nat.le_of_ble_eq_true rfl) (Nat.le_of_ble_eq_true rfl) rfl ?_
          | refine c3 (Nat.le_of_ble_eq_true rfl) rfl ?_
          | refine And.intro (by first | assumption | exact trivial) ?_
          | refine brbT (by first | assumption | decide | exact rfl | exact ne10 | exact ne20 | exact ne30) ?_
          | refine brbF (by first | assumption | decide | exact rfl | exact ne10 | exact ne20 | exact ne30) ?_
          | refine br_t (by first | assumption | decide | exact rfl | exact ne10 | exact ne20 | exact ne30) ?_
          | refine br_f (by first | assumption | decide | exact rfl | exact ne10 | exact ne20 | exact ne30) ?_
          | refine Exists.intro _ (And.intro rfl (And.intro rfl ?_)))
        exact ⟨rfl, h0⟩
    · subst e
      subst hw
      by_cases q2 : (1 : Int32) ≤ v ∧ v ≤ 300
      · repeat (first
          | refine c5 (Nat.le_of_ble_eq_true rfl) (Nat.le_of_ble_eq_true rfl) rfl trivial (brbT (by first | assumption | decide | exact rfl | exact ne10 | exact ne20 | exact ne30) ?_)
          | refine c5 (Nat.le_of_ble_eq_true rfl) (Nat.le_of_ble_eq_true rfl) rfl trivial (brbF (by first | assumption | decide | exact rfl | exact ne10 | exact ne20 | exact ne30) ?_)
          | refine c4 (Nat.le_of_ble_eq_true rfl) rfl trivial (brbT (by first | assumption | decide | exact rfl | exact ne10 | exact ne20 | exact ne30) ?_)
          | refine c4 (Nat.le_of_ble_eq_true rfl) rfl trivial (brbF (by first | assumption | decide | exact rfl | exact ne10 | exact ne20 | exact ne30) ?_)
          | refine c4 (Nat.le_of_ble_eq_true rfl) (Nat.le_of_ble_eq_true rfl) rfl ?_
          | refine c3 (Nat.le_of_ble_eq_true rfl) rfl ?_
          | refine And.intro (by first | assumption | exact trivial) ?_
          | refine brbT (by first | assumption | decide | exact rfl | exact ne10 | exact ne20 | exact ne30) ?_
          | refine brbF (by first | assumption | decide | exact rfl | exact ne10 | exact ne20 | exact ne30) ?_
          | refine br_t (by first | assumption | decide | exact rfl | exact ne10 | exact ne20 | exact ne30) ?_
          | refine br_f (by first | assumption | decide | exact rfl | exact ne10 | exact ne20 | exact ne30) ?_
          | refine Exists.intro _ (And.intro rfl (And.intro rfl ?_)))
        exact ⟨congrArg (fun z => some (Value.int z)) (res 1 (by decide)), fin 1 (by decide) q2⟩
      · repeat (first
          | refine c5 (Nat.le_of_ble_eq_true rfl) (Nat.le_of_ble_eq_true rfl) rfl trivial (brbT (by first | assumption | decide | exact rfl | exact ne10 | exact ne20 | exact ne30) ?_)
          | refine c5 (Nat.le_of_ble_eq_true rfl) (Nat.le_of_ble_eq_true rfl) rfl trivial (brbF (by first | assumption | decide | exact rfl | exact ne10 | exact ne20 | exact ne30) ?_)
          | refine c4 (Nat.le_of_ble_eq_true rfl) rfl trivial (brbT (by first | assumption | decide | exact rfl | exact ne10 | exact ne20 | exact ne30) ?_)
          | refine c4 (Nat.le_of_ble_eq_true rfl) rfl trivial (brbF (by first | assumption | decide | exact rfl | exact ne10 | exact ne20 | exact ne30) ?_)
          | refine c4 (Nat.le_of_ble_eq_true rfl) (Nat.le_of_ble_eq_true rfl) rfl ?_
          | refine c3 (Nat.le_of_ble_eq_true rfl) rfl ?_
          | refine And.intro (by first | assumption | exact trivial) ?_
          | refine brbT (by first | assumption | decide | exact rfl | exact ne10 | exact ne20 | exact ne30) ?_
          | refine brbF (by first | assumption | decide | exact rfl | exact ne10 | exact ne20 | exact ne30) ?_
          | refine br_t (by first | assumption | decide | exact rfl | exact ne10 | exact ne20 | exact ne30) ?_
          | refine br_f (by first | assumption | decide | exact rfl | exact ne10 | exact ne20 | exact ne30) ?_
          | refine Exists.intro _ (And.intro rfl (And.intro rfl ?_)))
        exact ⟨rfl, h0⟩
    · subst e
      subst hw
      by_cases q2 : (1 : Int32) ≤ v ∧ v ≤ 12
      · repeat (first
          | refine c5 (Nat.le_of_ble_eq_true rfl) (Nat.le_of_ble_eq_true rfl) rfl trivial (brbT (by first | assumption | decide | exact rfl | exact ne10 | exact ne20 | exact ne30) ?_)
          | refine c5 (Nat.le_of_ble_eq_true rfl) (Nat.le_of_ble_eq_true rfl) rfl trivial (brbF (by first | assumption | decide | exact rfl | exact ne10 | exact ne20 | exact ne30) ?_)
          | refine c4 (Nat.le_of_ble_eq_true rfl) rfl trivial (brbT (by first | assumption | decide | exact rfl | exact ne10 | exact ne20 | exact ne30) ?_)
          | refine c4 (Nat.le_of_ble_eq_true rfl) rfl trivial (brbF (by first | assumption | decide | exact rfl | exact ne10 | exact ne20 | exact ne30) ?_)
          | refine c4 (Nat.le_of_ble_eq_true rfl) (Nat.le_of_ble_eq_true rfl) rfl ?_
          | refine c3 (Nat.le_of_ble_eq_true rfl) rfl ?_
          | refine And.intro (by first | assumption | exact trivial) ?_
          | refine brbT (by first | assumption | decide | exact rfl | exact ne10 | exact ne20 | exact ne30) ?_
          | refine brbF (by first | assumption | decide | exact rfl | exact ne10 | exact ne20 | exact ne30) ?_
          | refine br_t (by first | assumption | decide | exact rfl | exact ne10 | exact ne20 | exact ne30) ?_
          | refine br_f (by first | assumption | decide | exact rfl | exact ne10 | exact ne20 | exact ne30) ?_
          | refine Exists.intro _ (And.intro rfl (And.intro rfl ?_)))
        exact ⟨congrArg (fun z => some (Value.int z)) (res 2 (by decide)), fin 2 (by decide) q2⟩
      · repeat (first
          | refine c5 (Nat.le_of_ble_eq_true rfl) (Nat.le_of_ble_eq_true rfl) rfl trivial (brbT (by first | assumption | decide | exact rfl | exact ne10 | exact ne20 | exact ne30) ?_)
          | refine c5 (Nat.le_of_ble_eq_true rfl) (Nat.le_of_ble_eq_true rfl) rfl trivial (brbF (by first | assumption | decide | exact rfl | exact ne10 | exact ne20 | exact ne30) ?_)
          | refine c4 (Nat.le_of_ble_eq_true rfl) rfl trivial (brbT (by first | assumption | decide | exact rfl | exact ne10 | exact ne20 | exact ne30) ?_)
          | refine c4 (Nat.le_of_ble_eq_true rfl) rfl trivial (brbF (by first | assumption | decide | exact rfl | exact ne10 | exact ne20 | exact ne30) ?_)
          | refine c4 (Nat.le_of_ble_eq_true rfl) (Nat.le_of_ble_eq_true rfl) rfl ?_
          | refine c3 (Nat.le_of_ble_eq_true rfl) rfl ?_
          | refine And.intro (by first | assumption | exact trivial) ?_
          | refine brbT (by first | assumption | decide | exact rfl | exact ne10 | exact ne20 | exact ne30) ?_
          | refine brbF (by first | assumption | decide | exact rfl | exact ne10 | exact ne20 | exact ne30) ?_
          | refine br_t (by first | assumption | decide | exact rfl | exact ne10 | exact ne20 | exact ne30) ?_
          | refine br_f (by first | assumption | decide | exact rfl | exact ne10 | exact ne20 | exact ne30) ?_
          | refine Exists.intro _ (And.intro rfl (And.intro rfl ?_)))
        exact ⟨rfl, h0⟩
    · subst e
      subst hw
      by_cases q2 : (0 : Int32) ≤ v ∧ v ≤ 4080
      · repeat (first
          | refine c5 (Nat.le_of_ble_eq_true rfl) (Nat.le_of_ble_eq_true rfl) rfl trivial (brbT (by first | assumption | decide | exact rfl | exact ne10 | exact ne20 | exact ne30) ?_)
          | refine c5 (Nat.le_of_ble_eq_true rfl) (Nat.le_of_ble_eq_true rfl) rfl trivial (brbF (by first | assumption | decide | exact rfl | exact ne10 | exact ne20 | exact ne30) ?_)
          | refine c4 (Nat.le_of_ble_eq_true rfl) rfl trivial (brbT (by first | assumption | decide | exact rfl | exact ne10 | exact ne20 | exact ne30) ?_)
          | refine c4 (Nat.le_of_ble_eq_true rfl) rfl trivial (brbF (by first | assumption | decide | exact rfl | exact ne10 | exact ne20 | exact ne30) ?_)
          | refine c4 (Nat.le_of_ble_eq_true rfl) (Nat.le_of_ble_eq_true rfl) rfl ?_
          | refine c3 (Nat.le_of_ble_eq_true rfl) rfl ?_
          | refine And.intro (by first | assumption | exact trivial) ?_
          | refine brbT (by first | assumption | decide | exact rfl | exact ne10 | exact ne20 | exact ne30) ?_
          | refine brbF (by first | assumption | decide | exact rfl | exact ne10 | exact ne20 | exact ne30) ?_
          | refine br_t (by first | assumption | decide | exact rfl | exact ne10 | exact ne20 | exact ne30) ?_
          | refine br_f (by first | assumption | decide | exact rfl | exact ne10 | exact ne20 | exact ne30) ?_
          | refine Exists.intro _ (And.intro rfl (And.intro rfl ?_)))
        exact ⟨congrArg (fun z => some (Value.int z)) (res 3 (by decide)), fin 3 (by decide) q2⟩
      · repeat (first
          | refine c5 (Nat.le_of_ble_eq_true rfl) (Nat.le_of_ble_eq_true rfl) rfl trivial (brbT (by first | assumption | decide | exact rfl | exact ne10 | exact ne20 | exact ne30) ?_)
          | refine c5 (Nat.le_of_ble_eq_true rfl) (Nat.le_of_ble_eq_true rfl) rfl trivial (brbF (by first | assumption | decide | exact rfl | exact ne10 | exact ne20 | exact ne30) ?_)
          | refine c4 (Nat.le_of_ble_eq_true rfl) rfl trivial (brbT (by first | assumption | decide | exact rfl | exact ne10 | exact ne20 | exact ne30) ?_)
          | refine c4 (Nat.le_of_ble_eq_true rfl) rfl trivial (brbF (by first | assumption | decide | exact rfl | exact ne10 | exact ne20 | exact ne30) ?_)
          | refine c4 (Nat.le_of_ble_eq_true rfl) (Nat.le_of_ble_eq_true rfl) rfl ?_
          | refine c3 (Nat.le_of_ble_eq_true rfl) rfl ?_
          | refine And.intro (by first | assumption | exact trivial) ?_
          | refine brbT (by first | assumption | decide | exact rfl | exact ne10 | exact ne20 | exact ne30) ?_
          | refine brbF (by first | assumption | decide | exact rfl | exact ne10 | exact ne20 | exact ne30) ?_
          | refine br_t (by first | assumption | decide | exact rfl | exact ne10 | exact ne20 | exact ne30) ?_
          | refine br_f (by first | assumption | decide | exact rfl | exact ne10 | exact ne20 | exact ne30) ?_
          | refine Exists.intro _ (And.intro rfl (And.intro rfl ?_)))
        exact ⟨rfl, h0⟩
  · repeat (first
      | refine c5 (Nat.le_of_ble_eq_true rfl) (Nat.le_of_ble_eq_true rfl) rfl trivial (brbT (by first | assumption | decide | exact rfl | exact ne10 | exact ne20 | exact ne30) ?_)
      | refine c5 (Nat.le_of_ble_eq_true rfl) (Nat.le_of_ble_eq_true rfl) rfl trivial (brbF (by first | assumption | decide | exact rfl | exact ne10 | exact ne20 | exact ne30) ?_)
      | refine c4 (Nat.le_of_ble_eq_true rfl) rfl trivial (brbT (by first | assumption | decide | exact rfl | exact ne10 | exact ne20 | exact ne30) ?_)
      | refine c4 (Nat.le_of_ble_eq_true rfl) rfl trivial (brbF (by first | assumption | decide | exact rfl | exact ne10 | exact ne20 | exact ne30) ?_)
      | refine c4 (Nat.le_of_ble_eq_true rfl) (Nat.le_of_ble_eq_true rfl) rfl ?_
      | refine c3 (Nat.le_of_ble_eq_true rfl) rfl ?_
      | refine And.intro (by first | assumption | exact trivial) ?_
      | refine brbT (by first | assumption | decide | exact rfl | exact ne10 | exact ne20 | exact ne30) ?_
      | refine brbF (by first | assumption | decide | exact rfl | exact ne10 | exact ne20 | exact ne30) ?_
      | refine br_t (by first | assumption | decide | exact rfl | exact ne10 | exact ne20 | exact ne30) ?_
      | refine br_f (by first | assumption | decide | exact rfl | exact ne10 | exact ne20 | exact ne30) ?_
      | refine Exists.intro _ (And.intro rfl (And.intro rfl ?_)))
    exact ⟨rfl, h0⟩
theorem lane_cases {σ : Mem} (h : IS σ) {k : Nat} (hk : k < 4) : (gI σ 18 k = -1 ∧ gI σ 55 k = -9) ∨ (¬ gI σ 18 k = -1 ∧ ¬ gI σ 55 k = -9 ∧ gI σ 55 k = gI σ 18 k ∧ (gI σ 18 k = 0 ∨ gI σ 18 k = 1 ∨ gI σ 18 k = 2)) := by
  rcases h.1 k hk with q | ⟨q1, q2⟩
  · exact Or.inl q
  · refine Or.inr ⟨?_, ?_, q1, q2⟩
    · rcases q2 with z | z | z <;> rw [z] <;> decide
    · rw [q1]; rcases q2 with z | z | z <;> rw [z] <;> decide
theorem prDrop {σ : Mem} (h : Inv σ) (w : Int32) : PRi spX9_drop spX10_drop [.int w] σ := by
  have h0 := h
  obtain ⟨nT, nH, nC, nD, hA, ⟨hS, hR, hX⟩, hE⟩ := h
  refine And.intro rfl ?_
  by_cases q1 : 0 ≤ w ∧ w ≤ 3
  · obtain ⟨k, hk, hw⟩ := idx_le (n := 3) (by decide) q1
    have hin : vp_in w 4 := by rw [hw]; exact inI (by omega) (by decide)
    have er : rI w = k := by rw [hw]; exact rI_nI (by omega)
    rcases lane_cases hS (k := k) (by omega) with ⟨l1, l2⟩ | ⟨l1, l2, -⟩
    · have f1 : gI σ 18 (rI w) = -1 := by rw [er]; exact l1
      have f2 : gI σ 55 (rI w) = -9 := by rw [er]; exact l2
      repeat (first
        | refine c5 (Nat.le_of_ble_eq_true rfl) (Nat.le_of_ble_eq_true rfl) rfl trivial (brbT (by first | assumption | decide | exact rfl | exact ne10 | exact ne20 | exact ne30) ?_)
        | refine c5 (Nat.le_of_ble_eq_true rfl) (Nat.le_of_ble_eq_true rfl) rfl trivial (brbF (by first | assumption | decide | exact rfl | exact ne10 | exact ne20 | exact ne30) ?_)
        | refine c4 (Nat.le_of_ble_eq_true rfl) rfl trivial (brbT (by first | assumption | decide | exact rfl | exact ne10 | exact ne20 | exact ne30) ?_)
        | refine c4 (Nat.le_of_ble_eq_true rfl) rfl trivial (brbF (by first | assumption | decide | exact rfl | exact ne10 | exact ne20 | exact ne30) ?_)
        | refine c4 (Nat.le_of_ble_eq_true rfl) (Nat.le_of_ble_eq_true rfl) rfl ?_
        | refine c3 (Nat.le_of_ble_eq_true rfl) rfl ?_
        | refine And.intro (by first | assumption | exact trivial) ?_
        | refine brbT (by first | assumption | decide | exact rfl | exact ne10 | exact ne20 | exact ne30) ?_
        | refine brbF (by first | assumption | decide | exact rfl | exact ne10 | exact ne20 | exact ne30) ?_
        | refine br_t (by first | assumption | decide | exact rfl | exact ne10 | exact ne20 | exact ne30) ?_
        | refine br_f (by first | assumption | decide | exact rfl | exact ne10 | exact ne20 | exact ne30) ?_
        | refine Exists.intro _ (And.intro rfl (And.intro rfl ?_)))
      refine ⟨rfl, ?_⟩
      show Inv (sI σ 55 (rI w) (-9))
      rw [er]
      refine ⟨nT, nH, nC, nD, hA, ⟨⟨fun i hi => ?_, hS.2⟩, hR, hX⟩, IE.congr (σ := σ) (fun k j hk => ?_) rfl rfl hE⟩
      · by_cases e : i = k
        · simp [gI_sI, e, l1]
        · have := hS.1 i hi
          simp [gI_sI, e]
          exact this
      · unfold Ek at hk
        rw [gI_off (by omega)]
    · have f1 : ¬ gI σ 18 (rI w) = -1 := by rw [er]; exact l1
      have f2 : ¬ gI σ 55 (rI w) = -9 := by rw [er]; exact l2
      repeat (first
        | refine c5 (Nat.le_of_ble_eq_true rfl) (Nat.le_of_ble_eq_true rfl) rfl trivial (brbT (by first | assumption | decide | exact rfl | exact ne10 | exact ne20 | exact ne30) ?_)
        | refine c5 (Nat.le_of_ble_eq_true rfl) (Nat.le_of_ble_eq_true rfl) rfl trivial (brbF (by first | assumption | decide | exact rfl | exact ne10 | exact ne20 | exact ne30) ?_)
        | refine c4 (Nat.le_of_ble_eq_true rfl) rfl trivial (brbT (by first | assumption | decide | exact rfl | exact ne10 | exact ne20 | exact ne30) ?_)
        | refine c4 (Nat.le_of_ble_eq_true rfl) rfl trivial (brbF (by first | assumption | decide | exact rfl | exact ne10 | exact ne20 | exact ne30) ?_)
        | refine c4 (Nat.le_of_ble_eq_true rfl) (Nat.le_of_ble_eq_true rfl) rfl ?_
        | refine c3 (Nat.le_of_ble_eq_true rfl) rfl ?_
        | refine And.intro (by first | assumption | exact trivial) ?_
        | refine brbT (by first | assumption | decide | exact rfl | exact ne10 | exact ne20 | exact ne30) ?_
        | refine brbF (by first | assumption | decide | exact rfl | exact ne10 | exact ne20 | exact ne30) ?_
        | refine br_t (by first | assumption | decide | exact rfl | exact ne10 | exact ne20 | exact ne30) ?_
        | refine br_f (by first | assumption | decide | exact rfl | exact ne10 | exact ne20 | exact ne30) ?_
        | refine Exists.intro _ (And.intro rfl (And.intro rfl ?_)))
      refine ⟨rfl, ?_⟩
      show Inv (sI (sI σ 18 (rI w) (-1)) 55 (rI w) (-9))
      rw [er]
      refine ⟨nT, nH, nC, nD, hA, ⟨⟨fun i hi => ?_, hS.2⟩, hR, hX⟩, IE.congr (σ := σ) (fun k j hk => ?_) rfl rfl hE⟩
      · by_cases e : i = k
        · simp [gI_sI, e]
        · have := hS.1 i hi
          simp [gI_sI, e]
          exact this
      · unfold Ek at hk
        rw [gI_off (by omega), gI_off (by omega)]
  · repeat (first
      | refine c5 (Nat.le_of_ble_eq_true rfl) (Nat.le_of_ble_eq_true rfl) rfl trivial (brbT (by first | assumption | decide | exact rfl | exact ne10 | exact ne20 | exact ne30) ?_)
      | refine c5 (Nat.le_of_ble_eq_true rfl) (Nat.le_of_ble_eq_true rfl) rfl trivial (brbF (by first | assumption | decide | exact rfl | exact ne10 | exact ne20 | exact ne30) ?_)
      | refine c4 (Nat.le_of_ble_eq_true rfl) rfl trivial (brbT (by first | assumption | decide | exact rfl | exact ne10 | exact ne20 | exact ne30) ?_)
      | refine c4 (Nat.le_of_ble_eq_true rfl) rfl trivial (brbF (by first | assumption | decide | exact rfl | exact ne10 | exact ne20 | exact ne30) ?_)
      | refine c4 (Nat.le_of_ble_eq_true rfl) (Nat.le_of_ble_eq_true rfl) rfl ?_
      | refine c3 (Nat.le_of_ble_eq_true rfl) rfl ?_
      | refine And.intro (by first | assumption | exact trivial) ?_
      | refine brbT (by first | assumption | decide | exact rfl | exact ne10 | exact ne20 | exact ne30) ?_
      | refine brbF (by first | assumption | decide | exact rfl | exact ne10 | exact ne20 | exact ne30) ?_
      | refine br_t (by first | assumption | decide | exact rfl | exact ne10 | exact ne20 | exact ne30) ?_
      | refine br_f (by first | assumption | decide | exact rfl | exact ne10 | exact ne20 | exact ne30) ?_
      | refine Exists.intro _ (And.intro rfl (And.intro rfl ?_)))
    exact ⟨rfl, h0⟩
