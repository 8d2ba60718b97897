theorem prTank {σ : Mem} (h : Inv σ) (x y : Int32) : PRi spX9_tank spX10_tank [.int x, .int y] σ := by
  have h0 := h
  obtain ⟨nT, nH, nC, nD, ⟨hT, hH, hC, hD⟩, hR, hE⟩ := h
  obtain ⟨t1, t2, t3, t4⟩ := hT
  refine And.intro rfl ?_
  by_cases q1 : -100 ≤ x ∧ x ≤ 100
  · by_cases q2 : -100 ≤ y ∧ y ≤ 100
    · by_cases hn : nT < 30
      · have f1 : gI σ 1 2 < 30 := by rw [t2]; exact nI_lt hn (by decide)
        have f2 : ¬ gI σ 42 2 = 30 := by rw [t3]; exact fun z => absurd ((nI_eq (b := 30) (by omega) (by decide)).mp z) (by omega)
        have hin : vp_in (gI σ 1 2) 30 := by rw [t2]; exact inI hn (by decide)
        have hin2 : vp_in (gI σ 42 2) 30 := by rw [t3]; exact inI hn (by decide)
        have e1 : rI (gI σ 1 2) = nT := by rw [t2]; exact rI_nI (by omega)
        have e2 : rI (gI σ 42 2) = nT := by rw [t3]; exact rI_nI (by omega)
        repeat (first
          | refine c5 (Nat.le_of_ble_eq_true rfl) (Nat.le_of_ble_eq_true rfl) rfl trivial (brbT (by first | assumption | decide) ?_)
          | refine c5 (Nat.le_of_ble_eq_true rfl) (Nat.le_of_ble_eq_true rfl) rfl trivial (brbF (by first | assumption | decide) ?_)
          | refine c4 (Nat.le_of_ble_eq_true rfl) rfl trivial (brbT (by first | assumption | decide) ?_)
          | refine c4 (Nat.le_of_ble_eq_true rfl) rfl trivial (brbF (by first | assumption | decide) ?_)
          | refine c4 (Nat.le_of_ble_eq_true rfl) (Nat.le_of_ble_eq_true rfl) rfl ?_
          | refine c3 (Nat.le_of_ble_eq_true rfl) rfl ?_
          | refine And.intro (by first | assumption | exact trivial) ?_
          | refine br_t (by first | assumption | decide) ?_
          | refine br_f (by first | assumption | decide) ?_
          | refine Exists.intro _ (And.intro rfl (And.intro rfl ?_)))
        refine ⟨?_, ?_⟩
        · show some (Value.int (gI σ 42 2 + 1 - 1)) = some (Value.int (gI σ 1 2))
          rw [t2, t3, nI_1, nI_pred]
        · show Inv (sI (sI (sI (sI (sI (sI σ 2 (rI (gI σ 1 2)) x) 3 (rI (gI σ 1 2)) y) 1 2 (gI σ 1 2 + 1)) 43 (rI (gI σ 42 2)) x) 44 (rI (gI σ 42 2)) y) 42 2 (gI σ 42 2 + 1))
          rw [e1, e2]
          refine ⟨nT + 1, nH, nC, nD, ⟨⟨by omega, by rw [t2, nI_1]; rfl, by rw [t3, nI_1]; rfl, fun i hi => ?_⟩, hH.mono (Nat.le_succ nT), hC, hD⟩, hR, IE.congr (σ := σ) (fun k j hk => ?_) rfl rfl hE⟩
          · by_cases e : i = nT
            · simp [gI_sI, e, q1, q2]
            · have := t4 i (by omega)
              simp [gI_sI, e]
              exact this
          · unfold Ek at hk
            rw [gI_off (by omega), gI_off (by omega), gI_off (by omega), gI_off (by omega), gI_off (by omega), gI_off (by omega)]
      · have hn : nT = 30 := by omega
        subst hn
        have f1 : ¬ gI σ 1 2 < 30 := by rw [t2]; decide
        have f2 : gI σ 42 2 = 30 := t3
        repeat (first
          | refine c5 (Nat.le_of_ble_eq_true rfl) (Nat.le_of_ble_eq_true rfl) rfl trivial (brbT (by first | assumption | decide) ?_)
          | refine c5 (Nat.le_of_ble_eq_true rfl) (Nat.le_of_ble_eq_true rfl) rfl trivial (brbF (by first | assumption | decide) ?_)
          | refine c4 (Nat.le_of_ble_eq_true rfl) rfl trivial (brbT (by first | assumption | decide) ?_)
          | refine c4 (Nat.le_of_ble_eq_true rfl) rfl trivial (brbF (by first | assumption | decide) ?_)
          | refine c4 (Nat.le_of_ble_eq_true rfl) (Nat.le_of_ble_eq_true rfl) rfl ?_
          | refine c3 (Nat.le_of_ble_eq_true rfl) rfl ?_
          | refine And.intro (by first | assumption | exact trivial) ?_
          | refine br_t (by first | assumption | decide) ?_
          | refine br_f (by first | assumption | decide) ?_
          | refine Exists.intro _ (And.intro rfl (And.intro rfl ?_)))
        exact ⟨rfl, h0⟩
    · repeat (first
        | refine c5 (Nat.le_of_ble_eq_true rfl) (Nat.le_of_ble_eq_true rfl) rfl trivial (brbT (by first | assumption | decide) ?_)
        | refine c5 (Nat.le_of_ble_eq_true rfl) (Nat.le_of_ble_eq_true rfl) rfl trivial (brbF (by first | assumption | decide) ?_)
        | refine c4 (Nat.le_of_ble_eq_true rfl) rfl trivial (brbT (by first | assumption | decide) ?_)
        | refine c4 (Nat.le_of_ble_eq_true rfl) rfl trivial (brbF (by first | assumption | decide) ?_)
        | refine c4 (Nat.le_of_ble_eq_true rfl) (Nat.le_of_ble_eq_true rfl) rfl ?_
        | refine c3 (Nat.le_of_ble_eq_true rfl) rfl ?_
        | refine And.intro (by first | assumption | exact trivial) ?_
        | refine br_t (by first | assumption | decide) ?_
        | refine br_f (by first | assumption | decide) ?_
        | refine Exists.intro _ (And.intro rfl (And.intro rfl ?_)))
      exact ⟨rfl, h0⟩
  · repeat (first
      | refine c5 (Nat.le_of_ble_eq_true rfl) (Nat.le_of_ble_eq_true rfl) rfl trivial (brbT (by first | assumption | decide) ?_)
      | refine c5 (Nat.le_of_ble_eq_true rfl) (Nat.le_of_ble_eq_true rfl) rfl trivial (brbF (by first | assumption | decide) ?_)
      | refine c4 (Nat.le_of_ble_eq_true rfl) rfl trivial (brbT (by first | assumption | decide) ?_)
      | refine c4 (Nat.le_of_ble_eq_true rfl) rfl trivial (brbF (by first | assumption | decide) ?_)
      | refine c4 (Nat.le_of_ble_eq_true rfl) (Nat.le_of_ble_eq_true rfl) rfl ?_
      | refine c3 (Nat.le_of_ble_eq_true rfl) rfl ?_
      | refine And.intro (by first | assumption | exact trivial) ?_
      | refine br_t (by first | assumption | decide) ?_
      | refine br_f (by first | assumption | decide) ?_
      | refine Exists.intro _ (And.intro rfl (And.intro rfl ?_)))
    exact ⟨rfl, h0⟩
theorem i_vc : Claimed_1_1 ∧ Claimed_1_2 := sorry
