theorem cnT {σ : Mem} {nT : Nat} (h : IT σ nT) : cn (gI σ 1 2) 30 := (cn_of h.2.1 h.1 (by decide)).1
theorem hasT {σ : Mem} {nT : Nat} (h : IT σ nT) (t : Int32) : (0 ≤ t ∧ t ≤ gI σ 1 2 - 1) ↔ (0 ≤ t ∧ t < gI σ 42 2) := by
  rw [cn_lt (cnT h) (by decide), h.2.1, h.2.2.1]
theorem cnH {σ : Mem} {nT nH : Nat} (h : IH σ nT nH) : cn (gI σ 4 4) 240 := (cn_of h.2.1 h.1 (by decide)).1
theorem hasH {σ : Mem} {nT nH : Nat} (h : IH σ nT nH) (t : Int32) : (0 ≤ t ∧ t ≤ gI σ 4 4 - 1) ↔ (0 ≤ t ∧ t < gI σ 42 5) := by
  rw [cn_lt (cnH h) (by decide), h.2.1, h.2.2.1]
theorem idx_of {t : Int32} {n : Nat} (h : 0 ≤ t ∧ t < nI n) (hn : n < 2 ^ 31) : ∃ j, j < n ∧ t = nI j := by
  obtain ⟨j, h1, h2⟩ := nI_of (Int32.not_lt.mpr h.1)
  refine ⟨j, ?_, h2⟩
  have := h.2
  rw [h2] at this
  exact (nI_ltI h1 hn).mp this
theorem kd_eq {nT : Nat} {t tm lo hi : Int32} (h : okHit nT t tm lo hi) : kdM lo hi = kdT lo hi := by
  obtain ⟨-, -, -, ⟨h1, h2⟩, h3⟩ := h
  unfold kdM kdT
  by_cases c : lo < 255
  · rw [if_pos c, if_pos c]
  · rw [if_neg c, if_neg c]
    by_cases e : hi = -1
    · rw [if_pos e, if_pos (by rw [e]; decide)]
    · rw [if_neg e, if_neg]
      intro z
      apply e
      rw [ltI] at z
      rw [leI] at h1
      rw [eqI]
      have e1 : (-1 : Int32).toInt = -1 := by decide
      have e2 : (0 : Int32).toInt = 0 := by decide
      omega
theorem am_eq {nT : Nat} {t tm lo hi : Int32} (h : okHit nT t tm lo hi) : amM lo hi = amT lo hi := by
  have hk := kd_eq h
  obtain ⟨-, -, ⟨l1, l2⟩, ⟨h1, h2⟩, h3⟩ := h
  unfold amM amT
  rw [hk]
  by_cases c : lo < 255
  · have e : hi = -1 := by
      rcases h3 with z | z
      · rw [z] at c; exact absurd c (by decide)
      · exact z
    have k0 : kdT lo hi = 0 := by rw [kdT, if_pos c]
    rw [k0, if_neg (by decide), if_neg (by decide), if_pos e]
  · by_cases e : hi = -1
    · have k0 : kdT lo hi = 2 := by rw [kdT, if_neg c, if_pos e]
      rw [k0, if_neg (by decide), if_neg (by decide), if_pos e]
    · by_cases g : hi < 255
      · have k0 : kdT lo hi = 1 := by rw [kdT, if_neg c, if_neg e, if_pos g]
        rw [k0, if_pos rfl, if_neg e]
      · have k0 : kdT lo hi = 3 := by rw [kdT, if_neg c, if_neg e, if_neg g]
        have e2 : hi = 255 := Int32.le_antisymm h2 (Int32.not_lt.mp g)
        rw [k0, if_neg (by decide), if_pos rfl, if_neg e, e2]
        decide
theorem okHit_of {nT : Nat} (hn : nT ≤ 30) {t tm lo hi : Int32} (h : hitR (nI nT) t tm lo hi = 0) : okHit nT t tm lo hi := by
  unfold hitR at h
  by_cases c : 0 ≤ t ∧ t < nI nT
  · rw [if_neg (fun z => z c)] at h
    by_cases d : (0 ≤ tm ∧ tm ≤ 20000) ∧ (0 ≤ lo ∧ lo ≤ 255) ∧ (-1 ≤ hi ∧ hi ≤ 255) ∧ (lo = 255 ∨ hi = -1)
    · exact ⟨idx_of c (by omega), d⟩
    · rw [if_neg d] at h
      exact absurd h (by decide)
  · rw [if_pos c] at h
    exact absurd h (by decide)
/-- what a HIT more leaves -/
def addT (σ : Mem) (n : Nat) (t tm lo hi : Int32) : Mem := sI (sI (sI (sI (sI σ 5 n t) 6 n tm) 7 n lo) 8 n hi) 4 4 (nI (n + 1))
def addM (σ : Mem) (n : Nat) (t tm lo hi : Int32) : Mem := sI (sI (sI (sI (sI σ 45 n t) 46 n tm) 47 n lo) 48 n hi) 42 5 (nI (n + 1))
theorem IH.add {σ : Mem} {nT nH : Nat} {t tm lo hi : Int32} (h : IH σ nT nH) (hn : nH < 240) (ho : okHit nT t tm lo hi) : IH (addM (addT σ nH t tm lo hi) nH t tm lo hi) nT (nH + 1) := by
  refine ⟨by omega, rfl, rfl, fun i hi => ?_⟩
  by_cases e : i = nH
  · subst e
    simp [gI_sI, addM, addT]
    exact ho
  · have := h.2.2.2 i (by omega)
    simp [gI_sI, addM, addT, e]
    simpa using this
theorem IE.off {σ σ' : Mem} {n : Nat} (hE : IE σ n) (h : ∀ k j, Ek k j → gI σ' k j = gI σ k j) (hp : gP σ' = gP σ) (hq : gQ σ' = gQ σ) : IE σ' n := IE.congr h hp hq hE
theorem prTank {σ : Mem} (h : Inv σ) (x y : Int32) : PRi spX9_tank spX10_tank [.int x, .int y] σ := by
  have h0 := h
  obtain ⟨nT, nH, nC, nD, ⟨hT, hH, hC, hD⟩, hR, hE⟩ := h
  obtain ⟨t1, t2, t3, t4⟩ := hT
  refine And.intro rfl ?_
  by_cases q1 : -100 ≤ x ∧ x ≤ 100
  · by_cases q2 : -100 ≤ y ∧ y ≤ 100
    · by_cases hn : nT < 30
      · have f1 : gI σ 1 2 < 30 := by rw [t2]; exact nI_lt hn (by decide)
        have f2 : ¬ gI σ 42 2 = 30 := by rw [t3]; exact fun z => absurd ((nI_eq (b := 30) (by omega) (by decide)).mp z) (by omega)
        have hin : vp_in (gI σ 1 2) 30 := by rw [t2]; exact inI hn (by decide)
        have hin2 : vp_in (gI σ 42 2) 30 := by rw [t3]; exact inI hn (by decide)
        have e1 : rI (gI σ 1 2) = nT := by rw [t2]; exact rI_nI (by omega)
        have e2 : rI (gI σ 42 2) = nT := by rw [t3]; exact rI_nI (by omega)
        repeat (first
          | refine c5 (Nat.le_of_ble_eq_true rfl) (Nat.le_of_ble_eq_true rfl) rfl trivial (brbT (by first | assumption | decide | exact rfl | exact ne10 | exact ne20 | exact ne30) ?_)
          | refine c5 (Nat.le_of_ble_eq_true rfl) (Nat.le_of_ble_eq_true rfl) rfl trivial (brbF (by first | assumption | decide | exact rfl | exact ne10 | exact ne20 | exact ne30) ?_)
          | refine c4 (Nat.le_of_ble_eq_true rfl) rfl trivial (brbT (by first | assumption | decide | exact rfl | exact ne10 | exact ne20 | exact ne30) ?_)
          | refine c4 (Nat.le_of_ble_eq_true rfl) rfl trivial (brbF (by first | assumption | decide | exact rfl | exact ne10 | exact ne20 | exact ne30) ?_)
          | refine c4 (Nat.le_of_ble_eq_true rfl) (Nat.le_of_ble_eq_true rfl) rfl ?_
          | refine c3 (Nat.le_of_ble_eq_true rfl) rfl ?_
          | refine And.intro (by first | assumption | exact trivial) ?_
          | refine brbT (by first | assumption | decide | exact rfl | exact ne10 | exact ne20 | exact ne30) ?_
          | refine brbF (by first | assumption | decide | exact rfl | exact ne10 | exact ne20 | exact ne30) ?_
          | refine br_t (by first | assumption | decide | exact rfl | exact ne10 | exact ne20 | exact ne30) ?_
          | refine br_f (by first | assumption | decide | exact rfl | exact ne10 | exact ne20 | exact ne30) ?_
          | refine Exists.intro _ (And.intro rfl (And.intro rfl ?_)))
        refine ⟨?_, ?_⟩
        · show some (Value.int (gI σ 42 2 + 1 - 1)) = some (Value.int (gI σ 1 2))
          rw [t2, t3, nI_1, nI_pred]
        · show Inv (sI (sI (sI (sI (sI (sI σ 2 (rI (gI σ 1 2)) x) 3 (rI (gI σ 1 2)) y) 1 2 (gI σ 1 2 + 1)) 43 (rI (gI σ 42 2)) x) 44 (rI (gI σ 42 2)) y) 42 2 (gI σ 42 2 + 1))
          rw [e1, e2]
          refine ⟨nT + 1, nH, nC, nD, ⟨⟨by omega, by rw [t2, nI_1]; rfl, by rw [t3, nI_1]; rfl, fun i hi => ?_⟩, hH.mono (Nat.le_succ nT), hC, hD⟩, hR, IE.congr (σ := σ) (fun k j hk => ?_) rfl rfl hE⟩
          · by_cases e : i = nT
            · simp [gI_sI, e, q1, q2]
            · have := t4 i (by omega)
              simp [gI_sI, e]
              exact this
          · unfold Ek at hk
            rw [gI_off (by omega), gI_off (by omega), gI_off (by omega), gI_off (by omega), gI_off (by omega), gI_off (by omega)]
      · have hn : nT = 30 := by omega
        subst hn
        have f1 : ¬ gI σ 1 2 < 30 := by rw [t2]; decide
        have f2 : gI σ 42 2 = 30 := t3
        repeat (first
          | refine c5 (Nat.le_of_ble_eq_true rfl) (Nat.le_of_ble_eq_true rfl) rfl trivial (brbT (by first | assumption | decide | exact rfl | exact ne10 | exact ne20 | exact ne30) ?_)
          | refine c5 (Nat.le_of_ble_eq_true rfl) (Nat.le_of_ble_eq_true rfl) rfl trivial (brbF (by first | assumption | decide | exact rfl | exact ne10 | exact ne20 | exact ne30) ?_)
          | refine c4 (Nat.le_of_ble_eq_true rfl) rfl trivial (brbT (by first | assumption | decide | exact rfl | exact ne10 | exact ne20 | exact ne30) ?_)
          | refine c4 (Nat.le_of_ble_eq_true rfl) rfl trivial (brbF (by first | assumption | decide | exact rfl | exact ne10 | exact ne20 | exact ne30) ?_)
          | refine c4 (Nat.le_of_ble_eq_true rfl) (Nat.le_of_ble_eq_true rfl) rfl ?_
          | refine c3 (Nat.le_of_ble_eq_true rfl) rfl ?_
          | refine And.intro (by first | assumption | exact trivial) ?_
          | refine brbT (by first | assumption | decide | exact rfl | exact ne10 | exact ne20 | exact ne30) ?_
          | refine brbF (by first | assumption | decide | exact rfl | exact ne10 | exact ne20 | exact ne30) ?_
          | refine br_t (by first | assumption | decide | exact rfl | exact ne10 | exact ne20 | exact ne30) ?_
          | refine br_f (by first | assumption | decide | exact rfl | exact ne10 | exact ne20 | exact ne30) ?_
          | refine Exists.intro _ (And.intro rfl (And.intro rfl ?_)))
        exact ⟨rfl, h0⟩
    · repeat (first
        | refine c5 (Nat.le_of_ble_eq_true rfl) (Nat.le_of_ble_eq_true rfl) rfl trivial (brbT (by first | assumption | decide | exact rfl | exact ne10 | exact ne20 | exact ne30) ?_)
        | refine c5 (Nat.le_of_ble_eq_true rfl) (Nat.le_of_ble_eq_true rfl) rfl trivial (brbF (by first | assumption | decide | exact rfl | exact ne10 | exact ne20 | exact ne30) ?_)
        | refine c4 (Nat.le_of_ble_eq_true rfl) rfl trivial (brbT (by first | assumption | decide | exact rfl | exact ne10 | exact ne20 | exact ne30) ?_)
        | refine c4 (Nat.le_of_ble_eq_true rfl) rfl trivial (brbF (by first | assumption | decide | exact rfl | exact ne10 | exact ne20 | exact ne30) ?_)
        | refine c4 (Nat.le_of_ble_eq_true rfl) (Nat.le_of_ble_eq_true rfl) rfl ?_
        | refine c3 (Nat.le_of_ble_eq_true rfl) rfl ?_
        | refine And.intro (by first | assumption | exact trivial) ?_
        | refine brbT (by first | assumption | decide | exact rfl | exact ne10 | exact ne20 | exact ne30) ?_
        | refine brbF (by first | assumption | decide | exact rfl | exact ne10 | exact ne20 | exact ne30) ?_
        | refine br_t (by first | assumption | decide | exact rfl | exact ne10 | exact ne20 | exact ne30) ?_
        | refine br_f (by first | assumption | decide | exact rfl | exact ne10 | exact ne20 | exact ne30) ?_
        | refine Exists.intro _ (And.intro rfl (And.intro rfl ?_)))
      exact ⟨rfl, h0⟩
  · repeat (first
      | refine c5 (Nat.le_of_ble_eq_true rfl) (Nat.le_of_ble_eq_true rfl) rfl trivial (brbT (by first | assumption | decide | exact rfl | exact ne10 | exact ne20 | exact ne30) ?_)
      | refine c5 (Nat.le_of_ble_eq_true rfl) (Nat.le_of_ble_eq_true rfl) rfl trivial (brbF (by first | assumption | decide | exact rfl | exact ne10 | exact ne20 | exact ne30) ?_)
      | refine c4 (Nat.le_of_ble_eq_true rfl) rfl trivial (brbT (by first | assumption | decide | exact rfl | exact ne10 | exact ne20 | exact ne30) ?_)
      | refine c4 (Nat.le_of_ble_eq_true rfl) rfl trivial (brbF (by first | assumption | decide | exact rfl | exact ne10 | exact ne20 | exact ne30) ?_)
      | refine c4 (Nat.le_of_ble_eq_true rfl) (Nat.le_of_ble_eq_true rfl) rfl ?_
      | refine c3 (Nat.le_of_ble_eq_true rfl) rfl ?_
      | refine And.intro (by first | assumption | exact trivial) ?_
      | refine brbT (by first | assumption | decide | exact rfl | exact ne10 | exact ne20 | exact ne30) ?_
      | refine brbF (by first | assumption | decide | exact rfl | exact ne10 | exact ne20 | exact ne30) ?_
      | refine br_t (by first | assumption | decide | exact rfl | exact ne10 | exact ne20 | exact ne30) ?_
      | refine br_f (by first | assumption | decide | exact rfl | exact ne10 | exact ne20 | exact ne30) ?_
      | refine Exists.intro _ (And.intro rfl (And.intro rfl ?_)))
    exact ⟨rfl, h0⟩
theorem prHit {σ : Mem} (h : Inv σ) (t tm lo hi : Int32) : PRi spX9_hit spX10_hit [.int t, .int tm, .int lo, .int hi] σ := by
  have h0 := h
  obtain ⟨nT, nH, nC, nD, ⟨hT, hH, hC, hD⟩, hR, hE⟩ := h
  have hcn := cnT hT
  refine And.intro rfl ?_
  by_cases q1 : hitR (gI σ 1 2) t tm lo hi = 0
  · have q2 : hitR (gI σ 42 2) t tm lo hi = 0 := by rw [hT.2.2.1, ← hT.2.1]; exact q1
    have ho : okHit nT t tm lo hi := okHit_of hT.1 (by rw [← hT.2.1]; exact q1)
    have t2 := hH.2.1
    have t3 := hH.2.2.1
    by_cases hn : nH < 240
    · have f1 : gI σ 4 4 < 240 := by rw [t2]; exact nI_lt hn (by decide)
      have f2 : ¬ gI σ 42 5 = 240 := by rw [t3]; exact fun z => absurd ((nI_eq (b := 240) (by omega) (by decide)).mp z) (by omega)
      have hin : vp_in (gI σ 4 4) 240 := by rw [t2]; exact inI hn (by decide)
      have hin2 : vp_in (gI σ 42 5) 240 := by rw [t3]; exact inI hn (by decide)
      have e1 : rI (gI σ 4 4) = nH := by rw [t2]; exact rI_nI (by omega)
      have e2 : rI (gI σ 42 5) = nH := by rw [t3]; exact rI_nI (by omega)
      repeat (first
        | refine c5 (Nat.le_of_ble_eq_true rfl) (Nat.le_of_ble_eq_true rfl) rfl trivial (brbT (by first | assumption | decide | exact rfl | exact ne10 | exact ne20 | exact ne30) ?_)
        | refine c5 (Nat.le_of_ble_eq_true rfl) (Nat.le_of_ble_eq_true rfl) rfl trivial (brbF (by first | assumption | decide | exact rfl | exact ne10 | exact ne20 | exact ne30) ?_)
        | refine c4 (Nat.le_of_ble_eq_true rfl) rfl trivial (brbT (by first | assumption | decide | exact rfl | exact ne10 | exact ne20 | exact ne30) ?_)
        | refine c4 (Nat.le_of_ble_eq_true rfl) rfl trivial (brbF (by first | assumption | decide | exact rfl | exact ne10 | exact ne20 | exact ne30) ?_)
        | refine c4 (Nat.le_of_ble_eq_true rfl) (Nat.le_of_ble_eq_true rfl) rfl ?_
        | refine c3 (Nat.le_of_ble_eq_true rfl) rfl ?_
        | refine And.intro (by first | assumption | exact trivial) ?_
        | refine brbT (by first | assumption | decide | exact rfl | exact ne10 | exact ne20 | exact ne30) ?_
        | refine brbF (by first | assumption | decide | exact rfl | exact ne10 | exact ne20 | exact ne30) ?_
        | refine br_t (by first | assumption | decide | exact rfl | exact ne10 | exact ne20 | exact ne30) ?_
        | refine br_f (by first | assumption | decide | exact rfl | exact ne10 | exact ne20 | exact ne30) ?_
        | refine Exists.intro _ (And.intro rfl (And.intro rfl ?_)))
      refine ⟨?_, ?_⟩
      · show some (Value.int (gI σ 42 5 + 1 - 1)) = some (Value.int (gI σ 4 4))
        rw [t2, t3, nI_1, nI_pred]
      · show Inv (sI (sI (sI (sI (sI (sI (sI (sI (sI (sI σ 5 (rI (gI σ 4 4)) t) 6 (rI (gI σ 4 4)) tm) 7 (rI (gI σ 4 4)) lo) 8 (rI (gI σ 4 4)) hi) 4 4 (gI σ 4 4 + 1)) 45 (rI (gI σ 42 5)) t) 46 (rI (gI σ 42 5)) tm) 47 (rI (gI σ 42 5)) lo) 48 (rI (gI σ 42 5)) hi) 42 5 (gI σ 42 5 + 1))
        rw [e1, e2, t2, t3, nI_1]
        refine ⟨nT, nH + 1, nC, nD, ⟨hT, hH.add hn ho, hC, hD⟩, hR, IE.mono (IE.congr (σ := σ) (fun k j hk => ?_) rfl rfl hE) (Nat.le_succ nH)⟩
        unfold Ek at hk
        rw [gI_off (by omega), gI_off (by omega), gI_off (by omega), gI_off (by omega), gI_off (by omega), gI_off (by omega), gI_off (by omega), gI_off (by omega), gI_off (by omega), gI_off (by omega)]
    · have hn : nH = 240 := by have := hH.1; omega
      subst hn
      have f1 : ¬ gI σ 4 4 < 240 := by rw [t2]; decide
      have f2 : gI σ 42 5 = 240 := t3
      repeat (first
        | refine c5 (Nat.le_of_ble_eq_true rfl) (Nat.le_of_ble_eq_true rfl) rfl trivial (brbT (by first | assumption | decide | exact rfl | exact ne10 | exact ne20 | exact ne30) ?_)
        | refine c5 (Nat.le_of_ble_eq_true rfl) (Nat.le_of_ble_eq_true rfl) rfl trivial (brbF (by first | assumption | decide | exact rfl | exact ne10 | exact ne20 | exact ne30) ?_)
        | refine c4 (Nat.le_of_ble_eq_true rfl) rfl trivial (brbT (by first | assumption | decide | exact rfl | exact ne10 | exact ne20 | exact ne30) ?_)
        | refine c4 (Nat.le_of_ble_eq_true rfl) rfl trivial (brbF (by first | assumption | decide | exact rfl | exact ne10 | exact ne20 | exact ne30) ?_)
        | refine c4 (Nat.le_of_ble_eq_true rfl) (Nat.le_of_ble_eq_true rfl) rfl ?_
        | refine c3 (Nat.le_of_ble_eq_true rfl) rfl ?_
        | refine And.intro (by first | assumption | exact trivial) ?_
        | refine brbT (by first | assumption | decide | exact rfl | exact ne10 | exact ne20 | exact ne30) ?_
        | refine brbF (by first | assumption | decide | exact rfl | exact ne10 | exact ne20 | exact ne30) ?_
        | refine br_t (by first | assumption | decide | exact rfl | exact ne10 | exact ne20 | exact ne30) ?_
        | refine br_f (by first | assumption | decide | exact rfl | exact ne10 | exact ne20 | exact ne30) ?_
        | refine Exists.intro _ (And.intro rfl (And.intro rfl ?_)))
      exact ⟨rfl, h0⟩
  · have q2 : ¬ hitR (gI σ 42 2) t tm lo hi = 0 := by rw [hT.2.2.1, ← hT.2.1]; exact q1
    repeat (first
      | refine c5 (Nat.le_of_ble_eq_true rfl) (Nat.le_of_ble_eq_true rfl) rfl trivial (brbT (by first | assumption | decide | exact rfl | exact ne10 | exact ne20 | exact ne30) ?_)
      | refine c5 (Nat.le_of_ble_eq_true rfl) (Nat.le_of_ble_eq_true rfl) rfl trivial (brbF (by first | assumption | decide | exact rfl | exact ne10 | exact ne20 | exact ne30) ?_)
      | refine c4 (Nat.le_of_ble_eq_true rfl) rfl trivial (brbT (by first | assumption | decide | exact rfl | exact ne10 | exact ne20 | exact ne30) ?_)
      | refine c4 (Nat.le_of_ble_eq_true rfl) rfl trivial (brbF (by first | assumption | decide | exact rfl | exact ne10 | exact ne20 | exact ne30) ?_)
      | refine c4 (Nat.le_of_ble_eq_true rfl) (Nat.le_of_ble_eq_true rfl) rfl ?_
      | refine c3 (Nat.le_of_ble_eq_true rfl) rfl ?_
      | refine And.intro (by first | assumption | exact trivial) ?_
      | refine brbT (by first | assumption | decide | exact rfl | exact ne10 | exact ne20 | exact ne30) ?_
      | refine brbF (by first | assumption | decide | exact rfl | exact ne10 | exact ne20 | exact ne30) ?_
      | refine br_t (by first | assumption | decide | exact rfl | exact ne10 | exact ne20 | exact ne30) ?_
      | refine br_f (by first | assumption | decide | exact rfl | exact ne10 | exact ne20 | exact ne30) ?_
      | refine Exists.intro _ (And.intro rfl (And.intro rfl ?_)))
    exact ⟨by rw [hT.2.1, hT.2.2.1], h0⟩
theorem prClock {σ : Mem} (h : Inv σ) (t fr by_ : Int32) : PRi spX9_clock spX10_clock [.int t, .int fr, .int by_] σ := by
  have h0 := h
  obtain ⟨nT, nH, nC, nD, ⟨hT, hH, hC, hD⟩, hR, hE⟩ := h
  have hcn := cnT hT
  refine And.intro rfl ?_
  by_cases q1 : 0 ≤ t ∧ t < gI σ 42 2
  · have q1' := (hasT hT t).mpr q1
    by_cases q2 : 0 ≤ fr ∧ fr ≤ 20000
    · by_cases q3 : -500 ≤ by_ ∧ by_ ≤ 500
      · have t2 := hC.2.1
        have t3 := hC.2.2.1
        by_cases hn : nC < 20
        · have f1 : gI σ 9 3 < 20 := by rw [t2]; exact nI_lt hn (by decide)
          have f2 : ¬ gI σ 42 10 = 20 := by rw [t3]; exact fun z => absurd ((nI_eq (b := 20) (by omega) (by decide)).mp z) (by omega)
          have hin : vp_in (gI σ 9 3) 20 := by rw [t2]; exact inI hn (by decide)
          have hin2 : vp_in (gI σ 42 10) 20 := by rw [t3]; exact inI hn (by decide)
          have e1 : rI (gI σ 9 3) = nC := by rw [t2]; exact rI_nI (by omega)
          have e2 : rI (gI σ 42 10) = nC := by rw [t3]; exact rI_nI (by omega)
          repeat (first
            | refine c5 (Nat.le_of_ble_eq_true rfl) (Nat.le_of_ble_eq_true rfl) rfl trivial (brbT (by first | assumption | decide | exact rfl | exact ne10 | exact ne20 | exact ne30) ?_)
            | refine c5 (Nat.le_of_ble_eq_true rfl) (Nat.le_of_ble_eq_true rfl) rfl trivial (brbF (by first | assumption | decide | exact rfl | exact ne10 | exact ne20 | exact ne30) ?_)
            | refine c4 (Nat.le_of_ble_eq_true rfl) rfl trivial (brbT (by first | assumption | decide | exact rfl | exact ne10 | exact ne20 | exact ne30) ?_)
            | refine c4 (Nat.le_of_ble_eq_true rfl) rfl trivial (brbF (by first | assumption | decide | exact rfl | exact ne10 | exact ne20 | exact ne30) ?_)
            | refine c4 (Nat.le_of_ble_eq_true rfl) (Nat.le_of_ble_eq_true rfl) rfl ?_
            | refine c3 (Nat.le_of_ble_eq_true rfl) rfl ?_
            | refine And.intro (by first | assumption | exact trivial) ?_
            | refine brbT (by first | assumption | decide | exact rfl | exact ne10 | exact ne20 | exact ne30) ?_
            | refine brbF (by first | assumption | decide | exact rfl | exact ne10 | exact ne20 | exact ne30) ?_
            | refine br_t (by first | assumption | decide | exact rfl | exact ne10 | exact ne20 | exact ne30) ?_
            | refine br_f (by first | assumption | decide | exact rfl | exact ne10 | exact ne20 | exact ne30) ?_
            | refine Exists.intro _ (And.intro rfl (And.intro rfl ?_)))
          refine ⟨?_, ?_⟩
          · show some (Value.int (gI σ 42 10 + 1)) = some (Value.int (gI σ 9 3 + 1))
            rw [t2, t3]
          · show Inv (sI (sI (sI (sI (sI (sI (sI (sI σ 10 (rI (gI σ 9 3)) t) 11 (rI (gI σ 9 3)) fr) 12 (rI (gI σ 9 3)) by_) 9 3 (gI σ 9 3 + 1)) 49 (rI (gI σ 42 10)) t) 50 (rI (gI σ 42 10)) fr) 51 (rI (gI σ 42 10)) by_) 42 10 (gI σ 42 10 + 1))
            rw [e1, e2, t2, t3, nI_1]
            refine ⟨nT, nH, nC + 1, nD, ⟨hT, hH, ⟨by omega, rfl, rfl, fun i hi => ?_⟩, hD⟩, hR, IE.congr (σ := σ) (fun k j hk => ?_) rfl rfl hE⟩
            · by_cases e : i = nC
              · simp [gI_sI, e, q3]
              · have := hC.2.2.2 i (by omega)
                simp [gI_sI, e]
                exact this
            · unfold Ek at hk
              rw [gI_off (by omega), gI_off (by omega), gI_off (by omega), gI_off (by omega), gI_off (by omega), gI_off (by omega), gI_off (by omega), gI_off (by omega)]
        · have hn : nC = 20 := by have := hC.1; omega
          subst hn
          have f1 : ¬ gI σ 9 3 < 20 := by rw [t2]; decide
          have f2 : gI σ 42 10 = 20 := t3
          repeat (first
            | refine c5 (Nat.le_of_ble_eq_true rfl) (Nat.le_of_ble_eq_true rfl) rfl trivial (brbT (by first | assumption | decide | exact rfl | exact ne10 | exact ne20 | exact ne30) ?_)
            | refine c5 (Nat.le_of_ble_eq_true rfl) (Nat.le_of_ble_eq_true rfl) rfl trivial (brbF (by first | assumption | decide | exact rfl | exact ne10 | exact ne20 | exact ne30) ?_)
            | refine c4 (Nat.le_of_ble_eq_true rfl) rfl trivial (brbT (by first | assumption | decide | exact rfl | exact ne10 | exact ne20 | exact ne30) ?_)
            | refine c4 (Nat.le_of_ble_eq_true rfl) rfl trivial (brbF (by first | assumption | decide | exact rfl | exact ne10 | exact ne20 | exact ne30) ?_)
            | refine c4 (Nat.le_of_ble_eq_true rfl) (Nat.le_of_ble_eq_true rfl) rfl ?_
            | refine c3 (Nat.le_of_ble_eq_true rfl) rfl ?_
            | refine And.intro (by first | assumption | exact trivial) ?_
            | refine brbT (by first | assumption | decide | exact rfl | exact ne10 | exact ne20 | exact ne30) ?_
            | refine brbF (by first | assumption | decide | exact rfl | exact ne10 | exact ne20 | exact ne30) ?_
            | refine br_t (by first | assumption | decide | exact rfl | exact ne10 | exact ne20 | exact ne30) ?_
            | refine br_f (by first | assumption | decide | exact rfl | exact ne10 | exact ne20 | exact ne30) ?_
            | refine Exists.intro _ (And.intro rfl (And.intro rfl ?_)))
          exact ⟨rfl, h0⟩
      · repeat (first
          | refine c5 (Nat.le_of_ble_eq_true rfl) (Nat.le_of_ble_eq_true rfl) rfl trivial (brbT (by first | assumption | decide | exact rfl | exact ne10 | exact ne20 | exact ne30) ?_)
          | refine c5 (Nat.le_of_ble_eq_true rfl) (Nat.le_of_ble_eq_true rfl) rfl trivial (brbF (by first | assumption | decide | exact rfl | exact ne10 | exact ne20 | exact ne30) ?_)
          | refine c4 (Nat.le_of_ble_eq_true rfl) rfl trivial (brbT (by first | assumption | decide | exact rfl | exact ne10 | exact ne20 | exact ne30) ?_)
          | refine c4 (Nat.le_of_ble_eq_true rfl) rfl trivial (brbF (by first | assumption | decide | exact rfl | exact ne10 | exact ne20 | exact ne30) ?_)
          | refine c4 (Nat.le_of_ble_eq_true rfl) (Nat.le_of_ble_eq_true rfl) rfl ?_
          | refine c3 (Nat.le_of_ble_eq_true rfl) rfl ?_
          | refine And.intro (by first | assumption | exact trivial) ?_
          | refine brbT (by first | assumption | decide | exact rfl | exact ne10 | exact ne20 | exact ne30) ?_
          | refine brbF (by first | assumption | decide | exact rfl | exact ne10 | exact ne20 | exact ne30) ?_
          | refine br_t (by first | assumption | decide | exact rfl | exact ne10 | exact ne20 | exact ne30) ?_
          | refine br_f (by first | assumption | decide | exact rfl | exact ne10 | exact ne20 | exact ne30) ?_
          | refine Exists.intro _ (And.intro rfl (And.intro rfl ?_)))
        exact ⟨rfl, h0⟩
    · repeat (first
        | refine c5 (Nat.le_of_ble_eq_true rfl) (Nat.le_of_ble_eq_true rfl) rfl trivial (brbT (by first | assumption | decide | exact rfl | exact ne10 | exact ne20 | exact ne30) ?_)
        | refine c5 (Nat.le_of_ble_eq_true rfl) (Nat.le_of_ble_eq_true rfl) rfl trivial (brbF (by first | assumption | decide | exact rfl | exact ne10 | exact ne20 | exact ne30) ?_)
        | refine c4 (Nat.le_of_ble_eq_true rfl) rfl trivial (brbT (by first | assumption | decide | exact rfl | exact ne10 | exact ne20 | exact ne30) ?_)
        | refine c4 (Nat.le_of_ble_eq_true rfl) rfl trivial (brbF (by first | assumption | decide | exact rfl | exact ne10 | exact ne20 | exact ne30) ?_)
        | refine c4 (Nat.le_of_ble_eq_true rfl) (Nat.le_of_ble_eq_true rfl) rfl ?_
        | refine c3 (Nat.le_of_ble_eq_true rfl) rfl ?_
        | refine And.intro (by first | assumption | exact trivial) ?_
        | refine brbT (by first | assumption | decide | exact rfl | exact ne10 | exact ne20 | exact ne30) ?_
        | refine brbF (by first | assumption | decide | exact rfl | exact ne10 | exact ne20 | exact ne30) ?_
        | refine br_t (by first | assumption | decide | exact rfl | exact ne10 | exact ne20 | exact ne30) ?_
        | refine br_f (by first | assumption | decide | exact rfl | exact ne10 | exact ne20 | exact ne30) ?_
        | refine Exists.intro _ (And.intro rfl (And.intro rfl ?_)))
      exact ⟨rfl, h0⟩
  · have q1' : ¬ (0 ≤ t ∧ t ≤ gI σ 1 2 - 1) := fun z => q1 ((hasT hT t).mp z)
    repeat (first
      | refine c5 (Nat.le_of_ble_eq_true rfl) (Nat.le_of_ble_eq_true rfl) rfl trivial (brbT (by first | assumption | decide | exact rfl | exact ne10 | exact ne20 | exact ne30) ?_)
      | refine c5 (Nat.le_of_ble_eq_true rfl) (Nat.le_of_ble_eq_true rfl) rfl trivial (brbF (by first | assumption | decide | exact rfl | exact ne10 | exact ne20 | exact ne30) ?_)
      | refine c4 (Nat.le_of_ble_eq_true rfl) rfl trivial (brbT (by first | assumption | decide | exact rfl | exact ne10 | exact ne20 | exact ne30) ?_)
      | refine c4 (Nat.le_of_ble_eq_true rfl) rfl trivial (brbF (by first | assumption | decide | exact rfl | exact ne10 | exact ne20 | exact ne30) ?_)
      | refine c4 (Nat.le_of_ble_eq_true rfl) (Nat.le_of_ble_eq_true rfl) rfl ?_
      | refine c3 (Nat.le_of_ble_eq_true rfl) rfl ?_
      | refine And.intro (by first | assumption | exact trivial) ?_
      | refine brbT (by first | assumption | decide | exact rfl | exact ne10 | exact ne20 | exact ne30) ?_
      | refine brbF (by first | assumption | decide | exact rfl | exact ne10 | exact ne20 | exact ne30) ?_
      | refine br_t (by first | assumption | decide | exact rfl | exact ne10 | exact ne20 | exact ne30) ?_
      | refine br_f (by first | assumption | decide | exact rfl | exact ne10 | exact ne20 | exact ne30) ?_
      | refine Exists.intro _ (And.intro rfl (And.intro rfl ?_)))
    exact ⟨rfl, h0⟩
theorem prDown {σ : Mem} (h : Inv σ) (t fr to : Int32) : PRi spX9_down spX10_down [.int t, .int fr, .int to] σ := by
  have h0 := h
  obtain ⟨nT, nH, nC, nD, ⟨hT, hH, hC, hD⟩, hR, hE⟩ := h
  have hcn := cnT hT
  refine And.intro rfl ?_
  by_cases q1 : 0 ≤ t ∧ t < gI σ 42 2
  · have q1' := (hasT hT t).mpr q1
    by_cases q2 : 0 ≤ fr ∧ fr ≤ 20000
    · by_cases q3 : fr ≤ to ∧ to ≤ 20001
      · have q4 : (0 ≤ fr ∧ fr ≤ 20000) ∧ fr ≤ to ∧ to ≤ 20001 := ⟨q2, q3⟩
        have t2 := hD.2.1
        have t3 := hD.2.2.1
        by_cases hn : nD < 20
        · have f1 : gI σ 13 3 < 20 := by rw [t2]; exact nI_lt hn (by decide)
          have f2 : ¬ gI σ 42 14 = 20 := by rw [t3]; exact fun z => absurd ((nI_eq (b := 20) (by omega) (by decide)).mp z) (by omega)
          have hin : vp_in (gI σ 13 3) 20 := by rw [t2]; exact inI hn (by decide)
          have hin2 : vp_in (gI σ 42 14) 20 := by rw [t3]; exact inI hn (by decide)
          have e1 : rI (gI σ 13 3) = nD := by rw [t2]; exact rI_nI (by omega)
          have e2 : rI (gI σ 42 14) = nD := by rw [t3]; exact rI_nI (by omega)
          repeat (first
            | refine c5 (Nat.le_of_ble_eq_true rfl) (Nat.le_of_ble_eq_true rfl) rfl trivial (brbT (by first | assumption | decide | exact rfl | exact ne10 | exact ne20 | exact ne30) ?_)
            | refine c5 (Nat.le_of_ble_eq_true rfl) (Nat.le_of_ble_eq_true rfl) rfl trivial (brbF (by first | assumption | decide | exact rfl | exact ne10 | exact ne20 | exact ne30) ?_)
            | refine c4 (Nat.le_of_ble_eq_true rfl) rfl trivial (brbT (by first | assumption | decide | exact rfl | exact ne10 | exact ne20 | exact ne30) ?_)
            | refine c4 (Nat.le_of_ble_eq_true rfl) rfl trivial (brbF (by first | assumption | decide | exact rfl | exact ne10 | exact ne20 | exact ne30) ?_)
            | refine c4 (Nat.le_of_ble_eq_true rfl) (Nat.le_of_ble_eq_true rfl) rfl ?_
            | refine c3 (Nat.le_of_ble_eq_true rfl) rfl ?_
            | refine And.intro (by first | assumption | exact trivial) ?_
            | refine brbT (by first | assumption | decide | exact rfl | exact ne10 | exact ne20 | exact ne30) ?_
            | refine brbF (by first | assumption | decide | exact rfl | exact ne10 | exact ne20 | exact ne30) ?_
            | refine br_t (by first | assumption | decide | exact rfl | exact ne10 | exact ne20 | exact ne30) ?_
            | refine br_f (by first | assumption | decide | exact rfl | exact ne10 | exact ne20 | exact ne30) ?_
            | refine Exists.intro _ (And.intro rfl (And.intro rfl ?_)))
          refine ⟨?_, ?_⟩
          · show some (Value.int (gI σ 42 14 + 1)) = some (Value.int (gI σ 13 3 + 1))
            rw [t2, t3]
          · show Inv (sI (sI (sI (sI (sI (sI (sI (sI σ 14 (rI (gI σ 13 3)) t) 15 (rI (gI σ 13 3)) fr) 16 (rI (gI σ 13 3)) to) 13 3 (gI σ 13 3 + 1)) 52 (rI (gI σ 42 14)) t) 53 (rI (gI σ 42 14)) fr) 54 (rI (gI σ 42 14)) to) 42 14 (gI σ 42 14 + 1))
            rw [e1, e2, t2, t3, nI_1]
            refine ⟨nT, nH, nC, nD + 1, ⟨hT, hH, hC, ⟨by omega, rfl, rfl, fun i hi => ?_⟩⟩, hR, IE.congr (σ := σ) (fun k j hk => ?_) rfl rfl hE⟩
            · by_cases e : i = nD
              · simp [gI_sI, e, q2, q3]
              · have := hD.2.2.2 i (by omega)
                simp [gI_sI, e]
                exact this
            · unfold Ek at hk
              rw [gI_off (by omega), gI_off (by omega), gI_off (by omega), gI_off (by omega), gI_off (by omega), gI_off (by omega), gI_off (by omega), gI_off (by omega)]
        · have hn : nD = 20 := by have := hD.1; omega
          subst hn
          have f1 : ¬ gI σ 13 3 < 20 := by rw [t2]; decide
          have f2 : gI σ 42 14 = 20 := t3
          repeat (first
            | refine c5 (Nat.le_of_ble_eq_true rfl) (Nat.le_of_ble_eq_true rfl) rfl trivial (brbT (by first | assumption | decide | exact rfl | exact ne10 | exact ne20 | exact ne30) ?_)
            | refine c5 (Nat.le_of_ble_eq_true rfl) (Nat.le_of_ble_eq_true rfl) rfl trivial (brbF (by first | assumption | decide | exact rfl | exact ne10 | exact ne20 | exact ne30) ?_)
            | refine c4 (Nat.le_of_ble_eq_true rfl) rfl trivial (brbT (by first | assumption | decide | exact rfl | exact ne10 | exact ne20 | exact ne30) ?_)
            | refine c4 (Nat.le_of_ble_eq_true rfl) rfl trivial (brbF (by first | assumption | decide | exact rfl | exact ne10 | exact ne20 | exact ne30) ?_)
            | refine c4 (Nat.le_of_ble_eq_true rfl) (Nat.le_of_ble_eq_true rfl) rfl ?_
            | refine c3 (Nat.le_of_ble_eq_true rfl) rfl ?_
            | refine And.intro (by first | assumption | exact trivial) ?_
            | refine brbT (by first | assumption | decide | exact rfl | exact ne10 | exact ne20 | exact ne30) ?_
            | refine brbF (by first | assumption | decide | exact rfl | exact ne10 | exact ne20 | exact ne30) ?_
            | refine br_t (by first | assumption | decide | exact rfl | exact ne10 | exact ne20 | exact ne30) ?_
            | refine br_f (by first | assumption | decide | exact rfl | exact ne10 | exact ne20 | exact ne30) ?_
            | refine Exists.intro _ (And.intro rfl (And.intro rfl ?_)))
          exact ⟨rfl, h0⟩
      · have q4 : ¬ ((0 ≤ fr ∧ fr ≤ 20000) ∧ fr ≤ to ∧ to ≤ 20001) := fun z => q3 z.2
        repeat (first
          | refine c5 (Nat.le_of_ble_eq_true rfl) (Nat.le_of_ble_eq_true rfl) rfl trivial (brbT (by first | assumption | decide | exact rfl | exact ne10 | exact ne20 | exact ne30) ?_)
          | refine c5 (Nat.le_of_ble_eq_true rfl) (Nat.le_of_ble_eq_true rfl) rfl trivial (brbF (by first | assumption | decide | exact rfl | exact ne10 | exact ne20 | exact ne30) ?_)
          | refine c4 (Nat.le_of_ble_eq_true rfl) rfl trivial (brbT (by first | assumption | decide | exact rfl | exact ne10 | exact ne20 | exact ne30) ?_)
          | refine c4 (Nat.le_of_ble_eq_true rfl) rfl trivial (brbF (by first | assumption | decide | exact rfl | exact ne10 | exact ne20 | exact ne30) ?_)
          | refine c4 (Nat.le_of_ble_eq_true rfl) (Nat.le_of_ble_eq_true rfl) rfl ?_
          | refine c3 (Nat.le_of_ble_eq_true rfl) rfl ?_
          | refine And.intro (by first | assumption | exact trivial) ?_
          | refine brbT (by first | assumption | decide | exact rfl | exact ne10 | exact ne20 | exact ne30) ?_
          | refine brbF (by first | assumption | decide | exact rfl | exact ne10 | exact ne20 | exact ne30) ?_
          | refine br_t (by first | assumption | decide | exact rfl | exact ne10 | exact ne20 | exact ne30) ?_
          | refine br_f (by first | assumption | decide | exact rfl | exact ne10 | exact ne20 | exact ne30) ?_
          | refine Exists.intro _ (And.intro rfl (And.intro rfl ?_)))
        exact ⟨rfl, h0⟩
    · have q4 : ¬ ((0 ≤ fr ∧ fr ≤ 20000) ∧ fr ≤ to ∧ to ≤ 20001) := fun z => q2 z.1
      repeat (first
        | refine c5 (Nat.le_of_ble_eq_true rfl) (Nat.le_of_ble_eq_true rfl) rfl trivial (brbT (by first | assumption | decide | exact rfl | exact ne10 | exact ne20 | exact ne30) ?_)
        | refine c5 (Nat.le_of_ble_eq_true rfl) (Nat.le_of_ble_eq_true rfl) rfl trivial (brbF (by first | assumption | decide | exact rfl | exact ne10 | exact ne20 | exact ne30) ?_)
        | refine c4 (Nat.le_of_ble_eq_true rfl) rfl trivial (brbT (by first | assumption | decide | exact rfl | exact ne10 | exact ne20 | exact ne30) ?_)
        | refine c4 (Nat.le_of_ble_eq_true rfl) rfl trivial (brbF (by first | assumption | decide | exact rfl | exact ne10 | exact ne20 | exact ne30) ?_)
        | refine c4 (Nat.le_of_ble_eq_true rfl) (Nat.le_of_ble_eq_true rfl) rfl ?_
        | refine c3 (Nat.le_of_ble_eq_true rfl) rfl ?_
        | refine And.intro (by first | assumption | exact trivial) ?_
        | refine brbT (by first | assumption | decide | exact rfl | exact ne10 | exact ne20 | exact ne30) ?_
        | refine brbF (by first | assumption | decide | exact rfl | exact ne10 | exact ne20 | exact ne30) ?_
        | refine br_t (by first | assumption | decide | exact rfl | exact ne10 | exact ne20 | exact ne30) ?_
        | refine br_f (by first | assumption | decide | exact rfl | exact ne10 | exact ne20 | exact ne30) ?_
        | refine Exists.intro _ (And.intro rfl (And.intro rfl ?_)))
      exact ⟨rfl, h0⟩
  · have q1' : ¬ (0 ≤ t ∧ t ≤ gI σ 1 2 - 1) := fun z => q1 ((hasT hT t).mp z)
    repeat (first
      | refine c5 (Nat.le_of_ble_eq_true rfl) (Nat.le_of_ble_eq_true rfl) rfl trivial (brbT (by first | assumption | decide | exact rfl | exact ne10 | exact ne20 | exact ne30) ?_)
      | refine c5 (Nat.le_of_ble_eq_true rfl) (Nat.le_of_ble_eq_true rfl) rfl trivial (brbF (by first | assumption | decide | exact rfl | exact ne10 | exact ne20 | exact ne30) ?_)
      | refine c4 (Nat.le_of_ble_eq_true rfl) rfl trivial (brbT (by first | assumption | decide | exact rfl | exact ne10 | exact ne20 | exact ne30) ?_)
      | refine c4 (Nat.le_of_ble_eq_true rfl) rfl trivial (brbF (by first | assumption | decide | exact rfl | exact ne10 | exact ne20 | exact ne30) ?_)
      | refine c4 (Nat.le_of_ble_eq_true rfl) (Nat.le_of_ble_eq_true rfl) rfl ?_
      | refine c3 (Nat.le_of_ble_eq_true rfl) rfl ?_
      | refine And.intro (by first | assumption | exact trivial) ?_
      | refine brbT (by first | assumption | decide | exact rfl | exact ne10 | exact ne20 | exact ne30) ?_
      | refine brbF (by first | assumption | decide | exact rfl | exact ne10 | exact ne20 | exact ne30) ?_
      | refine br_t (by first | assumption | decide | exact rfl | exact ne10 | exact ne20 | exact ne30) ?_
      | refine br_f (by first | assumption | decide | exact rfl | exact ne10 | exact ne20 | exact ne30) ?_
      | refine Exists.intro _ (And.intro rfl (And.intro rfl ?_)))
    exact ⟨rfl, h0⟩
