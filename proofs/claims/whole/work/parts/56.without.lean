def csX9_without : Cs := [(118, 1, true, spX8_has), (199, 2, true, spX9_findEvents)]
def spX9_without : SP := G [(2, [0]), (0, [])] (slf 2 pgX9_without csX9_without lcX9 false 13)
theorem bdX9_without : Body 2 pgX9_without roM csX9_without lcX9 false spX9_without := Body.slf
theorem mnX9_without : Mono spX9_without := Mono.slf (csM_cons mnX8_has (csM_cons mnX9_findEvents csM_nil))
def csX10_without : Cs := [(114, 1, true, spX10_isTank), (186, 1, true, spX10_make)]
def spX10_without : SP := G [(2, [42]), (0, [])] (slf 2 pgX10_without csX10_without lcX10 false 13)
theorem bdX10_without : Body 2 pgX10_without roM csX10_without lcX10 false spX10_without := Body.slf
theorem mnX10_without : Mono spX10_without := Mono.slf (csM_cons mnX10_isTank (csM_cons mnX10_make csM_nil))
theorem Inv.wo {σ τ : Mem} (h : Inv σ) (off : ∀ k j, ¬ ((21 ≤ k ∧ k ≤ 27) ∨ (59 ≤ k ∧ k ≤ 64) ∨ (k = 42 ∧ j = 26)) → gI τ k j = gI σ k j) (hp : gP τ = gP σ) (hq : gQ τ = gQ σ) : Inv τ := by
  obtain ⟨nT, nH, nC, nD, ⟨hT, hH, hC, hD⟩, ⟨hS, hR, hX⟩, hE⟩ := h
  refine ⟨nT, nH, nC, nD, ⟨?_, ?_, ?_, ?_⟩, ⟨?_, ?_, ?_⟩, IE.congr (σ := σ) (fun k j hk => off k j (by unfold Ek at hk; omega)) hp hq hE⟩
  · simpa [IT, off] using hT
  · simpa [IH, off] using hH
  · simpa [IC, off] using hC
  · simpa [ID, off] using hD
  · simpa [IS, off] using hS
  · simpa [IR, off] using hR
  · simpa [IX, off] using hX
set_option maxHeartbeats 8000000 in
theorem prWithout {σ : Mem} (h : Inv σ) (t : Int32) : PRi spX9_without spX10_without [.int t] σ := by
  have h0 := h
  obtain ⟨nT, nH, nC, nD, hA, ⟨hS, hR, hX⟩, hE⟩ := h
  refine And.intro rfl ?_
  by_cases q1 : 0 ≤ t ∧ t < gI σ 42 2
  · have q1' := (hasT hA.1 t).mpr q1
    obtain ⟨ok, dx, rl⟩ := datO_ok (lo := t) hA hR
    obtain ⟨rm, dm⟩ := datO_M (lo := t) (lo' := t) hA hR (fun _ _ => Iff.rfl)
    have hb : gP σ = 30 ∨ gP σ = 36 := by
      obtain ⟨b, nE, st, mh, hb, hgp, -⟩ := lat hE
      rw [hgp]; exact hb
    have S2a : ∀ k j, S2 k j → ¬ (k = 43 ∨ k = 44 ∨ k = 58 ∨ (k = 42 ∧ (j = 2 ∨ j = 5))) := fun k j z => by unfold S2 at z; omega
    have S2d : ∀ k j, S2 k j → ¬ ((45 ≤ k ∧ k ≤ 54) ∨ k = 58 ∨ (k = 42 ∧ (j = 10 ∨ j = 14))) := fun k j z => by unfold S2 at z; omega
    repeat (first
      | refine c5 (Nat.le_of_ble_eq_true rfl) (Nat.le_of_ble_eq_true rfl) rfl trivial (brbT (by first | assumption | decide | exact rfl | exact ne10 | exact ne20 | exact ne30) ?_)
      | refine c5 (Nat.le_of_ble_eq_true rfl) (Nat.le_of_ble_eq_true rfl) rfl trivial (brbF (by first | assumption | decide | exact rfl | exact ne10 | exact ne20 | exact ne30) ?_)
      | refine c4 (Nat.le_of_ble_eq_true rfl) rfl trivial (brbT (by first | assumption | decide | exact rfl | exact ne10 | exact ne20 | exact ne30) ?_)
      | refine c4 (Nat.le_of_ble_eq_true rfl) rfl trivial (brbF (by first | assumption | decide | exact rfl | exact ne10 | exact ne20 | exact ne30) ?_)
      | refine c4 (Nat.le_of_ble_eq_true rfl) (Nat.le_of_ble_eq_true rfl) rfl ?_
      | refine c3 (Nat.le_of_ble_eq_true rfl) rfl ?_
      | refine And.intro (by first | assumption | exact trivial) ?_
      | refine brbT (by first | assumption | decide | exact rfl | exact ne10 | exact ne20 | exact ne30) ?_
      | refine brbF (by first | assumption | decide | exact rfl | exact ne10 | exact ne20 | exact ne30) ?_
      | refine br_t (by first | assumption | decide | exact rfl | exact ne10 | exact ne20 | exact ne30) ?_
      | refine br_f (by first | assumption | decide | exact rfl | exact ne10 | exact ne20 | exact ne30) ?_
      | refine Exists.intro _ (And.intro rfl (And.intro rfl ?_)))
    refine ⟨datO σ t nT nH, t, 0, gP σ, rfl, hb, rfl, ok, dx, rl, Or.inl rfl, fun z => absurd z (by decide), fun τ' F n hn ev hF h0' _ => ?_⟩
    have f2 := h0' rfl
    have q2 : 0 ≤ t ∧ t < gI τ' 42 2 := by rw [f2.1 _ _ (fun z => by unfold S2 at z; omega)]; exact q1
    clear q1 q1'
    repeat (first
      | refine c5 (Nat.le_of_ble_eq_true rfl) (Nat.le_of_ble_eq_true rfl) rfl trivial (brbT (by first | assumption | decide | exact rfl | exact ne10 | exact ne20 | exact ne30) ?_)
      | refine c5 (Nat.le_of_ble_eq_true rfl) (Nat.le_of_ble_eq_true rfl) rfl trivial (brbF (by first | assumption | decide | exact rfl | exact ne10 | exact ne20 | exact ne30) ?_)
      | refine c4 (Nat.le_of_ble_eq_true rfl) rfl trivial (brbT (by first | assumption | decide | exact rfl | exact ne10 | exact ne20 | exact ne30) ?_)
      | refine c4 (Nat.le_of_ble_eq_true rfl) rfl trivial (brbF (by first | assumption | decide | exact rfl | exact ne10 | exact ne20 | exact ne30) ?_)
      | refine c4 (Nat.le_of_ble_eq_true rfl) (Nat.le_of_ble_eq_true rfl) rfl ?_
      | refine c3 (Nat.le_of_ble_eq_true rfl) rfl ?_
      | refine And.intro (by first | assumption | exact trivial) ?_
      | refine brbT (by first | assumption | decide | exact rfl | exact ne10 | exact ne20 | exact ne30) ?_
      | refine brbF (by first | assumption | decide | exact rfl | exact ne10 | exact ne20 | exact ne30) ?_
      | refine br_t (by first | assumption | decide | exact rfl | exact ne10 | exact ne20 | exact ne30) ?_
      | refine br_f (by first | assumption | decide | exact rfl | exact ne10 | exact ne20 | exact ne30) ?_
      | refine Exists.intro _ (And.intro rfl (And.intro rfl ?_)))
    refine ⟨datO σ t nT nH, t, rfl, ok, rm.fr f2 S2a, dm.fr f2 S2d, fun τ'' F' Gp e f3 _ _ ev' he e26 _ => ?_⟩
    obtain ⟨e1, -⟩ := ev.uniq ev'
    refine ⟨?_, h0.wo (fun k j hk => ?_) (f3.2.2.1.trans f2.2.2.1) (f3.2.2.2.trans f2.2.2.2)⟩
    · show some (Value.int (gI τ'' 42 26)) = some (Value.int (nI n))
      rw [e26, e1]
    · rw [f3.1 _ _ (fun z => hk (by unfold SM at z; omega)), f2.1 _ _ (fun z => hk (by unfold S2 at z; omega))]
  · have q1' : ¬ (0 ≤ t ∧ t ≤ gI σ 1 2 - 1) := fun z => q1 ((hasT hA.1 t).mp z)
    repeat (first
      | refine c5 (Nat.le_of_ble_eq_true rfl) (Nat.le_of_ble_eq_true rfl) rfl trivial (brbT (by first | assumption | decide | exact rfl | exact ne10 | exact ne20 | exact ne30) ?_)
      | refine c5 (Nat.le_of_ble_eq_true rfl) (Nat.le_of_ble_eq_true rfl) rfl trivial (brbF (by first | assumption | decide | exact rfl | exact ne10 | exact ne20 | exact ne30) ?_)
      | refine c4 (Nat.le_of_ble_eq_true rfl) rfl trivial (brbT (by first | assumption | decide | exact rfl | exact ne10 | exact ne20 | exact ne30) ?_)
      | refine c4 (Nat.le_of_ble_eq_true rfl) rfl trivial (brbF (by first | assumption | decide | exact rfl | exact ne10 | exact ne20 | exact ne30) ?_)
      | refine c4 (Nat.le_of_ble_eq_true rfl) (Nat.le_of_ble_eq_true rfl) rfl ?_
      | refine c3 (Nat.le_of_ble_eq_true rfl) rfl ?_
      | refine And.intro (by first | assumption | exact trivial) ?_
      | refine brbT (by first | assumption | decide | exact rfl | exact ne10 | exact ne20 | exact ne30) ?_
      | refine brbF (by first | assumption | decide | exact rfl | exact ne10 | exact ne20 | exact ne30) ?_
      | refine br_t (by first | assumption | decide | exact rfl | exact ne10 | exact ne20 | exact ne30) ?_
      | refine br_f (by first | assumption | decide | exact rfl | exact ne10 | exact ne20 | exact ne30) ?_
      | refine Exists.intro _ (And.intro rfl (And.intro rfl ?_)))
    exact ⟨rfl, h0⟩
