def csX9_isOther : Cs := [(204, 2, true, spX0_hasLike), (208, 1, true, spX0_has)]
def spX9_isOther : SP := G [(2, [0]), (0, [])] (slf 2 pgX9_isOther csX9_isOther lcX9 false 25)
theorem bdX9_isOther : Body 2 pgX9_isOther roM csX9_isOther lcX9 false spX9_isOther := Body.slf
theorem mnX9_isOther : Mono spX9_isOther := Mono.slf (csM_cons mnX0_hasLike (csM_cons mnX0_has csM_nil))
def csX10_isOther : Cs := [(192, 1, true, spX10_isNew), (195, 1, true, spX10_isEvent)]
def spX10_isOther : SP := G [(2, [42]), (0, [])] (slf 2 pgX10_isOther csX10_isOther lcX10 false 21)
theorem bdX10_isOther : Body 2 pgX10_isOther roM csX10_isOther lcX10 false spX10_isOther := Body.slf
theorem mnX10_isOther : Mono spX10_isOther := Mono.slf (csM_cons mnX10_isNew (csM_cons mnX10_isEvent csM_nil))
theorem prOthers {σ : Mem} (h : Inv σ) : PRi spX9_others spX10_others [] σ := by
  have h0 := h
  obtain ⟨nT, nH, nC, nD, ⟨hT, hH, hC, hD⟩, ⟨hS, hR, hX⟩, hE⟩ := h
  obtain ⟨b, b', nE, nE', st, mh, st', mh', h1, h2, h3, h4, h5, h6, h7⟩ := hE
  have hI : IEx σ nH b b' nE nE' st mh st' mh' := ⟨hH.1, h1, h2, h3, h4, h5, h6, h7⟩
  refine And.intro rfl ⟨nH, b, b', nE, nE', st, mh, st', mh', rfl, hI, ?_⟩
  refine ⟨_, rfl, And.intro rfl ⟨nH, b, b', nE, nE', st, mh, st', mh', rfl, hI, ?_⟩⟩
  refine ⟨?_, h0⟩
  rw [hX.1]
set_option maxHeartbeats 4000000 in
theorem prIsOther {σ : Mem} (h : Inv σ) (e : Int32) : PRi spX9_isOther spX10_isOther [.int e] σ := by
  have h0 := h
  obtain ⟨nT, nH, nC, nD, ⟨hT, hH, hC, hD⟩, ⟨hS, hR, hX⟩, hE⟩ := h
  obtain ⟨b, b', nE, nE', st, mh, st', mh', h1, h2, h3, h4, h5, h6, h7⟩ := hE
  have hI : IEx σ nH b b' nE nE' st mh st' mh' := ⟨hH.1, h1, h2, h3, h4, h5, h6, h7⟩
  have hq := hasE h4 h5 e
  have hx := hX.1
  have y1 := h4.1
  refine And.intro rfl ?_
  by_cases q1 : 0 ≤ e ∧ e < gI σ 42 30
  · have q1' := hq.mpr q1
    obtain ⟨k, hk, hw⟩ := idx_of (n := nE) (by rw [← h5.1]; exact q1) (by omega)
    subst hw
    by_cases q2 : 2 ≤ gI σ 0 10
    · have q2' : 2 ≤ gI σ 42 22 := by rw [hx]; exact q2
      obtain ⟨s1, s2, s3, s4⟩ := σ
      have h2 : s3 = b := h2
      have h3 : s4 = b' := h3
      subst h2 h3
      rcases h1 with ⟨hb, hb'⟩ | ⟨hb, hb'⟩
      · subst hb hb'
        repeat (first
          | refine c5 (Nat.le_of_ble_eq_true rfl) (Nat.le_of_ble_eq_true rfl) rfl trivial (brbT (by first | assumption | decide | exact rfl | exact ne10 | exact ne20 | exact ne30) ?_)
          | refine c5 (Nat.le_of_ble_eq_true rfl) (Nat.le_of_ble_eq_true rfl) rfl trivial (brbF (by first | assumption | decide | exact rfl | exact ne10 | exact ne20 | exact ne30) ?_)
          | refine c4 (Nat.le_of_ble_eq_true rfl) rfl trivial (brbT (by first | assumption | decide | exact rfl | exact ne10 | exact ne20 | exact ne30) ?_)
          | refine c4 (Nat.le_of_ble_eq_true rfl) rfl trivial (brbF (by first | assumption | decide | exact rfl | exact ne10 | exact ne20 | exact ne30) ?_)
          | refine c4 (Nat.le_of_ble_eq_true rfl) (Nat.le_of_ble_eq_true rfl) rfl ?_
          | refine c3 (Nat.le_of_ble_eq_true rfl) rfl ?_
          | refine And.intro (by first | assumption | exact trivial) ?_
          | refine brbT (by first | assumption | decide | exact rfl | exact ne10 | exact ne20 | exact ne30) ?_
          | refine brbF (by first | assumption | decide | exact rfl | exact ne10 | exact ne20 | exact ne30) ?_
          | refine br_t (by first | assumption | decide | exact rfl | exact ne10 | exact ne20 | exact ne30) ?_
          | refine br_f (by first | assumption | decide | exact rfl | exact ne10 | exact ne20 | exact ne30) ?_
          | refine Exists.intro _ (And.intro rfl (And.intro rfl ?_)))
        refine ⟨nH, 30, 36, nE, nE', k, st, mh, st', mh', rfl, hI, hk, fun q => ?_, fun q => ?_⟩
        · repeat (first
            | refine c5 (Nat.le_of_ble_eq_true rfl) (Nat.le_of_ble_eq_true rfl) rfl trivial (brbT (by first | assumption | decide | exact rfl | exact ne10 | exact ne20 | exact ne30) ?_)
            | refine c5 (Nat.le_of_ble_eq_true rfl) (Nat.le_of_ble_eq_true rfl) rfl trivial (brbF (by first | assumption | decide | exact rfl | exact ne10 | exact ne20 | exact ne30) ?_)
            | refine c4 (Nat.le_of_ble_eq_true rfl) rfl trivial (brbT (by first | assumption | decide | exact rfl | exact ne10 | exact ne20 | exact ne30) ?_)
            | refine c4 (Nat.le_of_ble_eq_true rfl) rfl trivial (brbF (by first | assumption | decide | exact rfl | exact ne10 | exact ne20 | exact ne30) ?_)
            | refine c4 (Nat.le_of_ble_eq_true rfl) (Nat.le_of_ble_eq_true rfl) rfl ?_
            | refine c3 (Nat.le_of_ble_eq_true rfl) rfl ?_
            | refine And.intro (by first | assumption | exact trivial) ?_
            | refine brbT (by first | assumption | decide | exact rfl | exact ne10 | exact ne20 | exact ne30) ?_
            | refine brbF (by first | assumption | decide | exact rfl | exact ne10 | exact ne20 | exact ne30) ?_
            | refine br_t (by first | assumption | decide | exact rfl | exact ne10 | exact ne20 | exact ne30) ?_
            | refine br_f (by first | assumption | decide | exact rfl | exact ne10 | exact ne20 | exact ne30) ?_
            | refine Exists.intro _ (And.intro rfl (And.intro rfl ?_)))
          refine ⟨nH, 30, 36, nE, nE', k, st, mh, st', mh', rfl, hI, hk, fun q => ?_, fun z => absurd q z⟩
          exact br_t rfl ⟨rfl, h0⟩
        · repeat (first
            | refine c5 (Nat.le_of_ble_eq_true rfl) (Nat.le_of_ble_eq_true rfl) rfl trivial (brbT (by first | assumption | decide | exact rfl | exact ne10 | exact ne20 | exact ne30) ?_)
            | refine c5 (Nat.le_of_ble_eq_true rfl) (Nat.le_of_ble_eq_true rfl) rfl trivial (brbF (by first | assumption | decide | exact rfl | exact ne10 | exact ne20 | exact ne30) ?_)
            | refine c4 (Nat.le_of_ble_eq_true rfl) rfl trivial (brbT (by first | assumption | decide | exact rfl | exact ne10 | exact ne20 | exact ne30) ?_)
            | refine c4 (Nat.le_of_ble_eq_true rfl) rfl trivial (brbF (by first | assumption | decide | exact rfl | exact ne10 | exact ne20 | exact ne30) ?_)
            | refine c4 (Nat.le_of_ble_eq_true rfl) (Nat.le_of_ble_eq_true rfl) rfl ?_
            | refine c3 (Nat.le_of_ble_eq_true rfl) rfl ?_
            | refine And.intro (by first | assumption | exact trivial) ?_
            | refine brbT (by first | assumption | decide | exact rfl | exact ne10 | exact ne20 | exact ne30) ?_
            | refine brbF (by first | assumption | decide | exact rfl | exact ne10 | exact ne20 | exact ne30) ?_
            | refine br_t (by first | assumption | decide | exact rfl | exact ne10 | exact ne20 | exact ne30) ?_
            | refine br_f (by first | assumption | decide | exact rfl | exact ne10 | exact ne20 | exact ne30) ?_
            | refine Exists.intro _ (And.intro rfl (And.intro rfl ?_)))
          refine ⟨nH, 30, 36, nE, nE', k, st, mh, st', mh', rfl, hI, hk, fun z => absurd z q, fun z => ?_⟩
          exact br_f ne10 ⟨rfl, h0⟩
      · subst hb hb'
        repeat (first
          | refine c5 (Nat.le_of_ble_eq_true rfl) (Nat.le_of_ble_eq_true rfl) rfl trivial (brbT (by first | assumption | decide | exact rfl | exact ne10 | exact ne20 | exact ne30) ?_)
          | refine c5 (Nat.le_of_ble_eq_true rfl) (Nat.le_of_ble_eq_true rfl) rfl trivial (brbF (by first | assumption | decide | exact rfl | exact ne10 | exact ne20 | exact ne30) ?_)
          | refine c4 (Nat.le_of_ble_eq_true rfl) rfl trivial (brbT (by first | assumption | decide | exact rfl | exact ne10 | exact ne20 | exact ne30) ?_)
          | refine c4 (Nat.le_of_ble_eq_true rfl) rfl trivial (brbF (by first | assumption | decide | exact rfl | exact ne10 | exact ne20 | exact ne30) ?_)
          | refine c4 (Nat.le_of_ble_eq_true rfl) (Nat.le_of_ble_eq_true rfl) rfl ?_
          | refine c3 (Nat.le_of_ble_eq_true rfl) rfl ?_
          | refine And.intro (by first | assumption | exact trivial) ?_
          | refine brbT (by first | assumption | decide | exact rfl | exact ne10 | exact ne20 | exact ne30) ?_
          | refine brbF (by first | assumption | decide | exact rfl | exact ne10 | exact ne20 | exact ne30) ?_
          | refine br_t (by first | assumption | decide | exact rfl | exact ne10 | exact ne20 | exact ne30) ?_
          | refine br_f (by first | assumption | decide | exact rfl | exact ne10 | exact ne20 | exact ne30) ?_
          | refine Exists.intro _ (And.intro rfl (And.intro rfl ?_)))
        refine ⟨nH, 36, 30, nE, nE', k, st, mh, st', mh', rfl, hI, hk, fun q => ?_, fun q => ?_⟩
        · repeat (first
            | refine c5 (Nat.le_of_ble_eq_true rfl) (Nat.le_of_ble_eq_true rfl) rfl trivial (brbT (by first | assumption | decide | exact rfl | exact ne10 | exact ne20 | exact ne30) ?_)
            | refine c5 (Nat.le_of_ble_eq_true rfl) (Nat.le_of_ble_eq_true rfl) rfl trivial (brbF (by first | assumption | decide | exact rfl | exact ne10 | exact ne20 | exact ne30) ?_)
            | refine c4 (Nat.le_of_ble_eq_true rfl) rfl trivial (brbT (by first | assumption | decide | exact rfl | exact ne10 | exact ne20 | exact ne30) ?_)
            | refine c4 (Nat.le_of_ble_eq_true rfl) rfl trivial (brbF (by first | assumption | decide | exact rfl | exact ne10 | exact ne20 | exact ne30) ?_)
            | refine c4 (Nat.le_of_ble_eq_true rfl) (Nat.le_of_ble_eq_true rfl) rfl ?_
            | refine c3 (Nat.le_of_ble_eq_true rfl) rfl ?_
            | refine And.intro (by first | assumption | exact trivial) ?_
            | refine brbT (by first | assumption | decide | exact rfl | exact ne10 | exact ne20 | exact ne30) ?_
            | refine brbF (by first | assumption | decide | exact rfl | exact ne10 | exact ne20 | exact ne30) ?_
            | refine br_t (by first | assumption | decide | exact rfl | exact ne10 | exact ne20 | exact ne30) ?_
            | refine br_f (by first | assumption | decide | exact rfl | exact ne10 | exact ne20 | exact ne30) ?_
            | refine Exists.intro _ (And.intro rfl (And.intro rfl ?_)))
          refine ⟨nH, 36, 30, nE, nE', k, st, mh, st', mh', rfl, hI, hk, fun q => ?_, fun z => absurd q z⟩
          exact br_t rfl ⟨rfl, h0⟩
        · repeat (first
            | refine c5 (Nat.le_of_ble_eq_true rfl) (Nat.le_of_ble_eq_true rfl) rfl trivial (brbT (by first | assumption | decide | exact rfl | exact ne10 | exact ne20 | exact ne30) ?_)
            | refine c5 (Nat.le_of_ble_eq_true rfl) (Nat.le_of_ble_eq_true rfl) rfl trivial (brbF (by first | assumption | decide | exact rfl | exact ne10 | exact ne20 | exact ne30) ?_)
            | refine c4 (Nat.le_of_ble_eq_true rfl) rfl trivial (brbT (by first | assumption | decide | exact rfl | exact ne10 | exact ne20 | exact ne30) ?_)
            | refine c4 (Nat.le_of_ble_eq_true rfl) rfl trivial (brbF (by first | assumption | decide | exact rfl | exact ne10 | exact ne20 | exact ne30) ?_)
            | refine c4 (Nat.le_of_ble_eq_true rfl) (Nat.le_of_ble_eq_true rfl) rfl ?_
            | refine c3 (Nat.le_of_ble_eq_true rfl) rfl ?_
            | refine And.intro (by first | assumption | exact trivial) ?_
            | refine brbT (by first | assumption | decide | exact rfl | exact ne10 | exact ne20 | exact ne30) ?_
            | refine brbF (by first | assumption | decide | exact rfl | exact ne10 | exact ne20 | exact ne30) ?_
            | refine br_t (by first | assumption | decide | exact rfl | exact ne10 | exact ne20 | exact ne30) ?_
            | refine br_f (by first | assumption | decide | exact rfl | exact ne10 | exact ne20 | exact ne30) ?_
            | refine Exists.intro _ (And.intro rfl (And.intro rfl ?_)))
          refine ⟨nH, 36, 30, nE, nE', k, st, mh, st', mh', rfl, hI, hk, fun z => absurd z q, fun z => ?_⟩
          exact br_f ne10 ⟨rfl, h0⟩
    · have q2' : ¬ 2 ≤ gI σ 42 22 := by rw [hx]; exact q2
      obtain ⟨s1, s2, s3, s4⟩ := σ
      have h2 : s3 = b := h2
      have h3 : s4 = b' := h3
      subst h2 h3
      rcases h1 with ⟨hb, hb'⟩ | ⟨hb, hb'⟩
      · subst hb hb'
        repeat (first
          | refine c5 (Nat.le_of_ble_eq_true rfl) (Nat.le_of_ble_eq_true rfl) rfl trivial (brbT (by first | assumption | decide | exact rfl | exact ne10 | exact ne20 | exact ne30) ?_)
          | refine c5 (Nat.le_of_ble_eq_true rfl) (Nat.le_of_ble_eq_true rfl) rfl trivial (brbF (by first | assumption | decide | exact rfl | exact ne10 | exact ne20 | exact ne30) ?_)
          | refine c4 (Nat.le_of_ble_eq_true rfl) rfl trivial (brbT (by first | assumption | decide | exact rfl | exact ne10 | exact ne20 | exact ne30) ?_)
          | refine c4 (Nat.le_of_ble_eq_true rfl) rfl trivial (brbF (by first | assumption | decide | exact rfl | exact ne10 | exact ne20 | exact ne30) ?_)
          | refine c4 (Nat.le_of_ble_eq_true rfl) (Nat.le_of_ble_eq_true rfl) rfl ?_
          | refine c3 (Nat.le_of_ble_eq_true rfl) rfl ?_
          | refine And.intro (by first | assumption | exact trivial) ?_
          | refine brbT (by first | assumption | decide | exact rfl | exact ne10 | exact ne20 | exact ne30) ?_
          | refine brbF (by first | assumption | decide | exact rfl | exact ne10 | exact ne20 | exact ne30) ?_
          | refine br_t (by first | assumption | decide | exact rfl | exact ne10 | exact ne20 | exact ne30) ?_
          | refine br_f (by first | assumption | decide | exact rfl | exact ne10 | exact ne20 | exact ne30) ?_
          | refine Exists.intro _ (And.intro rfl (And.intro rfl ?_)))
        exact ⟨rfl, h0⟩
      · subst hb hb'
        repeat (first
          | refine c5 (Nat.le_of_ble_eq_true rfl) (Nat.le_of_ble_eq_true rfl) rfl trivial (brbT (by first | assumption | decide | exact rfl | exact ne10 | exact ne20 | exact ne30) ?_)
          | refine c5 (Nat.le_of_ble_eq_true rfl) (Nat.le_of_ble_eq_true rfl) rfl trivial (brbF (by first | assumption | decide | exact rfl | exact ne10 | exact ne20 | exact ne30) ?_)
          | refine c4 (Nat.le_of_ble_eq_true rfl) rfl trivial (brbT (by first | assumption | decide | exact rfl | exact ne10 | exact ne20 | exact ne30) ?_)
          | refine c4 (Nat.le_of_ble_eq_true rfl) rfl trivial (brbF (by first | assumption | decide | exact rfl | exact ne10 | exact ne20 | exact ne30) ?_)
          | refine c4 (Nat.le_of_ble_eq_true rfl) (Nat.le_of_ble_eq_true rfl) rfl ?_
          | refine c3 (Nat.le_of_ble_eq_true rfl) rfl ?_
          | refine And.intro (by first | assumption | exact trivial) ?_
          | refine brbT (by first | assumption | decide | exact rfl | exact ne10 | exact ne20 | exact ne30) ?_
          | refine brbF (by first | assumption | decide | exact rfl | exact ne10 | exact ne20 | exact ne30) ?_
          | refine br_t (by first | assumption | decide | exact rfl | exact ne10 | exact ne20 | exact ne30) ?_
          | refine br_f (by first | assumption | decide | exact rfl | exact ne10 | exact ne20 | exact ne30) ?_
          | refine Exists.intro _ (And.intro rfl (And.intro rfl ?_)))
        exact ⟨rfl, h0⟩
  · have q1' : ¬ (0 ≤ e ∧ e ≤ gI σ b 0 - 1) := fun z => q1 (hq.mp z)
    obtain ⟨s1, s2, s3, s4⟩ := σ
    have h2 : s3 = b := h2
    have h3 : s4 = b' := h3
    subst h2 h3
    rcases h1 with ⟨hb, hb'⟩ | ⟨hb, hb'⟩
    · subst hb hb'
      repeat (first
        | refine c5 (Nat.le_of_ble_eq_true rfl) (Nat.le_of_ble_eq_true rfl) rfl trivial (brbT (by first | assumption | decide | exact rfl | exact ne10 | exact ne20 | exact ne30) ?_)
        | refine c5 (Nat.le_of_ble_eq_true rfl) (Nat.le_of_ble_eq_true rfl) rfl trivial (brbF (by first | assumption | decide | exact rfl | exact ne10 | exact ne20 | exact ne30) ?_)
        | refine c4 (Nat.le_of_ble_eq_true rfl) rfl trivial (brbT (by first | assumption | decide | exact rfl | exact ne10 | exact ne20 | exact ne30) ?_)
        | refine c4 (Nat.le_of_ble_eq_true rfl) rfl trivial (brbF (by first | assumption | decide | exact rfl | exact ne10 | exact ne20 | exact ne30) ?_)
        | refine c4 (Nat.le_of_ble_eq_true rfl) (Nat.le_of_ble_eq_true rfl) rfl ?_
        | refine c3 (Nat.le_of_ble_eq_true rfl) rfl ?_
        | refine And.intro (by first | assumption | exact trivial) ?_
        | refine brbT (by first | assumption | decide | exact rfl | exact ne10 | exact ne20 | exact ne30) ?_
        | refine brbF (by first | assumption | decide | exact rfl | exact ne10 | exact ne20 | exact ne30) ?_
        | refine br_t (by first | assumption | decide | exact rfl | exact ne10 | exact ne20 | exact ne30) ?_
        | refine br_f (by first | assumption | decide | exact rfl | exact ne10 | exact ne20 | exact ne30) ?_
        | refine Exists.intro _ (And.intro rfl (And.intro rfl ?_)))
      exact ⟨rfl, h0⟩
    · subst hb hb'
      repeat (first
        | refine c5 (Nat.le_of_ble_eq_true rfl) (Nat.le_of_ble_eq_true rfl) rfl trivial (brbT (by first | assumption | decide | exact rfl | exact ne10 | exact ne20 | exact ne30) ?_)
        | refine c5 (Nat.le_of_ble_eq_true rfl) (Nat.le_of_ble_eq_true rfl) rfl trivial (brbF (by first | assumption | decide | exact rfl | exact ne10 | exact ne20 | exact ne30) ?_)
        | refine c4 (Nat.le_of_ble_eq_true rfl) rfl trivial (brbT (by first | assumption | decide | exact rfl | exact ne10 | exact ne20 | exact ne30) ?_)
        | refine c4 (Nat.le_of_ble_eq_true rfl) rfl trivial (brbF (by first | assumption | decide | exact rfl | exact ne10 | exact ne20 | exact ne30) ?_)
        | refine c4 (Nat.le_of_ble_eq_true rfl) (Nat.le_of_ble_eq_true rfl) rfl ?_
        | refine c3 (Nat.le_of_ble_eq_true rfl) rfl ?_
        | refine And.intro (by first | assumption | exact trivial) ?_
        | refine brbT (by first | assumption | decide | exact rfl | exact ne10 | exact ne20 | exact ne30) ?_
        | refine brbF (by first | assumption | decide | exact rfl | exact ne10 | exact ne20 | exact ne30) ?_
        | refine br_t (by first | assumption | decide | exact rfl | exact ne10 | exact ne20 | exact ne30) ?_
        | refine br_f (by first | assumption | decide | exact rfl | exact ne10 | exact ne20 | exact ne30) ?_
        | refine Exists.intro _ (And.intro rfl (And.intro rfl ?_)))
      exact ⟨rfl, h0⟩
