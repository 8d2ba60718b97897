theorem vp_lit {k N : Nat} (h : k < N) (hN : N < 2 ^ 31) : vp_in (nI k) N := inI h hN
theorem spVi {pre : List Value → Mem → Prop} {val : List Value → Mem → Option Value × Mem} {vs : List Value} {σ : Mem} {K : Option Value → Mem → Prop} (p : pre vs σ) (h : ∀ r σ', val vs σ = (r, σ') → K r σ') : spV pre val vs σ K := ⟨p, h _ _ rfl⟩
theorem pinj {r r' : Option Value} {τ τ' : Mem} (h : (r, τ) = (r', τ')) : r' = r ∧ τ = τ' := by cases h; exact ⟨rfl, rfl⟩
/-- all that both sides need of the fit -/
theorem fr_all {σ : Mem} (h : Inv σ) {nT nH b nE : Nat} {st mh : Nat → Nat} (hT : IT σ nT) (hH : IH σ nT nH) (hb : b = 30 ∨ b = 36) (hgp : gP σ = b) (hc : EvC σ b nE st mh nH) (hm : EvM σ b nE st mh) {e : Int32} {k : Nat} (hk : k < nE) (hw : e = nI k) : okF σ e ∧ ∀ τ, ftT σ e = τ → (∀ k j, k ≠ 28 → gI τ k j = gI σ k j) ∧ gP τ = b ∧ gI τ 28 0 = lsT σ e ∧ okG τ e ∧ lsM τ e = lsT σ e ∧ ∀ ρ, ftI τ (lsM τ e) (sB τ 65 e) (nB τ 65 e) = ρ → Inv ρ ∧ (∀ k j, gI ρ k j = gI τ k j) ∧ gL ρ 71 0 = gL τ 28 10 ∧ gL ρ 71 1 = gL τ 28 11 ∧ gL ρ 71 2 = gL τ 28 12 ∧ gL ρ 71 3 = gL τ 28 13 := by
  obtain ⟨f1, f2⟩ := fr_eq2 hT hH hb hgp hc hm hk hw
  refine ⟨f1, fun τ hτ => ?_⟩
  have hI := fun k j hk => ft_gI σ e (k := k) (j := j) hk
  have hP := ft_gP σ e
  have hQ := ft_gQ σ e
  have hl : gI (ftT σ e) 28 0 = lsT σ e := by
    unfold ftT slvF frI frM
    rw [gI_sL, gI_sL, gI_sL, gI_sL, gI_sL, gI_sL, gI_sL, gI_sL, gI_sL, gI_sL, gI_sL, gI_sL, gI_sL, gI_sI, if_pos ⟨rfl, rfl⟩]
  rw [hτ] at f2 hI hP hQ hl
  obtain ⟨g1, g2, g3⟩ := f2 τ hI
  refine ⟨hI, hP.trans hgp, hl, g1, g2, fun ρ hρ => ?_⟩
  have g3 := g3 ρ hρ
  refine ⟨?_, ?_, g3⟩
  · rw [← hρ]; exact Inv.ft h hI hP hQ _ _ _
  · intro k j; rw [← hρ]; exact fi_gI ..
set_option maxRecDepth 20000 in
set_option maxHeartbeats 4000000 in
theorem prFront {σ : Mem} (h : Inv σ) (e w : Int32) : PRl spX9_front spX10_front [.int e, .int w] σ := by
  have h0 := h
  obtain ⟨nT, nH, nC, nD, ⟨hT, hH, hC, hD⟩, ⟨hS, hR, hX⟩, hE⟩ := h
  obtain ⟨b, nE, st, mh, hb, hgp, hc, hm⟩ := lat hE
  refine And.intro rfl ?_
  by_cases q1 : 0 ≤ e ∧ e < gI σ 42 30
  · have q1' := (hasE hc hm e).mpr q1
    by_cases q2 : 0 ≤ w ∧ w ≤ 3
    · obtain ⟨k, hk, hw⟩ := idx_of (n := nE) (by rw [← hm.1]; exact q1) (by have := hc.1; omega)
      obtain ⟨okf0, FR⟩ := fr_all h0 hT hH hb hgp hc hm hk hw
      have okf : True → okF σ e := fun _ => okf0
      clear okf0
      have w4 : w = 0 ∨ w = 1 ∨ w = 2 ∨ w = 3 := by
        obtain ⟨j, hj, hz⟩ := idx_le (n := 3) (M := 3) rfl q2
        have : j = 0 ∨ j = 1 ∨ j = 2 ∨ j = 3 := by omega
        rcases this with z | z | z | z <;> subst z
        · exact Or.inl hz
        · exact Or.inr (Or.inl hz)
        · exact Or.inr (Or.inr (Or.inl hz))
        · exact Or.inr (Or.inr (Or.inr hz))
      have q3 : (0 : Int32) ≤ w ∧ w ≤ 3 := q2
      have v0 : vp_in (0 : Int32) 4 := vp_lit (k := 0) (by decide) (by decide)
      have v1 : vp_in (1 : Int32) 4 := vp_lit (k := 1) (by decide) (by decide)
      have v2 : vp_in (2 : Int32) 4 := vp_lit (k := 2) (by decide) (by decide)
      have v3 : vp_in (3 : Int32) 4 := vp_lit (k := 3) (by decide) (by decide)
      have FS : ∀ τ, ftT σ e = τ → ((0 ≤ e ∧ e < gI τ 42 30) ∧ (True → okG τ e)) ∧ ∀ ρ, ftI τ (lsM τ e) (sB τ 65 e) (nB τ 65 e) = ρ → Inv ρ ∧ gL ρ 71 0 = gL τ 28 10 ∧ gL ρ 71 1 = gL τ 28 11 ∧ gL ρ 71 2 = gL τ 28 12 ∧ gL ρ 71 3 = gL τ 28 13 := by
        intro τ hτ
        obtain ⟨g1, g2, g3, g4, g5, g6⟩ := FR τ hτ
        refine ⟨⟨by rw [g1 42 _ (by decide)]; exact q1, fun _ => g4⟩, fun ρ hρ => ?_⟩
        obtain ⟨k1, k2, k3⟩ := g6 ρ hρ
        exact ⟨k1, k3⟩
      clear FR
      have p10 : (0 : Int32) < 1 := by decide
      have p20 : (0 : Int32) < 2 := by decide
      have p30 : (0 : Int32) < 3 := by decide
      obtain ⟨s1, s2, s3, s4⟩ := σ
      have hgp : s3 = b := hgp
      subst hgp
      rcases w4 with z | z | z | z
      · subst z
        rcases hb with hb | hb <;> subst hb
        all_goals
          repeat (first
            | refine c5 (Nat.le_of_ble_eq_true rfl) (Nat.le_of_ble_eq_true rfl) rfl trivial (brbT (by first | assumption | decide | exact rfl | exact ne10 | exact ne20 | exact ne30) ?_)
            | refine c5 (Nat.le_of_ble_eq_true rfl) (Nat.le_of_ble_eq_true rfl) rfl trivial (brbF (by first | assumption | decide | exact rfl | exact ne10 | exact ne20 | exact ne30) ?_)
            | refine c4 (Nat.le_of_ble_eq_true rfl) rfl trivial (brbT (by first | assumption | decide | exact rfl | exact ne10 | exact ne20 | exact ne30) ?_)
            | refine c4 (Nat.le_of_ble_eq_true rfl) rfl trivial (brbF (by first | assumption | decide | exact rfl | exact ne10 | exact ne20 | exact ne30) ?_)
            | refine c4 (Nat.le_of_ble_eq_true rfl) (Nat.le_of_ble_eq_true rfl) rfl ?_
            | refine c3 (Nat.le_of_ble_eq_true rfl) rfl ?_
            | refine And.intro (by first | assumption | exact trivial) ?_
            | refine brbT (by first | assumption | decide | exact rfl | exact ne10 | exact ne20 | exact ne30) ?_
            | refine brbF (by first | assumption | decide | exact rfl | exact ne10 | exact ne20 | exact ne30) ?_
            | refine br_t (by first | assumption | decide | exact rfl | exact ne10 | exact ne20 | exact ne30) ?_
            | refine br_f (by first | assumption | decide | exact rfl | exact ne10 | exact ne20 | exact ne30) ?_
            | refine Exists.intro _ (And.intro rfl (And.intro rfl ?_)))
          refine spVi (okf trivial) ?_
          intro r τ hz
          obtain ⟨hr, hτ⟩ := pinj hz
          subst hr
          obtain ⟨⟨p1, p2⟩, FT⟩ := FS τ hτ
          clear hτ hz
          repeat (first
            | refine c5 (Nat.le_of_ble_eq_true rfl) (Nat.le_of_ble_eq_true rfl) rfl trivial (brbT (by first | assumption | decide | exact rfl | exact ne10 | exact ne20 | exact ne30) ?_)
            | refine c5 (Nat.le_of_ble_eq_true rfl) (Nat.le_of_ble_eq_true rfl) rfl trivial (brbF (by first | assumption | decide | exact rfl | exact ne10 | exact ne20 | exact ne30) ?_)
            | refine c4 (Nat.le_of_ble_eq_true rfl) rfl trivial (brbT (by first | assumption | decide | exact rfl | exact ne10 | exact ne20 | exact ne30) ?_)
            | refine c4 (Nat.le_of_ble_eq_true rfl) rfl trivial (brbF (by first | assumption | decide | exact rfl | exact ne10 | exact ne20 | exact ne30) ?_)
            | refine c4 (Nat.le_of_ble_eq_true rfl) (Nat.le_of_ble_eq_true rfl) rfl ?_
            | refine c3 (Nat.le_of_ble_eq_true rfl) rfl ?_
            | refine And.intro (by first | assumption | exact trivial) ?_
            | refine brbT (by first | assumption | decide | exact rfl | exact ne10 | exact ne20 | exact ne30) ?_
            | refine brbF (by first | assumption | decide | exact rfl | exact ne10 | exact ne20 | exact ne30) ?_
            | refine br_t (by first | assumption | decide | exact rfl | exact ne10 | exact ne20 | exact ne30) ?_
            | refine br_f (by first | assumption | decide | exact rfl | exact ne10 | exact ne20 | exact ne30) ?_
            | refine Exists.intro _ (And.intro rfl (And.intro rfl ?_)))
          refine spVi (p2 trivial) ?_
          intro r ρ hz
          obtain ⟨hr, hρ⟩ := pinj hz
          subst hr
          obtain ⟨hi, r0, r1, r2, r3⟩ := FT ρ hρ
          clear hρ hz
          repeat (first
            | refine c5 (Nat.le_of_ble_eq_true rfl) (Nat.le_of_ble_eq_true rfl) rfl trivial (brbT (by first | assumption | decide | exact rfl | exact ne10 | exact ne20 | exact ne30) ?_)
            | refine c5 (Nat.le_of_ble_eq_true rfl) (Nat.le_of_ble_eq_true rfl) rfl trivial (brbF (by first | assumption | decide | exact rfl | exact ne10 | exact ne20 | exact ne30) ?_)
            | refine c4 (Nat.le_of_ble_eq_true rfl) rfl trivial (brbT (by first | assumption | decide | exact rfl | exact ne10 | exact ne20 | exact ne30) ?_)
            | refine c4 (Nat.le_of_ble_eq_true rfl) rfl trivial (brbF (by first | assumption | decide | exact rfl | exact ne10 | exact ne20 | exact ne30) ?_)
            | refine c4 (Nat.le_of_ble_eq_true rfl) (Nat.le_of_ble_eq_true rfl) rfl ?_
            | refine c3 (Nat.le_of_ble_eq_true rfl) rfl ?_
            | refine And.intro (by first | assumption | exact trivial) ?_
            | refine brbT (by first | assumption | decide | exact rfl | exact ne10 | exact ne20 | exact ne30) ?_
            | refine brbF (by first | assumption | decide | exact rfl | exact ne10 | exact ne20 | exact ne30) ?_
            | refine br_t (by first | assumption | decide | exact rfl | exact ne10 | exact ne20 | exact ne30) ?_
            | refine br_f (by first | assumption | decide | exact rfl | exact ne10 | exact ne20 | exact ne30) ?_
            | refine Exists.intro _ (And.intro rfl (And.intro rfl ?_)))
          exact ⟨congrArg (fun z => some (Value.long z)) r0, hi⟩
      · subst z
        rcases hb with hb | hb <;> subst hb
        all_goals
          repeat (first
            | refine c5 (Nat.le_of_ble_eq_true rfl) (Nat.le_of_ble_eq_true rfl) rfl trivial (brbT (by first | assumption | decide | exact rfl | exact ne10 | exact ne20 | exact ne30) ?_)
            | refine c5 (Nat.le_of_ble_eq_true rfl) (Nat.le_of_ble_eq_true rfl) rfl trivial (brbF (by first | assumption | decide | exact rfl | exact ne10 | exact ne20 | exact ne30) ?_)
            | refine c4 (Nat.le_of_ble_eq_true rfl) rfl trivial (brbT (by first | assumption | decide | exact rfl | exact ne10 | exact ne20 | exact ne30) ?_)
            | refine c4 (Nat.le_of_ble_eq_true rfl) rfl trivial (brbF (by first | assumption | decide | exact rfl | exact ne10 | exact ne20 | exact ne30) ?_)
            | refine c4 (Nat.le_of_ble_eq_true rfl) (Nat.le_of_ble_eq_true rfl) rfl ?_
            | refine c3 (Nat.le_of_ble_eq_true rfl) rfl ?_
            | refine And.intro (by first | assumption | exact trivial) ?_
            | refine brbT (by first | assumption | decide | exact rfl | exact ne10 | exact ne20 | exact ne30) ?_
            | refine brbF (by first | assumption | decide | exact rfl | exact ne10 | exact ne20 | exact ne30) ?_
            | refine br_t (by first | assumption | decide | exact rfl | exact ne10 | exact ne20 | exact ne30) ?_
            | refine br_f (by first | assumption | decide | exact rfl | exact ne10 | exact ne20 | exact ne30) ?_
            | refine Exists.intro _ (And.intro rfl (And.intro rfl ?_)))
          refine spVi (okf trivial) ?_
          intro r τ hz
          obtain ⟨hr, hτ⟩ := pinj hz
          subst hr
          obtain ⟨⟨p1, p2⟩, FT⟩ := FS τ hτ
          clear hτ hz
          by_cases dz : lg_cmp (gL τ 28 10) (Int64.ofNat 0) = 0
          · repeat (first
              | refine c5 (Nat.le_of_ble_eq_true rfl) (Nat.le_of_ble_eq_true rfl) rfl trivial (brbT (by first | assumption | decide | exact rfl | exact ne10 | exact ne20 | exact ne30) ?_)
              | refine c5 (Nat.le_of_ble_eq_true rfl) (Nat.le_of_ble_eq_true rfl) rfl trivial (brbF (by first | assumption | decide | exact rfl | exact ne10 | exact ne20 | exact ne30) ?_)
              | refine c4 (Nat.le_of_ble_eq_true rfl) rfl trivial (brbT (by first | assumption | decide | exact rfl | exact ne10 | exact ne20 | exact ne30) ?_)
              | refine c4 (Nat.le_of_ble_eq_true rfl) rfl trivial (brbF (by first | assumption | decide | exact rfl | exact ne10 | exact ne20 | exact ne30) ?_)
              | refine c4 (Nat.le_of_ble_eq_true rfl) (Nat.le_of_ble_eq_true rfl) rfl ?_
              | refine c3 (Nat.le_of_ble_eq_true rfl) rfl ?_
              | refine And.intro (by first | assumption | exact trivial) ?_
              | refine brbT (by first | assumption | decide | exact rfl | exact ne10 | exact ne20 | exact ne30) ?_
              | refine brbF (by first | assumption | decide | exact rfl | exact ne10 | exact ne20 | exact ne30) ?_
              | refine br_t (by first | assumption | decide | exact rfl | exact ne10 | exact ne20 | exact ne30) ?_
              | refine br_f (by first | assumption | decide | exact rfl | exact ne10 | exact ne20 | exact ne30) ?_
              | refine Exists.intro _ (And.intro rfl (And.intro rfl ?_)))
            refine spVi (p2 trivial) ?_
            intro r ρ hz
            obtain ⟨hr, hρ⟩ := pinj hz
            subst hr
            obtain ⟨hi, r0, r1, r2, r3⟩ := FT ρ hρ
            clear hρ hz
            rw [← r0] at dz
            repeat (first
              | refine c5 (Nat.le_of_ble_eq_true rfl) (Nat.le_of_ble_eq_true rfl) rfl trivial (brbT (by first | assumption | decide | exact rfl | exact ne10 | exact ne20 | exact ne30) ?_)
              | refine c5 (Nat.le_of_ble_eq_true rfl) (Nat.le_of_ble_eq_true rfl) rfl trivial (brbF (by first | assumption | decide | exact rfl | exact ne10 | exact ne20 | exact ne30) ?_)
              | refine c4 (Nat.le_of_ble_eq_true rfl) rfl trivial (brbT (by first | assumption | decide | exact rfl | exact ne10 | exact ne20 | exact ne30) ?_)
              | refine c4 (Nat.le_of_ble_eq_true rfl) rfl trivial (brbF (by first | assumption | decide | exact rfl | exact ne10 | exact ne20 | exact ne30) ?_)
              | refine c4 (Nat.le_of_ble_eq_true rfl) (Nat.le_of_ble_eq_true rfl) rfl ?_
              | refine c3 (Nat.le_of_ble_eq_true rfl) rfl ?_
              | refine And.intro (by first | assumption | exact trivial) ?_
              | refine brbT (by first | assumption | decide | exact rfl | exact ne10 | exact ne20 | exact ne30) ?_
              | refine brbF (by first | assumption | decide | exact rfl | exact ne10 | exact ne20 | exact ne30) ?_
              | refine br_t (by first | assumption | decide | exact rfl | exact ne10 | exact ne20 | exact ne30) ?_
              | refine br_f (by first | assumption | decide | exact rfl | exact ne10 | exact ne20 | exact ne30) ?_
              | refine Exists.intro _ (And.intro rfl (And.intro rfl ?_)))
            exact ⟨rfl, hi⟩
          · repeat (first
              | refine c5 (Nat.le_of_ble_eq_true rfl) (Nat.le_of_ble_eq_true rfl) rfl trivial (brbT (by first | assumption | decide | exact rfl | exact ne10 | exact ne20 | exact ne30) ?_)
              | refine c5 (Nat.le_of_ble_eq_true rfl) (Nat.le_of_ble_eq_true rfl) rfl trivial (brbF (by first | assumption | decide | exact rfl | exact ne10 | exact ne20 | exact ne30) ?_)
              | refine c4 (Nat.le_of_ble_eq_true rfl) rfl trivial (brbT (by first | assumption | decide | exact rfl | exact ne10 | exact ne20 | exact ne30) ?_)
              | refine c4 (Nat.le_of_ble_eq_true rfl) rfl trivial (brbF (by first | assumption | decide | exact rfl | exact ne10 | exact ne20 | exact ne30) ?_)
              | refine c4 (Nat.le_of_ble_eq_true rfl) (Nat.le_of_ble_eq_true rfl) rfl ?_
              | refine c3 (Nat.le_of_ble_eq_true rfl) rfl ?_
              | refine And.intro (by first | assumption | exact trivial) ?_
              | refine brbT (by first | assumption | decide | exact rfl | exact ne10 | exact ne20 | exact ne30) ?_
              | refine brbF (by first | assumption | decide | exact rfl | exact ne10 | exact ne20 | exact ne30) ?_
              | refine br_t (by first | assumption | decide | exact rfl | exact ne10 | exact ne20 | exact ne30) ?_
              | refine br_f (by first | assumption | decide | exact rfl | exact ne10 | exact ne20 | exact ne30) ?_
              | refine Exists.intro _ (And.intro rfl (And.intro rfl ?_)))
            refine spVi (p2 trivial) ?_
            intro r ρ hz
            obtain ⟨hr, hρ⟩ := pinj hz
            subst hr
            obtain ⟨hi, r0, r1, r2, r3⟩ := FT ρ hρ
            clear hρ hz
            rw [← r0] at dz
            repeat (first
              | refine c5 (Nat.le_of_ble_eq_true rfl) (Nat.le_of_ble_eq_true rfl) rfl trivial (brbT (by first | assumption | decide | exact rfl | exact ne10 | exact ne20 | exact ne30) ?_)
              | refine c5 (Nat.le_of_ble_eq_true rfl) (Nat.le_of_ble_eq_true rfl) rfl trivial (brbF (by first | assumption | decide | exact rfl | exact ne10 | exact ne20 | exact ne30) ?_)
              | refine c4 (Nat.le_of_ble_eq_true rfl) rfl trivial (brbT (by first | assumption | decide | exact rfl | exact ne10 | exact ne20 | exact ne30) ?_)
              | refine c4 (Nat.le_of_ble_eq_true rfl) rfl trivial (brbF (by first | assumption | decide | exact rfl | exact ne10 | exact ne20 | exact ne30) ?_)
              | refine c4 (Nat.le_of_ble_eq_true rfl) (Nat.le_of_ble_eq_true rfl) rfl ?_
              | refine c3 (Nat.le_of_ble_eq_true rfl) rfl ?_
              | refine And.intro (by first | assumption | exact trivial) ?_
              | refine brbT (by first | assumption | decide | exact rfl | exact ne10 | exact ne20 | exact ne30) ?_
              | refine brbF (by first | assumption | decide | exact rfl | exact ne10 | exact ne20 | exact ne30) ?_
              | refine br_t (by first | assumption | decide | exact rfl | exact ne10 | exact ne20 | exact ne30) ?_
              | refine br_f (by first | assumption | decide | exact rfl | exact ne10 | exact ne20 | exact ne30) ?_
              | refine Exists.intro _ (And.intro rfl (And.intro rfl ?_)))
            exact ⟨congrArg (fun z => some (Value.long z)) r1, hi⟩
      · subst z
        rcases hb with hb | hb <;> subst hb
        all_goals
          repeat (first
            | refine c5 (Nat.le_of_ble_eq_true rfl) (Nat.le_of_ble_eq_true rfl) rfl trivial (brbT (by first | assumption | decide | exact rfl | exact ne10 | exact ne20 | exact ne30) ?_)
            | refine c5 (Nat.le_of_ble_eq_true rfl) (Nat.le_of_ble_eq_true rfl) rfl trivial (brbF (by first | assumption | decide | exact rfl | exact ne10 | exact ne20 | exact ne30) ?_)
            | refine c4 (Nat.le_of_ble_eq_true rfl) rfl trivial (brbT (by first | assumption | decide | exact rfl | exact ne10 | exact ne20 | exact ne30) ?_)
            | refine c4 (Nat.le_of_ble_eq_true rfl) rfl trivial (brbF (by first | assumption | decide | exact rfl | exact ne10 | exact ne20 | exact ne30) ?_)
            | refine c4 (Nat.le_of_ble_eq_true rfl) (Nat.le_of_ble_eq_true rfl) rfl ?_
            | refine c3 (Nat.le_of_ble_eq_true rfl) rfl ?_
            | refine And.intro (by first | assumption | exact trivial) ?_
            | refine brbT (by first | assumption | decide | exact rfl | exact ne10 | exact ne20 | exact ne30) ?_
            | refine brbF (by first | assumption | decide | exact rfl | exact ne10 | exact ne20 | exact ne30) ?_
            | refine br_t (by first | assumption | decide | exact rfl | exact ne10 | exact ne20 | exact ne30) ?_
            | refine br_f (by first | assumption | decide | exact rfl | exact ne10 | exact ne20 | exact ne30) ?_
            | refine Exists.intro _ (And.intro rfl (And.intro rfl ?_)))
          refine spVi (okf trivial) ?_
          intro r τ hz
          obtain ⟨hr, hτ⟩ := pinj hz
          subst hr
          obtain ⟨⟨p1, p2⟩, FT⟩ := FS τ hτ
          clear hτ hz
          by_cases dz : lg_cmp (gL τ 28 10) (Int64.ofNat 0) = 0
          · repeat (first
              | refine c5 (Nat.le_of_ble_eq_true rfl) (Nat.le_of_ble_eq_true rfl) rfl trivial (brbT (by first | assumption | decide | exact rfl | exact ne10 | exact ne20 | exact ne30) ?_)
              | refine c5 (Nat.le_of_ble_eq_true rfl) (Nat.le_of_ble_eq_true rfl) rfl trivial (brbF (by first | assumption | decide | exact rfl | exact ne10 | exact ne20 | exact ne30) ?_)
              | refine c4 (Nat.le_of_ble_eq_true rfl) rfl trivial (brbT (by first | assumption | decide | exact rfl | exact ne10 | exact ne20 | exact ne30) ?_)
              | refine c4 (Nat.le_of_ble_eq_true rfl) rfl trivial (brbF (by first | assumption | decide | exact rfl | exact ne10 | exact ne20 | exact ne30) ?_)
              | refine c4 (Nat.le_of_ble_eq_true rfl) (Nat.le_of_ble_eq_true rfl) rfl ?_
              | refine c3 (Nat.le_of_ble_eq_true rfl) rfl ?_
              | refine And.intro (by first | assumption | exact trivial) ?_
              | refine brbT (by first | assumption | decide | exact rfl | exact ne10 | exact ne20 | exact ne30) ?_
              | refine brbF (by first | assumption | decide | exact rfl | exact ne10 | exact ne20 | exact ne30) ?_
              | refine br_t (by first | assumption | decide | exact rfl | exact ne10 | exact ne20 | exact ne30) ?_
              | refine br_f (by first | assumption | decide | exact rfl | exact ne10 | exact ne20 | exact ne30) ?_
              | refine Exists.intro _ (And.intro rfl (And.intro rfl ?_)))
            refine spVi (p2 trivial) ?_
            intro r ρ hz
            obtain ⟨hr, hρ⟩ := pinj hz
            subst hr
            obtain ⟨hi, r0, r1, r2, r3⟩ := FT ρ hρ
            clear hρ hz
            rw [← r0] at dz
            repeat (first
              | refine c5 (Nat.le_of_ble_eq_true rfl) (Nat.le_of_ble_eq_true rfl) rfl trivial (brbT (by first | assumption | decide | exact rfl | exact ne10 | exact ne20 | exact ne30) ?_)
              | refine c5 (Nat.le_of_ble_eq_true rfl) (Nat.le_of_ble_eq_true rfl) rfl trivial (brbF (by first | assumption | decide | exact rfl | exact ne10 | exact ne20 | exact ne30) ?_)
              | refine c4 (Nat.le_of_ble_eq_true rfl) rfl trivial (brbT (by first | assumption | decide | exact rfl | exact ne10 | exact ne20 | exact ne30) ?_)
              | refine c4 (Nat.le_of_ble_eq_true rfl) rfl trivial (brbF (by first | assumption | decide | exact rfl | exact ne10 | exact ne20 | exact ne30) ?_)
              | refine c4 (Nat.le_of_ble_eq_true rfl) (Nat.le_of_ble_eq_true rfl) rfl ?_
              | refine c3 (Nat.le_of_ble_eq_true rfl) rfl ?_
              | refine And.intro (by first | assumption | exact trivial) ?_
              | refine brbT (by first | assumption | decide | exact rfl | exact ne10 | exact ne20 | exact ne30) ?_
              | refine brbF (by first | assumption | decide | exact rfl | exact ne10 | exact ne20 | exact ne30) ?_
              | refine br_t (by first | assumption | decide | exact rfl | exact ne10 | exact ne20 | exact ne30) ?_
              | refine br_f (by first | assumption | decide | exact rfl | exact ne10 | exact ne20 | exact ne30) ?_
              | refine Exists.intro _ (And.intro rfl (And.intro rfl ?_)))
            exact ⟨rfl, hi⟩
          · repeat (first
              | refine c5 (Nat.le_of_ble_eq_true rfl) (Nat.le_of_ble_eq_true rfl) rfl trivial (brbT (by first | assumption | decide | exact rfl | exact ne10 | exact ne20 | exact ne30) ?_)
              | refine c5 (Nat.le_of_ble_eq_true rfl) (Nat.le_of_ble_eq_true rfl) rfl trivial (brbF (by first | assumption | decide | exact rfl | exact ne10 | exact ne20 | exact ne30) ?_)
              | refine c4 (Nat.le_of_ble_eq_true rfl) rfl trivial (brbT (by first | assumption | decide | exact rfl | exact ne10 | exact ne20 | exact ne30) ?_)
              | refine c4 (Nat.le_of_ble_eq_true rfl) rfl trivial (brbF (by first | assumption | decide | exact rfl | exact ne10 | exact ne20 | exact ne30) ?_)
              | refine c4 (Nat.le_of_ble_eq_true rfl) (Nat.le_of_ble_eq_true rfl) rfl ?_
              | refine c3 (Nat.le_of_ble_eq_true rfl) rfl ?_
              | refine And.intro (by first | assumption | exact trivial) ?_
              | refine brbT (by first | assumption | decide | exact rfl | exact ne10 | exact ne20 | exact ne30) ?_
              | refine brbF (by first | assumption | decide | exact rfl | exact ne10 | exact ne20 | exact ne30) ?_
              | refine br_t (by first | assumption | decide | exact rfl | exact ne10 | exact ne20 | exact ne30) ?_
              | refine br_f (by first | assumption | decide | exact rfl | exact ne10 | exact ne20 | exact ne30) ?_
              | refine Exists.intro _ (And.intro rfl (And.intro rfl ?_)))
            refine spVi (p2 trivial) ?_
            intro r ρ hz
            obtain ⟨hr, hρ⟩ := pinj hz
            subst hr
            obtain ⟨hi, r0, r1, r2, r3⟩ := FT ρ hρ
            clear hρ hz
            rw [← r0] at dz
            repeat (first
              | refine c5 (Nat.le_of_ble_eq_true rfl) (Nat.le_of_ble_eq_true rfl) rfl trivial (brbT (by first | assumption | decide | exact rfl | exact ne10 | exact ne20 | exact ne30) ?_)
              | refine c5 (Nat.le_of_ble_eq_true rfl) (Nat.le_of_ble_eq_true rfl) rfl trivial (brbF (by first | assumption | decide | exact rfl | exact ne10 | exact ne20 | exact ne30) ?_)
              | refine c4 (Nat.le_of_ble_eq_true rfl) rfl trivial (brbT (by first | assumption | decide | exact rfl | exact ne10 | exact ne20 | exact ne30) ?_)
              | refine c4 (Nat.le_of_ble_eq_true rfl) rfl trivial (brbF (by first | assumption | decide | exact rfl | exact ne10 | exact ne20 | exact ne30) ?_)
              | refine c4 (Nat.le_of_ble_eq_true rfl) (Nat.le_of_ble_eq_true rfl) rfl ?_
              | refine c3 (Nat.le_of_ble_eq_true rfl) rfl ?_
              | refine And.intro (by first | assumption | exact trivial) ?_
              | refine brbT (by first | assumption | decide | exact rfl | exact ne10 | exact ne20 | exact ne30) ?_
              | refine brbF (by first | assumption | decide | exact rfl | exact ne10 | exact ne20 | exact ne30) ?_
              | refine br_t (by first | assumption | decide | exact rfl | exact ne10 | exact ne20 | exact ne30) ?_
              | refine br_f (by first | assumption | decide | exact rfl | exact ne10 | exact ne20 | exact ne30) ?_
              | refine Exists.intro _ (And.intro rfl (And.intro rfl ?_)))
            exact ⟨congrArg (fun z => some (Value.long z)) r2, hi⟩
      · subst z
        rcases hb with hb | hb <;> subst hb
        all_goals
          repeat (first
            | refine c5 (Nat.le_of_ble_eq_true rfl) (Nat.le_of_ble_eq_true rfl) rfl trivial (brbT (by first | assumption | decide | exact rfl | exact ne10 | exact ne20 | exact ne30) ?_)
            | refine c5 (Nat.le_of_ble_eq_true rfl) (Nat.le_of_ble_eq_true rfl) rfl trivial (brbF (by first | assumption | decide | exact rfl | exact ne10 | exact ne20 | exact ne30) ?_)
            | refine c4 (Nat.le_of_ble_eq_true rfl) rfl trivial (brbT (by first | assumption | decide | exact rfl | exact ne10 | exact ne20 | exact ne30) ?_)
            | refine c4 (Nat.le_of_ble_eq_true rfl) rfl trivial (brbF (by first | assumption | decide | exact rfl | exact ne10 | exact ne20 | exact ne30) ?_)
            | refine c4 (Nat.le_of_ble_eq_true rfl) (Nat.le_of_ble_eq_true rfl) rfl ?_
            | refine c3 (Nat.le_of_ble_eq_true rfl) rfl ?_
            | refine And.intro (by first | assumption | exact trivial) ?_
            | refine brbT (by first | assumption | decide | exact rfl | exact ne10 | exact ne20 | exact ne30) ?_
            | refine brbF (by first | assumption | decide | exact rfl | exact ne10 | exact ne20 | exact ne30) ?_
            | refine br_t (by first | assumption | decide | exact rfl | exact ne10 | exact ne20 | exact ne30) ?_
            | refine br_f (by first | assumption | decide | exact rfl | exact ne10 | exact ne20 | exact ne30) ?_
            | refine Exists.intro _ (And.intro rfl (And.intro rfl ?_)))
          refine spVi (okf trivial) ?_
          intro r τ hz
          obtain ⟨hr, hτ⟩ := pinj hz
          subst hr
          obtain ⟨⟨p1, p2⟩, FT⟩ := FS τ hτ
          clear hτ hz
          by_cases dz : lg_cmp (gL τ 28 10) (Int64.ofNat 0) = 0
          · repeat (first
              | refine c5 (Nat.le_of_ble_eq_true rfl) (Nat.le_of_ble_eq_true rfl) rfl trivial (brbT (by first | assumption | decide | exact rfl | exact ne10 | exact ne20 | exact ne30) ?_)
              | refine c5 (Nat.le_of_ble_eq_true rfl) (Nat.le_of_ble_eq_true rfl) rfl trivial (brbF (by first | assumption | decide | exact rfl | exact ne10 | exact ne20 | exact ne30) ?_)
              | refine c4 (Nat.le_of_ble_eq_true rfl) rfl trivial (brbT (by first | assumption | decide | exact rfl | exact ne10 | exact ne20 | exact ne30) ?_)
              | refine c4 (Nat.le_of_ble_eq_true rfl) rfl trivial (brbF (by first | assumption | decide | exact rfl | exact ne10 | exact ne20 | exact ne30) ?_)
              | refine c4 (Nat.le_of_ble_eq_true rfl) (Nat.le_of_ble_eq_true rfl) rfl ?_
              | refine c3 (Nat.le_of_ble_eq_true rfl) rfl ?_
              | refine And.intro (by first | assumption | exact trivial) ?_
              | refine brbT (by first | assumption | decide | exact rfl | exact ne10 | exact ne20 | exact ne30) ?_
              | refine brbF (by first | assumption | decide | exact rfl | exact ne10 | exact ne20 | exact ne30) ?_
              | refine br_t (by first | assumption | decide | exact rfl | exact ne10 | exact ne20 | exact ne30) ?_
              | refine br_f (by first | assumption | decide | exact rfl | exact ne10 | exact ne20 | exact ne30) ?_
              | refine Exists.intro _ (And.intro rfl (And.intro rfl ?_)))
            refine spVi (p2 trivial) ?_
            intro r ρ hz
            obtain ⟨hr, hρ⟩ := pinj hz
            subst hr
            obtain ⟨hi, r0, r1, r2, r3⟩ := FT ρ hρ
            clear hρ hz
            rw [← r0] at dz
            repeat (first
              | refine c5 (Nat.le_of_ble_eq_true rfl) (Nat.le_of_ble_eq_true rfl) rfl trivial (brbT (by first | assumption | decide | exact rfl | exact ne10 | exact ne20 | exact ne30) ?_)
              | refine c5 (Nat.le_of_ble_eq_true rfl) (Nat.le_of_ble_eq_true rfl) rfl trivial (brbF (by first | assumption | decide | exact rfl | exact ne10 | exact ne20 | exact ne30) ?_)
              | refine c4 (Nat.le_of_ble_eq_true rfl) rfl trivial (brbT (by first | assumption | decide | exact rfl | exact ne10 | exact ne20 | exact ne30) ?_)
              | refine c4 (Nat.le_of_ble_eq_true rfl) rfl trivial (brbF (by first | assumption | decide | exact rfl | exact ne10 | exact ne20 | exact ne30) ?_)
              | refine c4 (Nat.le_of_ble_eq_true rfl) (Nat.le_of_ble_eq_true rfl) rfl ?_
              | refine c3 (Nat.le_of_ble_eq_true rfl) rfl ?_
              | refine And.intro (by first | assumption | exact trivial) ?_
              | refine brbT (by first | assumption | decide | exact rfl | exact ne10 | exact ne20 | exact ne30) ?_
              | refine brbF (by first | assumption | decide | exact rfl | exact ne10 | exact ne20 | exact ne30) ?_
              | refine br_t (by first | assumption | decide | exact rfl | exact ne10 | exact ne20 | exact ne30) ?_
              | refine br_f (by first | assumption | decide | exact rfl | exact ne10 | exact ne20 | exact ne30) ?_
              | refine Exists.intro _ (And.intro rfl (And.intro rfl ?_)))
            exact ⟨rfl, hi⟩
          · repeat (first
              | refine c5 (Nat.le_of_ble_eq_true rfl) (Nat.le_of_ble_eq_true rfl) rfl trivial (brbT (by first | assumption | decide | exact rfl | exact ne10 | exact ne20 | exact ne30) ?_)
              | refine c5 (Nat.le_of_ble_eq_true rfl) (Nat.le_of_ble_eq_true rfl) rfl trivial (brbF (by first | assumption | decide | exact rfl | exact ne10 | exact ne20 | exact ne30) ?_)
              | refine c4 (Nat.le_of_ble_eq_true rfl) rfl trivial (brbT (by first | assumption | decide | exact rfl | exact ne10 | exact ne20 | exact ne30) ?_)
              | refine c4 (Nat.le_of_ble_eq_true rfl) rfl trivial (brbF (by first | assumption | decide | exact rfl | exact ne10 | exact ne20 | exact ne30) ?_)
              | refine c4 (Nat.le_of_ble_eq_true rfl) (Nat.le_of_ble_eq_true rfl) rfl ?_
              | refine c3 (Nat.le_of_ble_eq_true rfl) rfl ?_
              | refine And.intro (by first | assumption | exact trivial) ?_
              | refine brbT (by first | assumption | decide | exact rfl | exact ne10 | exact ne20 | exact ne30) ?_
              | refine brbF (by first | assumption | decide | exact rfl | exact ne10 | exact ne20 | exact ne30) ?_
              | refine br_t (by first | assumption | decide | exact rfl | exact ne10 | exact ne20 | exact ne30) ?_
              | refine br_f (by first | assumption | decide | exact rfl | exact ne10 | exact ne20 | exact ne30) ?_
              | refine Exists.intro _ (And.intro rfl (And.intro rfl ?_)))
            refine spVi (p2 trivial) ?_
            intro r ρ hz
            obtain ⟨hr, hρ⟩ := pinj hz
            subst hr
            obtain ⟨hi, r0, r1, r2, r3⟩ := FT ρ hρ
            clear hρ hz
            rw [← r0] at dz
            repeat (first
              | refine c5 (Nat.le_of_ble_eq_true rfl) (Nat.le_of_ble_eq_true rfl) rfl trivial (brbT (by first | assumption | decide | exact rfl | exact ne10 | exact ne20 | exact ne30) ?_)
              | refine c5 (Nat.le_of_ble_eq_true rfl) (Nat.le_of_ble_eq_true rfl) rfl trivial (brbF (by first | assumption | decide | exact rfl | exact ne10 | exact ne20 | exact ne30) ?_)
              | refine c4 (Nat.le_of_ble_eq_true rfl) rfl trivial (brbT (by first | assumption | decide | exact rfl | exact ne10 | exact ne20 | exact ne30) ?_)
              | refine c4 (Nat.le_of_ble_eq_true rfl) rfl trivial (brbF (by first | assumption | decide | exact rfl | exact ne10 | exact ne20 | exact ne30) ?_)
              | refine c4 (Nat.le_of_ble_eq_true rfl) (Nat.le_of_ble_eq_true rfl) rfl ?_
              | refine c3 (Nat.le_of_ble_eq_true rfl) rfl ?_
              | refine And.intro (by first | assumption | exact trivial) ?_
              | refine brbT (by first | assumption | decide | exact rfl | exact ne10 | exact ne20 | exact ne30) ?_
              | refine brbF (by first | assumption | decide | exact rfl | exact ne10 | exact ne20 | exact ne30) ?_
              | refine br_t (by first | assumption | decide | exact rfl | exact ne10 | exact ne20 | exact ne30) ?_
              | refine br_f (by first | assumption | decide | exact rfl | exact ne10 | exact ne20 | exact ne30) ?_
              | refine Exists.intro _ (And.intro rfl (And.intro rfl ?_)))
            exact ⟨congrArg (fun z => some (Value.long z)) r3, hi⟩
    · obtain ⟨s1, s2, s3, s4⟩ := σ
      have hgp : s3 = b := hgp
      subst hgp
      rcases hb with hb | hb <;> subst hb
      all_goals
        repeat (first
          | refine c5 (Nat.le_of_ble_eq_true rfl) (Nat.le_of_ble_eq_true rfl) rfl trivial (brbT (by first | assumption | decide | exact rfl | exact ne10 | exact ne20 | exact ne30) ?_)
          | refine c5 (Nat.le_of_ble_eq_true rfl) (Nat.le_of_ble_eq_true rfl) rfl trivial (brbF (by first | assumption | decide | exact rfl | exact ne10 | exact ne20 | exact ne30) ?_)
          | refine c4 (Nat.le_of_ble_eq_true rfl) rfl trivial (brbT (by first | assumption | decide | exact rfl | exact ne10 | exact ne20 | exact ne30) ?_)
          | refine c4 (Nat.le_of_ble_eq_true rfl) rfl trivial (brbF (by first | assumption | decide | exact rfl | exact ne10 | exact ne20 | exact ne30) ?_)
          | refine c4 (Nat.le_of_ble_eq_true rfl) (Nat.le_of_ble_eq_true rfl) rfl ?_
          | refine c3 (Nat.le_of_ble_eq_true rfl) rfl ?_
          | refine And.intro (by first | assumption | exact trivial) ?_
          | refine brbT (by first | assumption | decide | exact rfl | exact ne10 | exact ne20 | exact ne30) ?_
          | refine brbF (by first | assumption | decide | exact rfl | exact ne10 | exact ne20 | exact ne30) ?_
          | refine br_t (by first | assumption | decide | exact rfl | exact ne10 | exact ne20 | exact ne30) ?_
          | refine br_f (by first | assumption | decide | exact rfl | exact ne10 | exact ne20 | exact ne30) ?_
          | refine Exists.intro _ (And.intro rfl (And.intro rfl ?_)))
        exact ⟨rfl, h0⟩
  · have q1' : ¬ (0 ≤ e ∧ e ≤ gI σ b 0 - 1) := fun z => q1 ((hasE hc hm e).mp z)
    obtain ⟨s1, s2, s3, s4⟩ := σ
    have hgp : s3 = b := hgp
    subst hgp
    rcases hb with hb | hb <;> subst hb
    all_goals
      repeat (first
        | refine c5 (Nat.le_of_ble_eq_true rfl) (Nat.le_of_ble_eq_true rfl) rfl trivial (brbT (by first | assumption | decide | exact rfl | exact ne10 | exact ne20 | exact ne30) ?_)
        | refine c5 (Nat.le_of_ble_eq_true rfl) (Nat.le_of_ble_eq_true rfl) rfl trivial (brbF (by first | assumption | decide | exact rfl | exact ne10 | exact ne20 | exact ne30) ?_)
        | refine c4 (Nat.le_of_ble_eq_true rfl) rfl trivial (brbT (by first | assumption | decide | exact rfl | exact ne10 | exact ne20 | exact ne30) ?_)
        | refine c4 (Nat.le_of_ble_eq_true rfl) rfl trivial (brbF (by first | assumption | decide | exact rfl | exact ne10 | exact ne20 | exact ne30) ?_)
        | refine c4 (Nat.le_of_ble_eq_true rfl) (Nat.le_of_ble_eq_true rfl) rfl ?_
        | refine c3 (Nat.le_of_ble_eq_true rfl) rfl ?_
        | refine And.intro (by first | assumption | exact trivial) ?_
        | refine brbT (by first | assumption | decide | exact rfl | exact ne10 | exact ne20 | exact ne30) ?_
        | refine brbF (by first | assumption | decide | exact rfl | exact ne10 | exact ne20 | exact ne30) ?_
        | refine br_t (by first | assumption | decide | exact rfl | exact ne10 | exact ne20 | exact ne30) ?_
        | refine br_f (by first | assumption | decide | exact rfl | exact ne10 | exact ne20 | exact ne30) ?_
        | refine Exists.intro _ (And.intro rfl (And.intro rfl ?_)))
      exact ⟨rfl, h0⟩
