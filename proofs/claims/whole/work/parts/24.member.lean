/-- member i of event e, by both -/
theorem memE {σ : Mem} {b nE : Nat} {st mh : Nat → Nat} {n : Nat} (hc : EvC σ b nE st mh n) (hm : EvM σ b nE st mh) (e i : Int32) : ((0 ≤ e ∧ e ≤ gI σ b 0 - 1) ∧ 0 ≤ i ∧ i ≤ gI σ (b + 1) (rI (e + 1)) - gI σ (b + 1) (rI e) - 1) ↔ ((0 ≤ e ∧ e < gI σ 42 30) ∧ 0 ≤ i ∧ i < gI σ 65 (rI (e + 1)) - gI σ 65 (rI e)) := by
  have he := hasE hc hm e
  by_cases q : 0 ≤ e ∧ e < gI σ 42 30
  · obtain ⟨k, hk, hw⟩ := idx_of (n := nE) (by rw [← hm.1]; exact q) (by have := hc.1; omega)
    obtain ⟨B1, B2, B3⟩ := hc.okB hk
    obtain ⟨M1, M2, M3⟩ := EvM.okB hc hm hk
    have hlen := hc.2.2.2.1 k hk
    have hle := hc.le_st (show k + 1 ≤ nE by omega)
    have h240 := hc.2.2.2.2.1
    rw [← hw] at B1 B2 B3 M1 M2 M3
    rw [B1.2.2.2.1, B1.2.2.2.2.1, M1.2.2.2.1, M1.2.2.2.2.1, B2, B3, M2, M3, pk_sub (by omega)]
    have hz := cn_of (x := nI (st k + (st (k + 1) - st k) - st k)) (n := st (k + 1) - st k) (N := 240) (by congr 1; omega) (by omega) (by decide)
    rw [cn_lt hz.1 (by decide), he]
  · exact ⟨fun z => absurd (he.mp z.1) q, fun z => absurd z.1 q⟩
theorem memOK {σ : Mem} {b nE : Nat} {st mh : Nat → Nat} {n : Nat} (hc : EvC σ b nE st mh n) (hm : EvM σ b nE st mh) {e i : Int32} (h : (0 ≤ e ∧ e < gI σ 42 30) ∧ 0 ≤ i ∧ i < gI σ 65 (rI (e + 1)) - gI σ 65 (rI e)) : ∃ k j, k < nE ∧ e = nI k ∧ i = nI j ∧ j < st (k + 1) - st k ∧ gI σ (b + 1) (rI e) + i = nI (st k + j) ∧ gI σ 65 (rI e) + i = nI (st k + j) := by
  obtain ⟨k, hk, hw⟩ := idx_of (n := nE) (by rw [← hm.1]; exact h.1) (by have := hc.1; omega)
  obtain ⟨B1, B2, B3⟩ := hc.okB hk
  obtain ⟨M1, M2, M3⟩ := EvM.okB hc hm hk
  have hlen := hc.2.2.2.1 k hk
  have hle := hc.le_st (show k + 1 ≤ nE by omega)
  have h240 := hc.2.2.2.2.1
  rw [← hw] at B1 B2 B3 M1 M2 M3
  have hi := h.2
  rw [M1.2.2.2.1, M1.2.2.2.2.1, M2, M3, pk_sub (by omega), show st k + (st (k + 1) - st k) - st k = st (k + 1) - st k by omega] at hi
  obtain ⟨j, hj, hij⟩ := idx_of hi (by omega)
  exact ⟨k, j, hk, hw, hij, hj, by rw [B1.2.2.2.1, B2, hij, nI_add], by rw [M1.2.2.2.1, M2, hij, nI_add]⟩
theorem preE {σ : Mem} {b nE : Nat} {st mh : Nat → Nat} {n : Nat} (hc : EvC σ b nE st mh n) (hm : EvM σ b nE st mh) (e : Int32) : (0 ≤ e ∧ e < gI σ 42 30 → vp_in (e + 1) 241 ∧ vp_in e 241) ∧ (0 ≤ e ∧ e ≤ gI σ b 0 - 1 → vp_in (e + 1) 241 ∧ vp_in e 241) := by
  have key : 0 ≤ e ∧ e < gI σ 42 30 → vp_in (e + 1) 241 ∧ vp_in e 241 := by
    intro q
    obtain ⟨k, hk, hw⟩ := idx_of (n := nE) (by rw [← hm.1]; exact q) (by have := hc.1; omega)
    obtain ⟨B1, -, -⟩ := hc.okB hk
    rw [← hw] at B1
    exact ⟨B1.2.2.1, B1.2.1⟩
  exact ⟨key, fun q => key ((hasE hc hm e).mp q)⟩
theorem prMember {σ : Mem} (h : Inv σ) (e i : Int32) : PRi spX9_member spX10_member [.int e, .int i] σ := by
  have h0 := h
  obtain ⟨nT, nH, nC, nD, ⟨hT, hH, hC, hD⟩, ⟨hS, hR, hX⟩, hE⟩ := h
  obtain ⟨b, nE, st, mh, hb, hgp, hc, hm⟩ := lat hE
  obtain ⟨p1, p2⟩ := preE hc hm e
  refine And.intro rfl ?_
  by_cases q1 : (0 ≤ e ∧ e < gI σ 42 30) ∧ 0 ≤ i ∧ i < gI σ 65 (rI (e + 1)) - gI σ 65 (rI e)
  · have q1' := (memE hc hm e i).mpr q1
    obtain ⟨k, j, hk, hw, hi, hj, e1, e2⟩ := memOK hc hm q1
    have hin := (p1 q1.1).2
    have hle := hc.le_st (show k + 1 ≤ nE by omega)
    have h240 := hc.2.2.2.2.1
    have f1 : vp_in (gI σ (b + 1) (rI e) + i) 240 := by rw [e1]; exact inI (by omega) (by decide)
    have f2 : vp_in (gI σ 65 (rI e) + i) 240 := by rw [e2]; exact inI (by omega) (by decide)
    have res : gI σ 66 (rI (gI σ 65 (rI e) + i)) = gI σ (b + 3) (rI (gI σ (b + 1) (rI e) + i)) := by
      rw [e1, e2, rI_nI (by omega), (hm.2.2.2.1 _ (by omega)).1, (hc.2.2.2.2.2.2.1 _ (by omega)).1]
    obtain ⟨s1, s2, s3, s4⟩ := σ
    have hgp : s3 = b := hgp
    subst hgp
    rcases hb with hb | hb
    · subst hb
      repeat (first
        | refine c5 (Nat.le_of_ble_eq_true rfl) (Nat.le_of_ble_eq_true rfl) rfl trivial (brbT (by first | assumption | decide | exact rfl | exact ne10 | exact ne20 | exact ne30) ?_)
        | refine c5 (Nat.le_of_ble_eq_true rfl) (Nat.le_of_ble_eq_true rfl) rfl trivial (brbF (by first | assumption | decide | exact rfl | exact ne10 | exact ne20 | exact ne30) ?_)
        | refine c4 (Nat.le_of_ble_eq_true rfl) rfl trivial (brbT (by first | assumption | decide | exact rfl | exact ne10 | exact ne20 | exact ne30) ?_)
        | refine c4 (Nat.le_of_ble_eq_true rfl) rfl trivial (brbF (by first | assumption | decide | exact rfl | exact ne10 | exact ne20 | exact ne30) ?_)
        | refine c4 (Nat.le_of_ble_eq_true rfl) (Nat.le_of_ble_eq_true rfl) rfl ?_
        | refine c3 (Nat.le_of_ble_eq_true rfl) rfl ?_
        | refine And.intro (by first | assumption | exact trivial) ?_
        | refine brbT (by first | assumption | decide | exact rfl | exact ne10 | exact ne20 | exact ne30) ?_
        | refine brbF (by first | assumption | decide | exact rfl | exact ne10 | exact ne20 | exact ne30) ?_
        | refine br_t (by first | assumption | decide | exact rfl | exact ne10 | exact ne20 | exact ne30) ?_
        | refine br_f (by first | assumption | decide | exact rfl | exact ne10 | exact ne20 | exact ne30) ?_
        | refine Exists.intro _ (And.intro rfl (And.intro rfl ?_)))
      exact ⟨congrArg (fun z => some (Value.int z)) res, h0⟩
    · subst hb
      repeat (first
        | refine c5 (Nat.le_of_ble_eq_true rfl) (Nat.le_of_ble_eq_true rfl) rfl trivial (brbT (by first | assumption | decide | exact rfl | exact ne10 | exact ne20 | exact ne30) ?_)
        | refine c5 (Nat.le_of_ble_eq_true rfl) (Nat.le_of_ble_eq_true rfl) rfl trivial (brbF (by first | assumption | decide | exact rfl | exact ne10 | exact ne20 | exact ne30) ?_)
        | refine c4 (Nat.le_of_ble_eq_true rfl) rfl trivial (brbT (by first | assumption | decide | exact rfl | exact ne10 | exact ne20 | exact ne30) ?_)
        | refine c4 (Nat.le_of_ble_eq_true rfl) rfl trivial (brbF (by first | assumption | decide | exact rfl | exact ne10 | exact ne20 | exact ne30) ?_)
        | refine c4 (Nat.le_of_ble_eq_true rfl) (Nat.le_of_ble_eq_true rfl) rfl ?_
        | refine c3 (Nat.le_of_ble_eq_true rfl) rfl ?_
        | refine And.intro (by first | assumption | exact trivial) ?_
        | refine brbT (by first | assumption | decide | exact rfl | exact ne10 | exact ne20 | exact ne30) ?_
        | refine brbF (by first | assumption | decide | exact rfl | exact ne10 | exact ne20 | exact ne30) ?_
        | refine br_t (by first | assumption | decide | exact rfl | exact ne10 | exact ne20 | exact ne30) ?_
        | refine br_f (by first | assumption | decide | exact rfl | exact ne10 | exact ne20 | exact ne30) ?_
        | refine Exists.intro _ (And.intro rfl (And.intro rfl ?_)))
      exact ⟨congrArg (fun z => some (Value.int z)) res, h0⟩
  · have q1' : ¬ ((0 ≤ e ∧ e ≤ gI σ b 0 - 1) ∧ 0 ≤ i ∧ i ≤ gI σ (b + 1) (rI (e + 1)) - gI σ (b + 1) (rI e) - 1) := fun z => q1 ((memE hc hm e i).mp z)
    obtain ⟨s1, s2, s3, s4⟩ := σ
    have hgp : s3 = b := hgp
    subst hgp
    rcases hb with hb | hb
    · subst hb
      repeat (first
        | refine c5 (Nat.le_of_ble_eq_true rfl) (Nat.le_of_ble_eq_true rfl) rfl trivial (brbT (by first | assumption | decide | exact rfl | exact ne10 | exact ne20 | exact ne30) ?_)
        | refine c5 (Nat.le_of_ble_eq_true rfl) (Nat.le_of_ble_eq_true rfl) rfl trivial (brbF (by first | assumption | decide | exact rfl | exact ne10 | exact ne20 | exact ne30) ?_)
        | refine c4 (Nat.le_of_ble_eq_true rfl) rfl trivial (brbT (by first | assumption | decide | exact rfl | exact ne10 | exact ne20 | exact ne30) ?_)
        | refine c4 (Nat.le_of_ble_eq_true rfl) rfl trivial (brbF (by first | assumption | decide | exact rfl | exact ne10 | exact ne20 | exact ne30) ?_)
        | refine c4 (Nat.le_of_ble_eq_true rfl) (Nat.le_of_ble_eq_true rfl) rfl ?_
        | refine c3 (Nat.le_of_ble_eq_true rfl) rfl ?_
        | refine And.intro (by first | assumption | exact trivial) ?_
        | refine brbT (by first | assumption | decide | exact rfl | exact ne10 | exact ne20 | exact ne30) ?_
        | refine brbF (by first | assumption | decide | exact rfl | exact ne10 | exact ne20 | exact ne30) ?_
        | refine br_t (by first | assumption | decide | exact rfl | exact ne10 | exact ne20 | exact ne30) ?_
        | refine br_f (by first | assumption | decide | exact rfl | exact ne10 | exact ne20 | exact ne30) ?_
        | refine Exists.intro _ (And.intro rfl (And.intro rfl ?_)))
      exact ⟨rfl, h0⟩
    · subst hb
      repeat (first
        | refine c5 (Nat.le_of_ble_eq_true rfl) (Nat.le_of_ble_eq_true rfl) rfl trivial (brbT (by first | assumption | decide | exact rfl | exact ne10 | exact ne20 | exact ne30) ?_)
        | refine c5 (Nat.le_of_ble_eq_true rfl) (Nat.le_of_ble_eq_true rfl) rfl trivial (brbF (by first | assumption | decide | exact rfl | exact ne10 | exact ne20 | exact ne30) ?_)
        | refine c4 (Nat.le_of_ble_eq_true rfl) rfl trivial (brbT (by first | assumption | decide | exact rfl | exact ne10 | exact ne20 | exact ne30) ?_)
        | refine c4 (Nat.le_of_ble_eq_true rfl) rfl trivial (brbF (by first | assumption | decide | exact rfl | exact ne10 | exact ne20 | exact ne30) ?_)
        | refine c4 (Nat.le_of_ble_eq_true rfl) (Nat.le_of_ble_eq_true rfl) rfl ?_
        | refine c3 (Nat.le_of_ble_eq_true rfl) rfl ?_
        | refine And.intro (by first | assumption | exact trivial) ?_
        | refine brbT (by first | assumption | decide | exact rfl | exact ne10 | exact ne20 | exact ne30) ?_
        | refine brbF (by first | assumption | decide | exact rfl | exact ne10 | exact ne20 | exact ne30) ?_
        | refine br_t (by first | assumption | decide | exact rfl | exact ne10 | exact ne20 | exact ne30) ?_
        | refine br_f (by first | assumption | decide | exact rfl | exact ne10 | exact ne20 | exact ne30) ?_
        | refine Exists.intro _ (And.intro rfl (And.intro rfl ?_)))
      exact ⟨rfl, h0⟩
def csX9_struck : Cs := [(143, 1, true, spX5_has), (150, 1, true, spX9_timePutRight), (153, 1, true, spX5_kindOf), (156, 1, true, spX5_amountOf), (159, 1, true, spX9_isLookedAt)]
def spX9_struck : SP := G [(2, [0]), (0, []), (0, [])] (slf 3 pgX9_struck csX9_struck lcX9 false 52)
theorem bdX9_struck : Body 3 pgX9_struck roM csX9_struck lcX9 false spX9_struck := Body.slf
theorem mnX9_struck : Mono spX9_struck := Mono.slf (csM_cons mnX5_has (csM_cons mnX9_timePutRight (csM_cons mnX5_kindOf (csM_cons mnX5_amountOf (csM_cons mnX9_isLookedAt csM_nil)))))
def csX10_struck : Cs := [(138, 1, true, spX10_kindOf), (145, 1, true, spX10_isLooked), (151, 1, true, spX10_isHit), (154, 1, true, spX10_rightTime), (157, 1, true, spX10_amountOf)]
def stM (σ : Mem) (h w : Int32) : Int32 := if w = 0 then gI σ 45 (rI h) else if w = 1 then gI σ 46 (rI h) else if w = 2 then rtM σ (rI h) else if w = 3 then kdM (gI σ 47 (rI h)) (gI σ 48 (rI h)) else if w = 4 then amM (gI σ 47 (rI h)) (gI σ 48 (rI h)) else if w = 5 then bI (dutF (gI σ 52) (gI σ 53) (gI σ 54) (gI σ 45 (rI h)) (gI σ 46 (rI h)) (rI (gI σ 42 14)) = -9) else -2
def spX10_struck : SP := G [(2, [42]), (0, []), (0, [])] (spF (fun vs σ => match vs with
  | [_, .int a1, .int a2] => (0 ≤ a1 ∧ a1 < gI σ 42 5 → vp_in (a1) 240) ∧ cn (gI σ 42 10) 20 ∧ cn (gI σ 42 14) 20 ∧ cn (gI σ 42 30) 240 ∧ ∀ e, e ≤ rI (gI σ 42 30) → cn (gI σ 65 e) 240
  | _ => True) (fun vs σ r σ' => match vs with
  | [_, .int a1, .int a2] => σ' = σ ∧ ∃ v, r = some (.int v) ∧ (¬ (0 ≤ a1 ∧ a1 < gI σ 42 5) → v = -1) ∧ (0 ≤ a1 ∧ a1 < gI σ 42 5 → (¬ a2 = 6 → v = stM σ (a1) (a2)) ∧ (a2 = 6 → (∃ e k, e < rI (gI σ 42 30) ∧ rI (gI σ 65 e) ≤ k ∧ k < rI (gI σ 65 (e + 1)) ∧ gI σ 66 k = a1 ∧ v = nI e) ∨ ((∀ e k, e < rI (gI σ 42 30) → rI (gI σ 65 e) ≤ k → k < rI (gI σ 65 (e + 1)) → ¬ gI σ 66 k = a1) ∧ v = -9)))
  | _ => True))
theorem mnX10_struck : Mono spX10_struck := Mono.spF
set_option maxHeartbeats 4000000 in
theorem bdX10_struck : Body 5 pgX10_struck roM csX10_struck lcX10 false spX10_struck := by
  intro vs σ K h Ok hst
  obtain ⟨hs, hp9, hk⟩ := h
  obtain ⟨vs, rfl, hs1⟩ := shpR1 hs
  obtain ⟨h, vs, rfl, hs2⟩ := shpI hs1
  obtain ⟨w, vs, rfl, hs3⟩ := shpI hs2
  cases shpN hs3
  obtain ⟨hv, hC, hD, ⟨hm, hmn⟩, h65⟩ := hp9
  have hv : 0 ≤ h ∧ h < gI σ 42 5 → vp_in h 240 := hv
  have hk : ∀ v, (¬ (0 ≤ h ∧ h < gI σ 42 5) → v = -1) ∧ (0 ≤ h ∧ h < gI σ 42 5 → (¬ w = 6 → v = stM σ h w) ∧ (w = 6 → (∃ e k, e < rI (gI σ 42 30) ∧ rI (gI σ 65 e) ≤ k ∧ k < rI (gI σ 65 (e + 1)) ∧ gI σ 66 k = h ∧ v = nI e) ∨ ((∀ e k, e < rI (gI σ 42 30) → rI (gI σ 65 e) ≤ k → k < rI (gI σ 65 (e + 1)) → ¬ gI σ 66 k = h) ∧ v = -9))) → K (some (.int v)) σ := fun v q => hk _ _ ⟨rfl, v, rfl, q⟩
  refine hst [40] 80 _ _ _ _ ?_
  refine c4 (Nat.le_of_ble_eq_true rfl) rfl trivial (brb (fun q1 => ?_) (fun q1 => ?_))
  · have hin := hv q1
    have hk1 : ∀ v, ¬ w = 6 → v = stM σ h w → K (some (.int v)) σ := fun v n6 q => hk v ⟨fun z => absurd q1 z, fun _ => ⟨fun _ => q, fun z => absurd z n6⟩⟩
    refine And.intro (fun w0 => ?_) (fun w0 => And.intro (fun w1 => ?_) (fun w1 => And.intro (fun w2 => ?_) (fun w2 => And.intro (fun w3 => ?_) (fun w3 => And.intro (fun w4 => ?_) (fun w4 => And.intro (fun w5 => ?_) (fun w5 => And.intro (fun w6 => ?_) (fun w6 => ?_)))))))
    · exact And.intro hin (hk1 _ (by rw [w0]; decide) (by rw [stM, if_pos w0]))
    · exact And.intro hin (hk1 _ (by rw [w1]; decide) (by rw [stM, if_neg w0, if_pos w1]))
    · exact c4 (Nat.le_of_ble_eq_true rfl) rfl ⟨hin, hC⟩ (hk1 _ (by rw [w2]; decide) (by rw [stM, if_neg w0, if_neg w1, if_pos w2]))
    · exact c4 (Nat.le_of_ble_eq_true rfl) rfl hin (hk1 _ (by rw [w3]; decide) (by rw [stM, if_neg w0, if_neg w1, if_neg w2, if_pos w3]))
    · exact c4 (Nat.le_of_ble_eq_true rfl) rfl hin (hk1 _ (by rw [w4]; decide) (by rw [stM, if_neg w0, if_neg w1, if_neg w2, if_neg w3, if_pos w4]))
    · refine c4 (Nat.le_of_ble_eq_true rfl) rfl ⟨hin, hD⟩ (brb (fun q => ?_) (fun q => ?_))
      · exact hk1 _ (by rw [w5]; decide) (by rw [stM, if_neg w0, if_neg w1, if_neg w2, if_neg w3, if_neg w4, if_pos w5, bI_pos q])
      · exact hk1 _ (by rw [w5]; decide) (by rw [stM, if_neg w0, if_neg w1, if_neg w2, if_neg w3, if_neg w4, if_pos w5, bI_neg q])
    · have hk6 : ∀ v, ((∃ e k, e < rI (gI σ 42 30) ∧ rI (gI σ 65 e) ≤ k ∧ k < rI (gI σ 65 (e + 1)) ∧ gI σ 66 k = h ∧ v = nI e) ∨ ((∀ e k, e < rI (gI σ 42 30) → rI (gI σ 65 e) ≤ k → k < rI (gI σ 65 (e + 1)) → ¬ gI σ 66 k = h) ∧ v = -9)) → K (some (.int v)) σ := fun v q => hk v ⟨fun z => absurd q1 z, fun _ => ⟨fun z => absurd w6 z, fun _ => q⟩⟩
      generalize rI (gI σ 42 30) = n at hm hmn h65 hk6
      have outer : ∀ d e, e + d = n → (∀ e' k, e' < e → rI (gI σ 65 e') ≤ k → k < rI (gI σ 65 (e' + 1)) → ¬ gI σ 66 k = h) → ∀ x, Ok 40 [some (.ref 42), some (.int h), some (.int w), some (.int (nI e)), x] [] σ := by
        intro d
        induction d with
        | zero =>
          intro e he hno x
          refine hst [40] 50 _ _ _ _ ?_
          refine br_t (by rw [hm]; exact nI_le (by omega) (by omega)) ?_
          have : e = n := by omega
          subst this
          exact hk6 _ (Or.inr ⟨hno, rfl⟩)
        | succ d ih =>
          intro e he hno x
          obtain ⟨g1, g2⟩ := h65 e (by omega)
          obtain ⟨g3, g4⟩ := h65 (e + 1) (by omega)
          have hr : rI (nI e) = e := rI_nI (by omega)
          have hr1 : rI (nI e + 1) = e + 1 := by rw [nI_1]; exact rI_nI (by omega)
          have i1 : vp_in (nI e) 241 := inI (by omega) (by decide)
          have i2 : vp_in (nI e + 1) 241 := by rw [nI_1]; exact inI (by omega) (by decide)
          have inner : ∀ d2 k, rI (gI σ 65 e) ≤ k → k + d2 = 241 → (∀ k', rI (gI σ 65 e) ≤ k' → k' < k → k' < rI (gI σ 65 (e + 1)) → ¬ gI σ 66 k' = h) → Ok 49 [some (.ref 42), some (.int h), some (.int w), some (.int (nI e)), some (.int (nI k))] [] σ := by
            intro d2
            induction d2 with
            | zero =>
              intro k hk1 hk2 hno2
              refine hst [40] 50 _ _ _ _ ?_
              refine And.intro i2 (br_t (by rw [hr1, g3]; exact nI_le (by omega) (by omega)) ?_)
              have := ih (e + 1) (by omega) (fun e' k' he' a b => by
                rcases Nat.lt_or_ge e' e with z | z
                · exact hno e' k' z a b
                · have : e' = e := by omega
                  subst this
                  exact hno2 k' a (by omega) b) (some (.int (nI k)))
              rw [← nI_1] at this
              exact this
            | succ d2 ih2 =>
              intro k hk1 hk2 hno2
              refine hst [40, 49] 50 _ _ _ _ ?_
              refine And.intro i2 ?_
              by_cases lt : k < rI (gI σ 65 (e + 1))
              · refine br_f (by rw [hr1, g3]; exact nI_ge lt (by omega)) (And.intro (inI (by omega) (by decide)) ?_)
                have hrk : rI (nI k) = k := rI_nI (by omega)
                refine And.intro (fun z => ?_) (fun z => ?_)
                · rw [hrk] at z
                  exact hk6 _ (Or.inl ⟨e, k, by omega, hk1, lt, z, rfl⟩)
                · rw [hrk] at z
                  have := ih2 (k + 1) (by omega) (by omega) (fun k' a b c => by
                    rcases Nat.lt_or_ge k' k with y | y
                    · exact hno2 k' a y c
                    · have : k' = k := by omega
                      subst this
                      exact z)
                  rw [← nI_1] at this
                  exact this
              · refine br_t (by rw [hr1, g3]; exact nI_le (by omega) (by omega)) ?_
                have := ih (e + 1) (by omega) (fun e' k' he' a b => by
                  rcases Nat.lt_or_ge e' e with z | z
                  · exact hno e' k' z a b
                  · have : e' = e := by omega
                    subst this
                    exact hno2 k' a (by omega) b) (some (.int (nI k)))
                rw [← nI_1] at this
                exact this
          refine hst [40, 49] 50 _ _ _ _ ?_
          refine br_f (by rw [hm]; exact nI_ge (by omega) (by omega)) (And.intro i1 ?_)
          have := inner (241 - rI (gI σ 65 e)) (rI (gI σ 65 e)) (Nat.le_refl _) (by omega) (fun k' a b => by omega)
          rw [← g1] at this
          rw [← hr] at this
          rw [hr] at this
          have l2 : Ok 49 [some (.ref 42), some (.int h), some (.int w), some (.int (nI e)), some (.int (gI σ 65 (rI (nI e))))] [] σ := by
            rw [hr]; exact this
          exact l2
      exact outer n 0 (by omega) (fun e' k he' => by omega) none
    · exact hk1 _ w6 (by rw [stM, if_neg w0, if_neg w1, if_neg w2, if_neg w3, if_neg w4, if_neg w5])
  · exact hk _ ⟨fun _ => rfl, fun z => absurd z q1⟩
