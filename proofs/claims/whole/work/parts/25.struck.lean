theorem EvC.seg {σ : Mem} {b nE : Nat} {st mh : Nat → Nat} {n : Nat} (h : EvC σ b nE st mh n) {p : Nat} (hp : p < st nE) : ∃ ev, ev < nE ∧ st ev ≤ p ∧ p < st (ev + 1) := by
  have key : ∀ n, n ≤ nE → p < st n → ∃ ev, ev < n ∧ st ev ≤ p ∧ p < st (ev + 1) := by
    intro n
    induction n with
    | zero => intro _ g; rw [h.2.2.1] at g; omega
    | succ n ih =>
      intro g1 g2
      rcases Nat.lt_or_ge p (st n) with q | q
      · obtain ⟨ev, z1, z2⟩ := ih (by omega) q
        exact ⟨ev, by omega, z2⟩
      · exact ⟨n, Nat.lt_succ_self n, q, g2⟩
  exact key nE (Nat.le_refl _) hp
set_option maxHeartbeats 4000000 in
theorem prStruck {σ : Mem} (h : Inv σ) (w v : Int32) : PRi spX9_struck spX10_struck [.int w, .int v] σ := by
  have h0 := h
  obtain ⟨nT, nH, nC, nD, ⟨hT, hH, hC, hD⟩, ⟨hS, hR, hX⟩, hE⟩ := h
  obtain ⟨b, nE, st, mh, hb, hgp, hc, hm⟩ := lat hE
  obtain ⟨pc1, pc2, -, -⟩ := cnC hC
  obtain ⟨pd1, pd2, -, -⟩ := cnD hD
  have hn := hH.1
  have hnE := hc.1
  have h240 := hc.2.2.2.2.1
  have e30 := cn_of hm.1 hc.1 (by decide)
  have pre65 : ∀ e, e ≤ rI (gI σ 42 30) → cn (gI σ 65 e) 240 := by
    intro e he
    rw [e30.2] at he
    exact (cn_of (hm.2.2.1 e he) (by have := hc.le_st he; omega) (by decide)).1
  refine And.intro rfl ?_
  by_cases q1 : 0 ≤ w ∧ w < gI σ 42 5
  · have q1' := (hasH hH w).mpr q1
    obtain ⟨k, hk, hw⟩ := idx_of (n := nH) (by rw [← hH.2.2.1]; exact q1) (by omega)
    have hin : vp_in w 240 := by rw [hw]; exact inI (by omega) (by decide)
    have er : rI w = k := by rw [hw]; exact rI_nI (by omega)
    obtain ⟨⟨a1, a2, a3, a4⟩, ho⟩ := hH.2.2.2 k hk
    have pre : (0 ≤ w ∧ w < gI σ 42 5 → vp_in w 240) ∧ cn (gI σ 42 10) 20 ∧ cn (gI σ 42 14) 20 ∧ cn (gI σ 42 30) 240 ∧ ∀ e, e ≤ rI (gI σ 42 30) → cn (gI σ 65 e) 240 := ⟨fun _ => hin, pc2, pd2, e30.1, pre65⟩
    have fin : ∀ x : Int32, ¬ v = 6 → stM σ w v = x → ∀ (r : Option Value) (σ' : Mem), (σ' = σ ∧ ∃ u, r = some (.int u) ∧ (¬ (0 ≤ w ∧ w < gI σ 42 5) → u = -1) ∧ (0 ≤ w ∧ w < gI σ 42 5 → (¬ v = 6 → u = stM σ w v) ∧ (v = 6 → (∃ e k, e < rI (gI σ 42 30) ∧ rI (gI σ 65 e) ≤ k ∧ k < rI (gI σ 65 (e + 1)) ∧ gI σ 66 k = w ∧ u = nI e) ∨ ((∀ e k, e < rI (gI σ 42 30) → rI (gI σ 65 e) ≤ k → k < rI (gI σ 65 (e + 1)) → ¬ gI σ 66 k = w) ∧ u = -9)))) → r = some (.int x) ∧ Inv σ' := by
      intro x n6 hx r σ' hp
      obtain ⟨rfl, u, rfl, -, h2⟩ := hp
      exact ⟨by rw [(h2 q1).1 n6, hx], h0⟩
    have f1 : vp_in w 240 ∧ cn (gI σ 9 3) 20 := ⟨hin, pc1⟩
    have f2 : vp_in w 240 ∧ cn (gI σ 13 3) 20 := ⟨hin, pd1⟩
    by_cases w0 : v = 0
    · subst w0
      repeat (first
        | refine c5 (Nat.le_of_ble_eq_true rfl) (Nat.le_of_ble_eq_true rfl) rfl trivial (brbT (by first | assumption | decide | exact rfl | exact ne10 | exact ne20 | exact ne30) ?_)
        | refine c5 (Nat.le_of_ble_eq_true rfl) (Nat.le_of_ble_eq_true rfl) rfl trivial (brbF (by first | assumption | decide | exact rfl | exact ne10 | exact ne20 | exact ne30) ?_)
        | refine c4 (Nat.le_of_ble_eq_true rfl) rfl trivial (brbT (by first | assumption | decide | exact rfl | exact ne10 | exact ne20 | exact ne30) ?_)
        | refine c4 (Nat.le_of_ble_eq_true rfl) rfl trivial (brbF (by first | assumption | decide | exact rfl | exact ne10 | exact ne20 | exact ne30) ?_)
        | refine c4 (Nat.le_of_ble_eq_true rfl) (Nat.le_of_ble_eq_true rfl) rfl ?_
        | refine c3 (Nat.le_of_ble_eq_true rfl) rfl ?_
        | refine And.intro (by first | assumption | exact trivial) ?_
        | refine brbT (by first | assumption | decide | exact rfl | exact ne10 | exact ne20 | exact ne30) ?_
        | refine brbF (by first | assumption | decide | exact rfl | exact ne10 | exact ne20 | exact ne30) ?_
        | refine br_t (by first | assumption | decide | exact rfl | exact ne10 | exact ne20 | exact ne30) ?_
        | refine br_f (by first | assumption | decide | exact rfl | exact ne10 | exact ne20 | exact ne30) ?_
        | refine Exists.intro _ (And.intro rfl (And.intro rfl ?_)))
      exact fin _ (by decide) (by rw [stM, if_pos rfl, er, a1])
    by_cases w1 : v = 1
    · subst w1
      repeat (first
        | refine c5 (Nat.le_of_ble_eq_true rfl) (Nat.le_of_ble_eq_true rfl) rfl trivial (brbT (by first | assumption | decide | exact rfl | exact ne10 | exact ne20 | exact ne30) ?_)
        | refine c5 (Nat.le_of_ble_eq_true rfl) (Nat.le_of_ble_eq_true rfl) rfl trivial (brbF (by first | assumption | decide | exact rfl | exact ne10 | exact ne20 | exact ne30) ?_)
        | refine c4 (Nat.le_of_ble_eq_true rfl) rfl trivial (brbT (by first | assumption | decide | exact rfl | exact ne10 | exact ne20 | exact ne30) ?_)
        | refine c4 (Nat.le_of_ble_eq_true rfl) rfl trivial (brbF (by first | assumption | decide | exact rfl | exact ne10 | exact ne20 | exact ne30) ?_)
        | refine c4 (Nat.le_of_ble_eq_true rfl) (Nat.le_of_ble_eq_true rfl) rfl ?_
        | refine c3 (Nat.le_of_ble_eq_true rfl) rfl ?_
        | refine And.intro (by first | assumption | exact trivial) ?_
        | refine brbT (by first | assumption | decide | exact rfl | exact ne10 | exact ne20 | exact ne30) ?_
        | refine brbF (by first | assumption | decide | exact rfl | exact ne10 | exact ne20 | exact ne30) ?_
        | refine br_t (by first | assumption | decide | exact rfl | exact ne10 | exact ne20 | exact ne30) ?_
        | refine br_f (by first | assumption | decide | exact rfl | exact ne10 | exact ne20 | exact ne30) ?_
        | refine Exists.intro _ (And.intro rfl (And.intro rfl ?_)))
      exact fin _ (by decide) (by rw [stM, if_neg (by decide), if_pos rfl, er, a2])
    by_cases w2 : v = 2
    · subst w2
      repeat (first
        | refine c5 (Nat.le_of_ble_eq_true rfl) (Nat.le_of_ble_eq_true rfl) rfl trivial (brbT (by first | assumption | decide | exact rfl | exact ne10 | exact ne20 | exact ne30) ?_)
        | refine c5 (Nat.le_of_ble_eq_true rfl) (Nat.le_of_ble_eq_true rfl) rfl trivial (brbF (by first | assumption | decide | exact rfl | exact ne10 | exact ne20 | exact ne30) ?_)
        | refine c4 (Nat.le_of_ble_eq_true rfl) rfl trivial (brbT (by first | assumption | decide | exact rfl | exact ne10 | exact ne20 | exact ne30) ?_)
        | refine c4 (Nat.le_of_ble_eq_true rfl) rfl trivial (brbF (by first | assumption | decide | exact rfl | exact ne10 | exact ne20 | exact ne30) ?_)
        | refine c4 (Nat.le_of_ble_eq_true rfl) (Nat.le_of_ble_eq_true rfl) rfl ?_
        | refine c3 (Nat.le_of_ble_eq_true rfl) rfl ?_
        | refine And.intro (by first | assumption | exact trivial) ?_
        | refine brbT (by first | assumption | decide | exact rfl | exact ne10 | exact ne20 | exact ne30) ?_
        | refine brbF (by first | assumption | decide | exact rfl | exact ne10 | exact ne20 | exact ne30) ?_
        | refine br_t (by first | assumption | decide | exact rfl | exact ne10 | exact ne20 | exact ne30) ?_
        | refine br_f (by first | assumption | decide | exact rfl | exact ne10 | exact ne20 | exact ne30) ?_
        | refine Exists.intro _ (And.intro rfl (And.intro rfl ?_)))
      exact fin _ (by decide) (by rw [stM, if_neg (by decide), if_neg (by decide), if_pos rfl, er, rt_eq hH hC hk])
    by_cases w3 : v = 3
    · subst w3
      repeat (first
        | refine c5 (Nat.le_of_ble_eq_true rfl) (Nat.le_of_ble_eq_true rfl) rfl trivial (brbT (by first | assumption | decide | exact rfl | exact ne10 | exact ne20 | exact ne30) ?_)
        | refine c5 (Nat.le_of_ble_eq_true rfl) (Nat.le_of_ble_eq_true rfl) rfl trivial (brbF (by first | assumption | decide | exact rfl | exact ne10 | exact ne20 | exact ne30) ?_)
        | refine c4 (Nat.le_of_ble_eq_true rfl) rfl trivial (brbT (by first | assumption | decide | exact rfl | exact ne10 | exact ne20 | exact ne30) ?_)
        | refine c4 (Nat.le_of_ble_eq_true rfl) rfl trivial (brbF (by first | assumption | decide | exact rfl | exact ne10 | exact ne20 | exact ne30) ?_)
        | refine c4 (Nat.le_of_ble_eq_true rfl) (Nat.le_of_ble_eq_true rfl) rfl ?_
        | refine c3 (Nat.le_of_ble_eq_true rfl) rfl ?_
        | refine And.intro (by first | assumption | exact trivial) ?_
        | refine brbT (by first | assumption | decide | exact rfl | exact ne10 | exact ne20 | exact ne30) ?_
        | refine brbF (by first | assumption | decide | exact rfl | exact ne10 | exact ne20 | exact ne30) ?_
        | refine br_t (by first | assumption | decide | exact rfl | exact ne10 | exact ne20 | exact ne30) ?_
        | refine br_f (by first | assumption | decide | exact rfl | exact ne10 | exact ne20 | exact ne30) ?_
        | refine Exists.intro _ (And.intro rfl (And.intro rfl ?_)))
      exact fin _ (by decide) (by rw [stM, if_neg (by decide), if_neg (by decide), if_neg (by decide), if_pos rfl, er, a3, a4, kd_eq ho])
    by_cases w4 : v = 4
    · subst w4
      repeat (first
        | refine c5 (Nat.le_of_ble_eq_true rfl) (Nat.le_of_ble_eq_true rfl) rfl trivial (brbT (by first | assumption | decide | exact rfl | exact ne10 | exact ne20 | exact ne30) ?_)
        | refine c5 (Nat.le_of_ble_eq_true rfl) (Nat.le_of_ble_eq_true rfl) rfl trivial (brbF (by first | assumption | decide | exact rfl | exact ne10 | exact ne20 | exact ne30) ?_)
        | refine c4 (Nat.le_of_ble_eq_true rfl) rfl trivial (brbT (by first | assumption | decide | exact rfl | exact ne10 | exact ne20 | exact ne30) ?_)
        | refine c4 (Nat.le_of_ble_eq_true rfl) rfl trivial (brbF (by first | assumption | decide | exact rfl | exact ne10 | exact ne20 | exact ne30) ?_)
        | refine c4 (Nat.le_of_ble_eq_true rfl) (Nat.le_of_ble_eq_true rfl) rfl ?_
        | refine c3 (Nat.le_of_ble_eq_true rfl) rfl ?_
        | refine And.intro (by first | assumption | exact trivial) ?_
        | refine brbT (by first | assumption | decide | exact rfl | exact ne10 | exact ne20 | exact ne30) ?_
        | refine brbF (by first | assumption | decide | exact rfl | exact ne10 | exact ne20 | exact ne30) ?_
        | refine br_t (by first | assumption | decide | exact rfl | exact ne10 | exact ne20 | exact ne30) ?_
        | refine br_f (by first | assumption | decide | exact rfl | exact ne10 | exact ne20 | exact ne30) ?_
        | refine Exists.intro _ (And.intro rfl (And.intro rfl ?_)))
      exact fin _ (by decide) (by rw [stM, if_neg (by decide), if_neg (by decide), if_neg (by decide), if_neg (by decide), if_pos rfl, er, a3, a4, am_eq ho])
    by_cases w5 : v = 5
    · subst w5
      have hl := lk_iff hH hD hk
      rw [← er] at hl
      by_cases z : gI σ 6 (rI w) < endF (gI σ 14) (gI σ 15) (gI σ 16) (gI σ 5 (rI w)) (gI σ 6 (rI w)) (rI (gI σ 13 3))
      · have z1 : (if gI σ 6 (rI w) < endF (gI σ 14) (gI σ 15) (gI σ 16) (gI σ 5 (rI w)) (gI σ 6 (rI w)) (rI (gI σ 13 3)) then (0 : Int32) else 1) = 0 := if_pos z
        repeat (first
          | refine c5 (Nat.le_of_ble_eq_true rfl) (Nat.le_of_ble_eq_true rfl) rfl trivial (brbT (by first | assumption | decide | exact rfl | exact ne10 | exact ne20 | exact ne30) ?_)
          | refine c5 (Nat.le_of_ble_eq_true rfl) (Nat.le_of_ble_eq_true rfl) rfl trivial (brbF (by first | assumption | decide | exact rfl | exact ne10 | exact ne20 | exact ne30) ?_)
          | refine c4 (Nat.le_of_ble_eq_true rfl) rfl trivial (brbT (by first | assumption | decide | exact rfl | exact ne10 | exact ne20 | exact ne30) ?_)
          | refine c4 (Nat.le_of_ble_eq_true rfl) rfl trivial (brbF (by first | assumption | decide | exact rfl | exact ne10 | exact ne20 | exact ne30) ?_)
          | refine c4 (Nat.le_of_ble_eq_true rfl) (Nat.le_of_ble_eq_true rfl) rfl ?_
          | refine c3 (Nat.le_of_ble_eq_true rfl) rfl ?_
          | refine And.intro (by first | assumption | exact trivial) ?_
          | refine brbT (by first | assumption | decide | exact rfl | exact ne10 | exact ne20 | exact ne30) ?_
          | refine brbF (by first | assumption | decide | exact rfl | exact ne10 | exact ne20 | exact ne30) ?_
          | refine br_t (by first | assumption | decide | exact rfl | exact ne10 | exact ne20 | exact ne30) ?_
          | refine br_f (by first | assumption | decide | exact rfl | exact ne10 | exact ne20 | exact ne30) ?_
          | refine Exists.intro _ (And.intro rfl (And.intro rfl ?_)))
        exact fin _ (by decide) (by rw [stM, if_neg (by decide), if_neg (by decide), if_neg (by decide), if_neg (by decide), if_neg (by decide), if_pos rfl, bI_neg (fun y => hl.mp y z)])
      · have z1 : ¬ (if gI σ 6 (rI w) < endF (gI σ 14) (gI σ 15) (gI σ 16) (gI σ 5 (rI w)) (gI σ 6 (rI w)) (rI (gI σ 13 3)) then (0 : Int32) else 1) = 0 := by rw [if_neg z]; decide
        repeat (first
          | refine c5 (Nat.le_of_ble_eq_true rfl) (Nat.le_of_ble_eq_true rfl) rfl trivial (brbT (by first | assumption | decide | exact rfl | exact ne10 | exact ne20 | exact ne30) ?_)
          | refine c5 (Nat.le_of_ble_eq_true rfl) (Nat.le_of_ble_eq_true rfl) rfl trivial (brbF (by first | assumption | decide | exact rfl | exact ne10 | exact ne20 | exact ne30) ?_)
          | refine c4 (Nat.le_of_ble_eq_true rfl) rfl trivial (brbT (by first | assumption | decide | exact rfl | exact ne10 | exact ne20 | exact ne30) ?_)
          | refine c4 (Nat.le_of_ble_eq_true rfl) rfl trivial (brbF (by first | assumption | decide | exact rfl | exact ne10 | exact ne20 | exact ne30) ?_)
          | refine c4 (Nat.le_of_ble_eq_true rfl) (Nat.le_of_ble_eq_true rfl) rfl ?_
          | refine c3 (Nat.le_of_ble_eq_true rfl) rfl ?_
          | refine And.intro (by first | assumption | exact trivial) ?_
          | refine brbT (by first | assumption | decide | exact rfl | exact ne10 | exact ne20 | exact ne30) ?_
          | refine brbF (by first | assumption | decide | exact rfl | exact ne10 | exact ne20 | exact ne30) ?_
          | refine br_t (by first | assumption | decide | exact rfl | exact ne10 | exact ne20 | exact ne30) ?_
          | refine br_f (by first | assumption | decide | exact rfl | exact ne10 | exact ne20 | exact ne30) ?_
          | refine Exists.intro _ (And.intro rfl (And.intro rfl ?_)))
        exact fin _ (by decide) (by rw [stM, if_neg (by decide), if_neg (by decide), if_neg (by decide), if_neg (by decide), if_neg (by decide), if_pos rfl, bI_pos (hl.mpr z)])
    by_cases w6 : v = 6
    · subst w6
      have fin6 : ∀ (r : Option Value) (σ' : Mem), (σ' = σ ∧ ∃ u, r = some (.int u) ∧ (¬ (0 ≤ w ∧ w < gI σ 42 5) → u = -1) ∧ (0 ≤ w ∧ w < gI σ 42 5 → (¬ (6 : Int32) = 6 → u = stM σ w 6) ∧ ((6 : Int32) = 6 → (∃ e k, e < rI (gI σ 42 30) ∧ rI (gI σ 65 e) ≤ k ∧ k < rI (gI σ 65 (e + 1)) ∧ gI σ 66 k = w ∧ u = nI e) ∨ ((∀ e k, e < rI (gI σ 42 30) → rI (gI σ 65 e) ≤ k → k < rI (gI σ 65 (e + 1)) → ¬ gI σ 66 k = w) ∧ u = -9)))) → r = some (.int (gI σ (b + 5) (rI w))) ∧ Inv σ' := by
        intro r σ' hp
        obtain ⟨rfl, u, rfl, -, h2⟩ := hp
        refine ⟨?_, h0⟩
        congr 2
        rw [er]
        have s65 : ∀ e, e ≤ nE → rI (gI σ' 65 e) = st e := fun e he => by
          rw [hm.2.2.1 e he]
          exact rI_nI (by have := hc.le_st he; omega)
        rcases (h2 q1).2 rfl with ⟨e, p, g1, g2, g3, g4, g5⟩ | ⟨g1, g2⟩
        · rw [e30.2] at g1
          rw [s65 e (by omega)] at g2
          rw [s65 (e + 1) (by omega)] at g3
          have hle := hc.le_st (show e + 1 ≤ nE by omega)
          have hp : p < st nE := by omega
          have hmp := (hc.2.2.2.2.2.2.1 p hp).2.1
          rw [(hm.2.2.2.1 p hp).1, hw] at g4
          have : mh p = k := (nI_eq (by omega) (by omega)).mp g4
          rw [g5, ← this]
          exact (hc.2.2.2.2.2.2.2.2.1 e p g1 g2 g3).symm
        · rw [g2]
          refine (hc.2.2.2.2.2.2.2.2.2 k (by omega) (fun p hp z => ?_)).symm
          obtain ⟨ev, y1, y2, y3⟩ := hc.seg hp
          refine g1 ev p (by rw [e30.2]; exact y1) (by rw [s65 ev (by omega)]; exact y2) (by rw [s65 (ev + 1) (by omega)]; exact y3) ?_
          rw [(hm.2.2.2.1 p hp).1, z, hw]
      obtain ⟨s1, s2, s3, s4⟩ := σ
      have hgp : s3 = b := hgp
      subst hgp
      rcases hb with hb | hb
      · subst hb
        repeat (first
          | refine c5 (Nat.le_of_ble_eq_true rfl) (Nat.le_of_ble_eq_true rfl) rfl trivial (brbT (by first | assumption | decide | exact rfl | exact ne10 | exact ne20 | exact ne30) ?_)
          | refine c5 (Nat.le_of_ble_eq_true rfl) (Nat.le_of_ble_eq_true rfl) rfl trivial (brbF (by first | assumption | decide | exact rfl | exact ne10 | exact ne20 | exact ne30) ?_)
          | refine c4 (Nat.le_of_ble_eq_true rfl) rfl trivial (brbT (by first | assumption | decide | exact rfl | exact ne10 | exact ne20 | exact ne30) ?_)
          | refine c4 (Nat.le_of_ble_eq_true rfl) rfl trivial (brbF (by first | assumption | decide | exact rfl | exact ne10 | exact ne20 | exact ne30) ?_)
          | refine c4 (Nat.le_of_ble_eq_true rfl) (Nat.le_of_ble_eq_true rfl) rfl ?_
          | refine c3 (Nat.le_of_ble_eq_true rfl) rfl ?_
          | refine And.intro (by first | assumption | exact trivial) ?_
          | refine brbT (by first | assumption | decide | exact rfl | exact ne10 | exact ne20 | exact ne30) ?_
          | refine brbF (by first | assumption | decide | exact rfl | exact ne10 | exact ne20 | exact ne30) ?_
          | refine br_t (by first | assumption | decide | exact rfl | exact ne10 | exact ne20 | exact ne30) ?_
          | refine br_f (by first | assumption | decide | exact rfl | exact ne10 | exact ne20 | exact ne30) ?_
          | refine Exists.intro _ (And.intro rfl (And.intro rfl ?_)))
        exact fin6
      · subst hb
        repeat (first
          | refine c5 (Nat.le_of_ble_eq_true rfl) (Nat.le_of_ble_eq_true rfl) rfl trivial (brbT (by first | assumption | decide | exact rfl | exact ne10 | exact ne20 | exact ne30) ?_)
          | refine c5 (Nat.le_of_ble_eq_true rfl) (Nat.le_of_ble_eq_true rfl) rfl trivial (brbF (by first | assumption | decide | exact rfl | exact ne10 | exact ne20 | exact ne30) ?_)
          | refine c4 (Nat.le_of_ble_eq_true rfl) rfl trivial (brbT (by first | assumption | decide | exact rfl | exact ne10 | exact ne20 | exact ne30) ?_)
          | refine c4 (Nat.le_of_ble_eq_true rfl) rfl trivial (brbF (by first | assumption | decide | exact rfl | exact ne10 | exact ne20 | exact ne30) ?_)
          | refine c4 (Nat.le_of_ble_eq_true rfl) (Nat.le_of_ble_eq_true rfl) rfl ?_
          | refine c3 (Nat.le_of_ble_eq_true rfl) rfl ?_
          | refine And.intro (by first | assumption | exact trivial) ?_
          | refine brbT (by first | assumption | decide | exact rfl | exact ne10 | exact ne20 | exact ne30) ?_
          | refine brbF (by first | assumption | decide | exact rfl | exact ne10 | exact ne20 | exact ne30) ?_
          | refine br_t (by first | assumption | decide | exact rfl | exact ne10 | exact ne20 | exact ne30) ?_
          | refine br_f (by first | assumption | decide | exact rfl | exact ne10 | exact ne20 | exact ne30) ?_
          | refine Exists.intro _ (And.intro rfl (And.intro rfl ?_)))
        exact fin6
    repeat (first
      | refine c5 (Nat.le_of_ble_eq_true rfl) (Nat.le_of_ble_eq_true rfl) rfl trivial (brbT (by first | assumption | decide | exact rfl | exact ne10 | exact ne20 | exact ne30) ?_)
      | refine c5 (Nat.le_of_ble_eq_true rfl) (Nat.le_of_ble_eq_true rfl) rfl trivial (brbF (by first | assumption | decide | exact rfl | exact ne10 | exact ne20 | exact ne30) ?_)
      | refine c4 (Nat.le_of_ble_eq_true rfl) rfl trivial (brbT (by first | assumption | decide | exact rfl | exact ne10 | exact ne20 | exact ne30) ?_)
      | refine c4 (Nat.le_of_ble_eq_true rfl) rfl trivial (brbF (by first | assumption | decide | exact rfl | exact ne10 | exact ne20 | exact ne30) ?_)
      | refine c4 (Nat.le_of_ble_eq_true rfl) (Nat.le_of_ble_eq_true rfl) rfl ?_
      | refine c3 (Nat.le_of_ble_eq_true rfl) rfl ?_
      | refine And.intro (by first | assumption | exact trivial) ?_
      | refine brbT (by first | assumption | decide | exact rfl | exact ne10 | exact ne20 | exact ne30) ?_
      | refine brbF (by first | assumption | decide | exact rfl | exact ne10 | exact ne20 | exact ne30) ?_
      | refine br_t (by first | assumption | decide | exact rfl | exact ne10 | exact ne20 | exact ne30) ?_
      | refine br_f (by first | assumption | decide | exact rfl | exact ne10 | exact ne20 | exact ne30) ?_
      | refine Exists.intro _ (And.intro rfl (And.intro rfl ?_)))
    exact fin _ w6 (by rw [stM, if_neg w0, if_neg w1, if_neg w2, if_neg w3, if_neg w4, if_neg w5])
  · have q1' : ¬ (0 ≤ w ∧ w ≤ gI σ 4 4 - 1) := fun z => q1 ((hasH hH w).mp z)
    have pre : (0 ≤ w ∧ w < gI σ 42 5 → vp_in w 240) ∧ cn (gI σ 42 10) 20 ∧ cn (gI σ 42 14) 20 ∧ cn (gI σ 42 30) 240 ∧ ∀ e, e ≤ rI (gI σ 42 30) → cn (gI σ 65 e) 240 := ⟨fun z => absurd z q1, pc2, pd2, e30.1, pre65⟩
    repeat (first
      | refine c5 (Nat.le_of_ble_eq_true rfl) (Nat.le_of_ble_eq_true rfl) rfl trivial (brbT (by first | assumption | decide | exact rfl | exact ne10 | exact ne20 | exact ne30) ?_)
      | refine c5 (Nat.le_of_ble_eq_true rfl) (Nat.le_of_ble_eq_true rfl) rfl trivial (brbF (by first | assumption | decide | exact rfl | exact ne10 | exact ne20 | exact ne30) ?_)
      | refine c4 (Nat.le_of_ble_eq_true rfl) rfl trivial (brbT (by first | assumption | decide | exact rfl | exact ne10 | exact ne20 | exact ne30) ?_)
      | refine c4 (Nat.le_of_ble_eq_true rfl) rfl trivial (brbF (by first | assumption | decide | exact rfl | exact ne10 | exact ne20 | exact ne30) ?_)
      | refine c4 (Nat.le_of_ble_eq_true rfl) (Nat.le_of_ble_eq_true rfl) rfl ?_
      | refine c3 (Nat.le_of_ble_eq_true rfl) rfl ?_
      | refine And.intro (by first | assumption | exact trivial) ?_
      | refine brbT (by first | assumption | decide | exact rfl | exact ne10 | exact ne20 | exact ne30) ?_
      | refine brbF (by first | assumption | decide | exact rfl | exact ne10 | exact ne20 | exact ne30) ?_
      | refine br_t (by first | assumption | decide | exact rfl | exact ne10 | exact ne20 | exact ne30) ?_
      | refine br_f (by first | assumption | decide | exact rfl | exact ne10 | exact ne20 | exact ne30) ?_
      | refine Exists.intro _ (And.intro rfl (And.intro rfl ?_)))
    intro r σ' hp
    obtain ⟨rfl, u, rfl, h1, -⟩ := hp
    exact ⟨by rw [h1 q1], h0⟩
