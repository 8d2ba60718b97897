set_option maxRecDepth 20000 in
set_option maxHeartbeats 4000000 in
theorem prLoad {σ : Mem} (h : Inv σ) (w ln i n : Int32) : PRi spX9_load spX10_load [.int w, .int ln, .int i, .int n] σ := by
  have h0 := h
  obtain ⟨nT, nH, nC, nD, hA, ⟨hS, hR, hX⟩, hE⟩ := h
  have hcn := cnT hA.1
  refine And.intro rfl ?_
  by_cases q1 : 0 ≤ w ∧ w ≤ 3
  · obtain ⟨k, hk, hw⟩ := idx_le (n := 3) (by decide) q1
    have hin : vp_in w 4 := by rw [hw]; exact inI (by omega) (by decide)
    have er : rI w = k := by rw [hw]; exact rI_nI (by omega)
    by_cases q2 : 0 ≤ ln ∧ ln ≤ 2
    · rcases lane_cases hS (k := k) (by omega) with ⟨l1, l2⟩ | ⟨l1, l2, l3, l4⟩
      · have f1 : gI σ 18 (rI w) = -1 := by rw [er]; exact l1
        have f2 : gI σ 55 (rI w) = -9 := by rw [er]; exact l2
        repeat (first
          | refine c5 (Nat.le_of_ble_eq_true rfl) (Nat.le_of_ble_eq_true rfl) rfl trivial (brbT (by first | assumption | decide | exact rfl | exact ne10 | exact ne20 | exact ne30) ?_)
          | refine c5 (Nat.le_of_ble_eq_true rfl) (Nat.le_of_ble_eq_true rfl) rfl trivial (brbF (by first | assumption | decide | exact rfl | exact ne10 | exact ne20 | exact ne30) ?_)
          | refine c4 (Nat.le_of_ble_eq_true rfl) rfl trivial (brbT (by first | assumption | decide | exact rfl | exact ne10 | exact ne20 | exact ne30) ?_)
          | refine c4 (Nat.le_of_ble_eq_true rfl) rfl trivial (brbF (by first | assumption | decide | exact rfl | exact ne10 | exact ne20 | exact ne30) ?_)
          | refine c4 (Nat.le_of_ble_eq_true rfl) (Nat.le_of_ble_eq_true rfl) rfl ?_
          | refine c3 (Nat.le_of_ble_eq_true rfl) rfl ?_
          | refine And.intro (by first | assumption | exact trivial) ?_
          | refine brbT (by first | assumption | decide | exact rfl | exact ne10 | exact ne20 | exact ne30) ?_
          | refine brbF (by first | assumption | decide | exact rfl | exact ne10 | exact ne20 | exact ne30) ?_
          | refine br_t (by first | assumption | decide | exact rfl | exact ne10 | exact ne20 | exact ne30) ?_
          | refine br_f (by first | assumption | decide | exact rfl | exact ne10 | exact ne20 | exact ne30) ?_
          | refine Exists.intro _ (And.intro rfl (And.intro rfl ?_)))
        refine ⟨rfl, ?_⟩
        show Inv (sI (sI (sI (sI σ 0 12 0) 0 12 1) 42 0 0) 42 0 1)
        rw [sI_twice, sI_twice]
        exact h0.fault 1
      · have f1 : ¬ gI σ 18 (rI w) = -1 := by rw [er]; exact l1
        have f2 : ¬ gI σ 55 (rI w) = -9 := by rw [er]; exact l2
        have l3' : gI σ 55 (rI w) = gI σ 18 (rI w) := by rw [er]; exact l3
        by_cases q3 : gI σ 18 (rI w) = ln
        · have q3' : gI σ 55 (rI w) = ln := by rw [l3']; exact q3
          obtain ⟨z1, sz, hsz, hz⟩ := hS.2.1 k (by omega)
          by_cases q4 : 0 ≤ n
          · by_cases q5 : i < 0
            · repeat (first
                | refine c5 (Nat.le_of_ble_eq_true rfl) (Nat.le_of_ble_eq_true rfl) rfl trivial (brbT (by first | assumption | decide | exact rfl | exact ne10 | exact ne20 | exact ne30) ?_)
                | refine c5 (Nat.le_of_ble_eq_true rfl) (Nat.le_of_ble_eq_true rfl) rfl trivial (brbF (by first | assumption | decide | exact rfl | exact ne10 | exact ne20 | exact ne30) ?_)
                | refine c4 (Nat.le_of_ble_eq_true rfl) rfl trivial (brbT (by first | assumption | decide | exact rfl | exact ne10 | exact ne20 | exact ne30) ?_)
                | refine c4 (Nat.le_of_ble_eq_true rfl) rfl trivial (brbF (by first | assumption | decide | exact rfl | exact ne10 | exact ne20 | exact ne30) ?_)
                | refine c4 (Nat.le_of_ble_eq_true rfl) (Nat.le_of_ble_eq_true rfl) rfl ?_
                | refine c3 (Nat.le_of_ble_eq_true rfl) rfl ?_
                | refine And.intro (by first | assumption | exact trivial) ?_
                | refine brbT (by first | assumption | decide | exact rfl | exact ne10 | exact ne20 | exact ne30) ?_
                | refine brbF (by first | assumption | decide | exact rfl | exact ne10 | exact ne20 | exact ne30) ?_
                | refine br_t (by first | assumption | decide | exact rfl | exact ne10 | exact ne20 | exact ne30) ?_
                | refine br_f (by first | assumption | decide | exact rfl | exact ne10 | exact ne20 | exact ne30) ?_
                | refine Exists.intro _ (And.intro rfl (And.intro rfl ?_)))
              refine ⟨rfl, ?_⟩
              show Inv (sI (sI (sI (sI σ 0 12 0) 0 12 3) 42 0 0) 42 0 3)
              rw [sI_twice, sI_twice]
              exact h0.fault 3
            · obtain ⟨ii, hii, hi⟩ := nI_of q5
              obtain ⟨m, hm, hn⟩ := nI_of (Int32.not_lt.mpr q4)
              have zT : gI σ 19 (rI w) = nI sz := by rw [er]; exact hz
              have zM : gI σ 56 (rI w) = nI sz := by rw [er, z1]; exact hz
              have fc := fit_c hi hn zT hii hm hsz
              by_cases q6 : ii + 4 * m ≤ sz
              · have fc := fc.mpr q6
                have fl : ¬ gI σ 56 (rI w) < i := by rw [zM, hi]; exact fun z => absurd ((nI_ltI (by omega) hii).mp z) (by omega)
                have fm := (fit_m hi hn zM (by omega) hm hsz).mpr q6
                have ri : rI i = ii := by rw [hi]; exact rI_nI hii
                have rn : rI n = m := by rw [hn]; exact rI_nI hm
                have okl : okLd w i n := ⟨by rw [er]; exact hw, by rw [ri]; exact hi, by rw [rn]; exact hn, by rw [er]; exact hk, by rw [ri, rn]; omega⟩
                have preL : cn (gI (sI σ 0 12 0) 1 2) 30 ∧ okLd w i n := ⟨hcn, okl⟩
                have rows : ∀ j, j < m → pLd w i j + 3 < 160 := fun j hj => (okl.at (j := j) (by rw [rn]; exact hj)).2.2
                have rfe : ∀ τ : Mem, (∀ q, gI τ 57 q = gI σ 57 q) → gI τ 42 2 = gI σ 42 2 → gI τ 42 5 = gI σ 42 5 → rfF (fun j => rowF τ 57 (pLd w i j) (gI τ 42 2)) (if gI τ 42 5 + n ≤ 240 then 0 else -4) (rI n) 0 = rfF (fun j => rowF (sI σ 0 12 0) 20 (pLd w i j) (gI (sI σ 0 12 0) 1 2)) (if gI (sI σ 0 12 0) 4 4 + n ≤ 240 then 0 else -4) (rI n) 0 := by
                  intro τ e1 e2 e3
                  have s1 : gI (sI σ 0 12 0) 1 2 = gI σ 1 2 := gI_off (by omega)
                  have s2 : gI (sI σ 0 12 0) 4 4 = gI σ 4 4 := gI_off (by omega)
                  rw [e2, e3, s1, s2, hA.1.2.1, hA.1.2.2.1, hA.2.1.2.1, hA.2.1.2.2.1]
                  refine rfF_congr (fun j _ hj => ?_)
                  have hr := rows j (by rw [rn] at hj; omega)
                  unfold rowF
                  rw [e1, e1, e1, e1, hS.2.2 _ (by omega), hS.2.2 _ (by omega), hS.2.2 _ (by omega), hS.2.2 _ (by omega), gI_off (by omega), gI_off (by omega), gI_off (by omega), gI_off (by omega)]
                by_cases dz : rfF (fun j => rowF (sI σ 0 12 0) 20 (pLd w i j) (gI (sI σ 0 12 0) 1 2)) (if gI (sI σ 0 12 0) 4 4 + n ≤ 240 then 0 else -4) (rI n) 0 = 0
                · obtain ⟨z0, zj⟩ := rfF_0 dz
                  have h240 : nH + m ≤ 240 := by
                    by_cases c : gI (sI σ 0 12 0) 4 4 + n ≤ 240
                    · have s2 : gI (sI σ 0 12 0) 4 4 = gI σ 4 4 := gI_off (by omega)
                      rw [s2, hA.2.1.2.1, hn, nI_add] at c
                      have := hA.2.1.1
                      exact (nI_leI (b := 240) (by omega) (by decide)).mp c
                    · rw [if_neg c] at z0
                      exact absurd z0 (by decide)
                  have okh : ∀ j, j < m → pLd w i j + 3 < 160 ∧ okHit nT (gI σ 20 (pLd w i j)) (gI σ 20 (pLd w i j + 1)) (gI σ 20 (pLd w i j + 2)) (gI σ 20 (pLd w i j + 3)) := by
                    intro j hj
                    refine ⟨rows j hj, okHit_of hA.1.1 ?_⟩
                    have := zj j (by omega) (by rw [rn]; omega)
                    rw [← hA.1.2.1]
                    exact this
                  have s2 : gI (sI σ 0 12 0) 4 4 = nI nH := (gI_off (by omega)).trans hA.2.1.2.1
                  have r2 : rI (gI (sI σ 0 12 0) 4 4) = nH := by rw [s2]; exact rI_nI (by omega)
                  have hi2 := Inv.load h0 (pLd w i) hA ⟨hS, hR, hX⟩ hE h240 okh
                  repeat (first
                    | refine c5 (Nat.le_of_ble_eq_true rfl) (Nat.le_of_ble_eq_true rfl) rfl trivial (brbT (by first | assumption | decide | exact rfl | exact ne10 | exact ne20 | exact ne30) ?_)
                    | refine c5 (Nat.le_of_ble_eq_true rfl) (Nat.le_of_ble_eq_true rfl) rfl trivial (brbF (by first | assumption | decide | exact rfl | exact ne10 | exact ne20 | exact ne30) ?_)
                    | refine c4 (Nat.le_of_ble_eq_true rfl) rfl trivial (brbT (by first | assumption | decide | exact rfl | exact ne10 | exact ne20 | exact ne30) ?_)
                    | refine c4 (Nat.le_of_ble_eq_true rfl) rfl trivial (brbF (by first | assumption | decide | exact rfl | exact ne10 | exact ne20 | exact ne30) ?_)
                    | refine c4 (Nat.le_of_ble_eq_true rfl) (Nat.le_of_ble_eq_true rfl) rfl ?_
                    | refine c3 (Nat.le_of_ble_eq_true rfl) rfl ?_
                    | refine And.intro (by first | assumption | exact trivial) ?_
                    | refine brbT (by first | assumption | decide | exact rfl | exact ne10 | exact ne20 | exact ne30) ?_
                    | refine brbF (by first | assumption | decide | exact rfl | exact ne10 | exact ne20 | exact ne30) ?_
                    | refine br_t (by first | assumption | decide | exact rfl | exact ne10 | exact ne20 | exact ne30) ?_
                    | refine br_f (by first | assumption | decide | exact rfl | exact ne10 | exact ne20 | exact ne30) ?_
                    | refine Exists.intro _ (And.intro rfl (And.intro rfl ?_)))
                  refine And.intro rfl ⟨rfl, w, i, n, _, _, _, rfl, okl, by rw [r2]; exact s2, by rw [r2, rn]; exact h240, ?_⟩
                  rw [r2, rn]
                  have t1 : gI (adT (sI σ 0 12 0) (pLd w i) nH m) 55 (rI w) = gI σ 55 (rI w) := (adT_off (by omega) m).trans (gI_off (by omega))
                  have t2 : gI (adT (sI σ 0 12 0) (pLd w i) nH m) 56 (rI w) = gI σ 56 (rI w) := (adT_off (by omega) m).trans (gI_off (by omega))
                  have t3 : ∀ q, gI (adT (sI σ 0 12 0) (pLd w i) nH m) 57 q = gI σ 57 q := fun q => (adT_off (by omega) m).trans (gI_off (by omega))
                  have t4 : gI (adT (sI σ 0 12 0) (pLd w i) nH m) 42 2 = gI σ 42 2 := (adT_off (by omega) m).trans (gI_off (by omega))
                  have t5 : gI (adT (sI σ 0 12 0) (pLd w i) nH m) 42 5 = gI σ 42 5 := (adT_off (by omega) m).trans (gI_off (by omega))
                  generalize adT (sI σ 0 12 0) (pLd w i) nH m = τ at hi2 t1 t2 t3 t4 t5
                  rw [← t1] at f2 q3'
                  rw [← t2] at fl fm
                  have rfe := rfe (sI τ 42 0 0) (fun q => (gI_off (by omega)).trans (t3 q)) ((gI_off (by omega)).trans t4) ((gI_off (by omega)).trans t5)
                  have s5 : gI (sI τ 42 0 0) 42 5 = nI nH := (gI_off (by omega)).trans (t5.trans hA.2.1.2.2.1)
                  have r5 : rI (gI (sI τ 42 0 0) 42 5) = nH := by rw [s5]; exact rI_nI (by omega)
                  repeat (first
                    | refine c5 (Nat.le_of_ble_eq_true rfl) (Nat.le_of_ble_eq_true rfl) rfl trivial (brbT (by first | assumption | decide | exact rfl | exact ne10 | exact ne20 | exact ne30) ?_)
                    | refine c5 (Nat.le_of_ble_eq_true rfl) (Nat.le_of_ble_eq_true rfl) rfl trivial (brbF (by first | assumption | decide | exact rfl | exact ne10 | exact ne20 | exact ne30) ?_)
                    | refine c4 (Nat.le_of_ble_eq_true rfl) rfl trivial (brbT (by first | assumption | decide | exact rfl | exact ne10 | exact ne20 | exact ne30) ?_)
                    | refine c4 (Nat.le_of_ble_eq_true rfl) rfl trivial (brbF (by first | assumption | decide | exact rfl | exact ne10 | exact ne20 | exact ne30) ?_)
                    | refine c4 (Nat.le_of_ble_eq_true rfl) (Nat.le_of_ble_eq_true rfl) rfl ?_
                    | refine c3 (Nat.le_of_ble_eq_true rfl) rfl ?_
                    | refine And.intro (by first | assumption | exact trivial) ?_
                    | refine brbT (by first | assumption | decide | exact rfl | exact ne10 | exact ne20 | exact ne30) ?_
                    | refine brbF (by first | assumption | decide | exact rfl | exact ne10 | exact ne20 | exact ne30) ?_
                    | refine br_t (by first | assumption | decide | exact rfl | exact ne10 | exact ne20 | exact ne30) ?_
                    | refine br_f (by first | assumption | decide | exact rfl | exact ne10 | exact ne20 | exact ne30) ?_
                    | refine Exists.intro _ (And.intro rfl (And.intro rfl ?_)))
                  refine And.intro rfl ⟨rfl, w, i, n, _, _, _, rfl, okl, by rw [r5]; exact s5, fun _ => ?_, fun z => absurd (rfe.trans dz) z⟩
                  rw [r5, rn]
                  exact ⟨h240, rfl, hi2⟩
                · repeat (first
                    | refine c5 (Nat.le_of_ble_eq_true rfl) (Nat.le_of_ble_eq_true rfl) rfl trivial (brbT (by first | assumption | decide | exact rfl | exact ne10 | exact ne20 | exact ne30) ?_)
                    | refine c5 (Nat.le_of_ble_eq_true rfl) (Nat.le_of_ble_eq_true rfl) rfl trivial (brbF (by first | assumption | decide | exact rfl | exact ne10 | exact ne20 | exact ne30) ?_)
                    | refine c4 (Nat.le_of_ble_eq_true rfl) rfl trivial (brbT (by first | assumption | decide | exact rfl | exact ne10 | exact ne20 | exact ne30) ?_)
                    | refine c4 (Nat.le_of_ble_eq_true rfl) rfl trivial (brbF (by first | assumption | decide | exact rfl | exact ne10 | exact ne20 | exact ne30) ?_)
                    | refine c4 (Nat.le_of_ble_eq_true rfl) (Nat.le_of_ble_eq_true rfl) rfl ?_
                    | refine c3 (Nat.le_of_ble_eq_true rfl) rfl ?_
                    | refine And.intro (by first | assumption | exact trivial) ?_
                    | refine brbT (by first | assumption | decide | exact rfl | exact ne10 | exact ne20 | exact ne30) ?_
                    | refine brbF (by first | assumption | decide | exact rfl | exact ne10 | exact ne20 | exact ne30) ?_
                    | refine br_t (by first | assumption | decide | exact rfl | exact ne10 | exact ne20 | exact ne30) ?_
                    | refine br_f (by first | assumption | decide | exact rfl | exact ne10 | exact ne20 | exact ne30) ?_
                    | refine Exists.intro _ (And.intro rfl (And.intro rfl ?_)))
                  have rfe := rfe (sI (sI σ 0 12 0) 42 0 0) (fun q => (gI_off (by omega)).trans (gI_off (by omega))) ((gI_off (by omega)).trans (gI_off (by omega))) ((gI_off (by omega)).trans (gI_off (by omega)))
                  have s5 : gI (sI (sI σ 0 12 0) 42 0 0) 42 5 = nI nH := (gI_off (by omega)).trans ((gI_off (by omega)).trans hA.2.1.2.2.1)
                  have r5 : rI (gI (sI (sI σ 0 12 0) 42 0 0) 42 5) = nH := by rw [s5]; exact rI_nI (by have := hA.2.1.1; omega)
                  refine And.intro rfl ⟨rfl, w, i, n, _, _, _, rfl, okl, by rw [r5]; exact s5, fun z => absurd (rfe.symm.trans z) dz, fun _ => ?_⟩
                  rw [rfe]
                  exact ⟨rfl, h0.fault 0⟩
              · have fc : ¬ lg_cmp (i.toInt64 + 4 * n.toInt64) (gI σ 19 (rI w)).toInt64 ≤ 0 := fun z => q6 (fc.mp z)
                by_cases q7 : gI σ 56 (rI w) < i
                · repeat (first
                    | refine c5 (Nat.le_of_ble_eq_true rfl) (Nat.le_of_ble_eq_true rfl) rfl trivial (brbT (by first | assumption | decide | exact rfl | exact ne10 | exact ne20 | exact ne30) ?_)
                    | refine c5 (Nat.le_of_ble_eq_true rfl) (Nat.le_of_ble_eq_true rfl) rfl trivial (brbF (by first | assumption | decide | exact rfl | exact ne10 | exact ne20 | exact ne30) ?_)
                    | refine c4 (Nat.le_of_ble_eq_true rfl) rfl trivial (brbT (by first | assumption | decide | exact rfl | exact ne10 | exact ne20 | exact ne30) ?_)
                    | refine c4 (Nat.le_of_ble_eq_true rfl) rfl trivial (brbF (by first | assumption | decide | exact rfl | exact ne10 | exact ne20 | exact ne30) ?_)
                    | refine c4 (Nat.le_of_ble_eq_true rfl) (Nat.le_of_ble_eq_true rfl) rfl ?_
                    | refine c3 (Nat.le_of_ble_eq_true rfl) rfl ?_
                    | refine And.intro (by first | assumption | exact trivial) ?_
                    | refine brbT (by first | assumption | decide | exact rfl | exact ne10 | exact ne20 | exact ne30) ?_
                    | refine brbF (by first | assumption | decide | exact rfl | exact ne10 | exact ne20 | exact ne30) ?_
                    | refine br_t (by first | assumption | decide | exact rfl | exact ne10 | exact ne20 | exact ne30) ?_
                    | refine br_f (by first | assumption | decide | exact rfl | exact ne10 | exact ne20 | exact ne30) ?_
                    | refine Exists.intro _ (And.intro rfl (And.intro rfl ?_)))
                  refine ⟨rfl, ?_⟩
                  show Inv (sI (sI (sI (sI σ 0 12 0) 0 12 3) 42 0 0) 42 0 3)
                  rw [sI_twice, sI_twice]
                  exact h0.fault 3
                · have ile : ii ≤ sz := by
                    rcases Nat.lt_or_ge sz ii with z | z
                    · exact absurd (by rw [zM, hi]; exact nI_lt z hii) q7
                    · exact z
                  have fm : ¬ lg_cmp (4 * n.toInt64) (gI σ 56 (rI w) - i).toInt64 ≤ 0 := fun z => q6 ((fit_m hi hn zM ile hm hsz).mp z)
                  repeat (first
                    | refine c5 (Nat.le_of_ble_eq_true rfl) (Nat.le_of_ble_eq_true rfl) rfl trivial (brbT (by first | assumption | decide | exact rfl | exact ne10 | exact ne20 | exact ne30) ?_)
                    | refine c5 (Nat.le_of_ble_eq_true rfl) (Nat.le_of_ble_eq_true rfl) rfl trivial (brbF (by first | assumption | decide | exact rfl | exact ne10 | exact ne20 | exact ne30) ?_)
                    | refine c4 (Nat.le_of_ble_eq_true rfl) rfl trivial (brbT (by first | assumption | decide | exact rfl | exact ne10 | exact ne20 | exact ne30) ?_)
                    | refine c4 (Nat.le_of_ble_eq_true rfl) rfl trivial (brbF (by first | assumption | decide | exact rfl | exact ne10 | exact ne20 | exact ne30) ?_)
                    | refine c4 (Nat.le_of_ble_eq_true rfl) (Nat.le_of_ble_eq_true rfl) rfl ?_
                    | refine c3 (Nat.le_of_ble_eq_true rfl) rfl ?_
                    | refine And.intro (by first | assumption | exact trivial) ?_
                    | refine brbT (by first | assumption | decide | exact rfl | exact ne10 | exact ne20 | exact ne30) ?_
                    | refine brbF (by first | assumption | decide | exact rfl | exact ne10 | exact ne20 | exact ne30) ?_
                    | refine br_t (by first | assumption | decide | exact rfl | exact ne10 | exact ne20 | exact ne30) ?_
                    | refine br_f (by first | assumption | decide | exact rfl | exact ne10 | exact ne20 | exact ne30) ?_
                    | refine Exists.intro _ (And.intro rfl (And.intro rfl ?_)))
                  refine ⟨rfl, ?_⟩
                  show Inv (sI (sI (sI (sI σ 0 12 0) 0 12 3) 42 0 0) 42 0 3)
                  rw [sI_twice, sI_twice]
                  exact h0.fault 3
          · repeat (first
              | refine c5 (Nat.le_of_ble_eq_true rfl) (Nat.le_of_ble_eq_true rfl) rfl trivial (brbT (by first | assumption | decide | exact rfl | exact ne10 | exact ne20 | exact ne30) ?_)
              | refine c5 (Nat.le_of_ble_eq_true rfl) (Nat.le_of_ble_eq_true rfl) rfl trivial (brbF (by first | assumption | decide | exact rfl | exact ne10 | exact ne20 | exact ne30) ?_)
              | refine c4 (Nat.le_of_ble_eq_true rfl) rfl trivial (brbT (by first | assumption | decide | exact rfl | exact ne10 | exact ne20 | exact ne30) ?_)
              | refine c4 (Nat.le_of_ble_eq_true rfl) rfl trivial (brbF (by first | assumption | decide | exact rfl | exact ne10 | exact ne20 | exact ne30) ?_)
              | refine c4 (Nat.le_of_ble_eq_true rfl) (Nat.le_of_ble_eq_true rfl) rfl ?_
              | refine c3 (Nat.le_of_ble_eq_true rfl) rfl ?_
              | refine And.intro (by first | assumption | exact trivial) ?_
              | refine brbT (by first | assumption | decide | exact rfl | exact ne10 | exact ne20 | exact ne30) ?_
              | refine brbF (by first | assumption | decide | exact rfl | exact ne10 | exact ne20 | exact ne30) ?_
              | refine br_t (by first | assumption | decide | exact rfl | exact ne10 | exact ne20 | exact ne30) ?_
              | refine br_f (by first | assumption | decide | exact rfl | exact ne10 | exact ne20 | exact ne30) ?_
              | refine Exists.intro _ (And.intro rfl (And.intro rfl ?_)))
            refine ⟨rfl, ?_⟩
            show Inv (sI (sI (sI (sI σ 0 12 0) 0 12 4) 42 0 0) 42 0 4)
            rw [sI_twice, sI_twice]
            exact h0.fault 4
        · have q3' : ¬ gI σ 55 (rI w) = ln := by rw [l3']; exact q3
          repeat (first
            | refine c5 (Nat.le_of_ble_eq_true rfl) (Nat.le_of_ble_eq_true rfl) rfl trivial (brbT (by first | assumption | decide | exact rfl | exact ne10 | exact ne20 | exact ne30) ?_)
            | refine c5 (Nat.le_of_ble_eq_true rfl) (Nat.le_of_ble_eq_true rfl) rfl trivial (brbF (by first | assumption | decide | exact rfl | exact ne10 | exact ne20 | exact ne30) ?_)
            | refine c4 (Nat.le_of_ble_eq_true rfl) rfl trivial (brbT (by first | assumption | decide | exact rfl | exact ne10 | exact ne20 | exact ne30) ?_)
            | refine c4 (Nat.le_of_ble_eq_true rfl) rfl trivial (brbF (by first | assumption | decide | exact rfl | exact ne10 | exact ne20 | exact ne30) ?_)
            | refine c4 (Nat.le_of_ble_eq_true rfl) (Nat.le_of_ble_eq_true rfl) rfl ?_
            | refine c3 (Nat.le_of_ble_eq_true rfl) rfl ?_
            | refine And.intro (by first | assumption | exact trivial) ?_
            | refine brbT (by first | assumption | decide | exact rfl | exact ne10 | exact ne20 | exact ne30) ?_
            | refine brbF (by first | assumption | decide | exact rfl | exact ne10 | exact ne20 | exact ne30) ?_
            | refine br_t (by first | assumption | decide | exact rfl | exact ne10 | exact ne20 | exact ne30) ?_
            | refine br_f (by first | assumption | decide | exact rfl | exact ne10 | exact ne20 | exact ne30) ?_
            | refine Exists.intro _ (And.intro rfl (And.intro rfl ?_)))
          refine ⟨rfl, ?_⟩
          show Inv (sI (sI (sI (sI σ 0 12 0) 0 12 2) 42 0 0) 42 0 2)
          rw [sI_twice, sI_twice]
          exact h0.fault 2
    · repeat (first
        | refine c5 (Nat.le_of_ble_eq_true rfl) (Nat.le_of_ble_eq_true rfl) rfl trivial (brbT (by first | assumption | decide | exact rfl | exact ne10 | exact ne20 | exact ne30) ?_)
        | refine c5 (Nat.le_of_ble_eq_true rfl) (Nat.le_of_ble_eq_true rfl) rfl trivial (brbF (by first | assumption | decide | exact rfl | exact ne10 | exact ne20 | exact ne30) ?_)
        | refine c4 (Nat.le_of_ble_eq_true rfl) rfl trivial (brbT (by first | assumption | decide | exact rfl | exact ne10 | exact ne20 | exact ne30) ?_)
        | refine c4 (Nat.le_of_ble_eq_true rfl) rfl trivial (brbF (by first | assumption | decide | exact rfl | exact ne10 | exact ne20 | exact ne30) ?_)
        | refine c4 (Nat.le_of_ble_eq_true rfl) (Nat.le_of_ble_eq_true rfl) rfl ?_
        | refine c3 (Nat.le_of_ble_eq_true rfl) rfl ?_
        | refine And.intro (by first | assumption | exact trivial) ?_
        | refine brbT (by first | assumption | decide | exact rfl | exact ne10 | exact ne20 | exact ne30) ?_
        | refine brbF (by first | assumption | decide | exact rfl | exact ne10 | exact ne20 | exact ne30) ?_
        | refine br_t (by first | assumption | decide | exact rfl | exact ne10 | exact ne20 | exact ne30) ?_
        | refine br_f (by first | assumption | decide | exact rfl | exact ne10 | exact ne20 | exact ne30) ?_
        | refine Exists.intro _ (And.intro rfl (And.intro rfl ?_)))
      exact ⟨rfl, h0.fault 0⟩
  · repeat (first
      | refine c5 (Nat.le_of_ble_eq_true rfl) (Nat.le_of_ble_eq_true rfl) rfl trivial (brbT (by first | assumption | decide | exact rfl | exact ne10 | exact ne20 | exact ne30) ?_)
      | refine c5 (Nat.le_of_ble_eq_true rfl) (Nat.le_of_ble_eq_true rfl) rfl trivial (brbF (by first | assumption | decide | exact rfl | exact ne10 | exact ne20 | exact ne30) ?_)
      | refine c4 (Nat.le_of_ble_eq_true rfl) rfl trivial (brbT (by first | assumption | decide | exact rfl | exact ne10 | exact ne20 | exact ne30) ?_)
      | refine c4 (Nat.le_of_ble_eq_true rfl) rfl trivial (brbF (by first | assumption | decide | exact rfl | exact ne10 | exact ne20 | exact ne30) ?_)
      | refine c4 (Nat.le_of_ble_eq_true rfl) (Nat.le_of_ble_eq_true rfl) rfl ?_
      | refine c3 (Nat.le_of_ble_eq_true rfl) rfl ?_
      | refine And.intro (by first | assumption | exact trivial) ?_
      | refine brbT (by first | assumption | decide | exact rfl | exact ne10 | exact ne20 | exact ne30) ?_
      | refine brbF (by first | assumption | decide | exact rfl | exact ne10 | exact ne20 | exact ne30) ?_
      | refine br_t (by first | assumption | decide | exact rfl | exact ne10 | exact ne20 | exact ne30) ?_
      | refine br_f (by first | assumption | decide | exact rfl | exact ne10 | exact ne20 | exact ne30) ?_
      | refine Exists.intro _ (And.intro rfl (And.intro rfl ?_)))
    exact ⟨rfl, h0.fault 0⟩
