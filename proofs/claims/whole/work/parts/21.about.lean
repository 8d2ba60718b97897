/-! the two sides' looks at clocks and downs are the same -/
theorem fastF_congr {tk fr vl tk' fr' vl' : Nat → Int32} {t tm t' tm' : Int32} (ht : t = t') (hm : tm = tm') : ∀ {n : Nat}, (∀ i, i < n → tk i = tk' i ∧ fr i = fr' i ∧ vl i = vl' i) → fastF tk fr vl t tm n = fastF tk' fr' vl' t' tm' n
  | 0, _ => rfl
  | n + 1, h => by
    obtain ⟨h1, h2, h3⟩ := h n (Nat.lt_succ_self n)
    rw [fastF, fastF, h1, h2, h3, ht, hm, fastF_congr rfl rfl (fun i hi => h i (Nat.lt_succ_of_lt hi))]
def dwnP (tk fr vl : Nat → Int32) (t tm : Int32) (i : Nat) : Prop := tk i = t ∧ fr i ≤ tm ∧ tm < vl i
theorem endF_ge (tk fr vl : Nat → Int32) (t tm : Int32) : ∀ n, tm ≤ endF tk fr vl t tm n
  | 0 => Int32.le_refl _
  | n + 1 => by
    have ih := endF_ge tk fr vl t tm n
    show tm ≤ (if tk n = t ∧ fr n ≤ tm ∧ endF tk fr vl t tm n < vl n then vl n else endF tk fr vl t tm n)
    split
    · rename_i h
      exact Int32.le_trans ih (Int32.le_of_lt h.2.2)
    · exact ih
theorem endF_iff (tk fr vl : Nat → Int32) (t tm : Int32) : ∀ n, tm < endF tk fr vl t tm n ↔ ∃ i, i < n ∧ dwnP tk fr vl t tm i
  | 0 => ⟨fun h => absurd h (Int32.lt_irrefl), fun ⟨i, h, _⟩ => absurd h (Nat.not_lt_zero i)⟩
  | n + 1 => by
    have ih := endF_iff tk fr vl t tm n
    have hg := endF_ge tk fr vl t tm n
    show tm < (if tk n = t ∧ fr n ≤ tm ∧ endF tk fr vl t tm n < vl n then vl n else endF tk fr vl t tm n) ↔ _
    split
    · rename_i h
      refine ⟨fun _ => ⟨n, Nat.lt_succ_self n, h.1, h.2.1, Int32.lt_of_le_of_lt hg h.2.2⟩, fun _ => Int32.lt_of_le_of_lt hg h.2.2⟩
    · rename_i h
      rw [ih]
      refine ⟨fun ⟨i, h1, h2⟩ => ⟨i, Nat.lt_succ_of_lt h1, h2⟩, fun ⟨i, h1, h2⟩ => ?_⟩
      rcases Nat.lt_or_ge i n with g | g
      · exact ⟨i, g, h2⟩
      · have : i = n := by omega
        subst this
        by_cases z : tm < endF tk fr vl t tm i
        · exact ih.mp z
        · refine absurd ⟨h2.1, h2.2.1, ?_⟩ h
          have := Int32.le_antisymm (Int32.not_lt.mp z) hg
          rw [this]
          exact h2.2.2
theorem dutF_iff (tk fr vl : Nat → Int32) (t tm : Int32) (h0 : 0 ≤ tm) : ∀ n, (dutF tk fr vl t tm n = -9 ∧ ¬ ∃ i, i < n ∧ dwnP tk fr vl t tm i) ∨ (tm < dutF tk fr vl t tm n ∧ ∃ i, i < n ∧ dwnP tk fr vl t tm i ∧ dutF tk fr vl t tm n = vl i)
  | 0 => Or.inl ⟨rfl, fun ⟨i, h, _⟩ => absurd h (Nat.not_lt_zero i)⟩
  | n + 1 => by
    have ih := dutF_iff tk fr vl t tm h0 n
    have e : dutF tk fr vl t tm (n + 1) = (if tk n = t ∧ fr n ≤ tm ∧ tm < vl n ∧ dutF tk fr vl t tm n < vl n then vl n else dutF tk fr vl t tm n) := rfl
    rw [e]
    split
    · rename_i h
      exact Or.inr ⟨h.2.2.1, n, Nat.lt_succ_self n, ⟨h.1, h.2.1, h.2.2.1⟩, rfl⟩
    · rename_i h
      rcases ih with ⟨h1, h2⟩ | ⟨h1, i, h2, h3, h4⟩
      · refine Or.inl ⟨h1, fun ⟨i, g1, g2⟩ => ?_⟩
        rcases Nat.lt_or_ge i n with g | g
        · exact h2 ⟨i, g, g2⟩
        · have : i = n := by omega
          subst this
          refine h ⟨g2.1, g2.2.1, g2.2.2, ?_⟩
          rw [h1]
          refine Int32.lt_of_lt_of_le ?_ (Int32.le_of_lt g2.2.2)
          exact Int32.lt_of_lt_of_le (by decide) h0
      · exact Or.inr ⟨h1, i, Nat.lt_succ_of_lt h2, h3, h4⟩
theorem dut_ne {tk fr vl : Nat → Int32} {t tm : Int32} (h0 : 0 ≤ tm) {n : Nat} : dutF tk fr vl t tm n = -9 ↔ ¬ ∃ i, i < n ∧ dwnP tk fr vl t tm i := by
  rcases dutF_iff tk fr vl t tm h0 n with ⟨h1, h2⟩ | ⟨h1, i, h2, h3, -⟩
  · exact ⟨fun _ => h2, fun _ => h1⟩
  · refine ⟨fun z => ?_, fun z => absurd ⟨i, h2, h3⟩ z⟩
    rw [z] at h1
    exact absurd (Int32.lt_of_le_of_lt h0 h1) (by decide)
theorem dutF_congr {tk fr vl tk' fr' vl' : Nat → Int32} {t tm : Int32} {n : Nat} (h : ∀ i, i < n → tk i = tk' i ∧ fr i = fr' i ∧ vl i = vl' i) : dutF tk fr vl t tm n = dutF tk' fr' vl' t tm n :=
  foldN_congr rfl (fun i hi x => by obtain ⟨h1, h2, h3⟩ := h i hi; rw [h1, h2, h3])
theorem cnC {σ : Mem} {n : Nat} (h : IC σ n) : cn (gI σ 9 3) 20 ∧ cn (gI σ 42 10) 20 ∧ rI (gI σ 9 3) = n ∧ rI (gI σ 42 10) = n := by
  have h1 := cn_of h.2.1 h.1 (by decide)
  have h2 := cn_of h.2.2.1 h.1 (by decide)
  exact ⟨h1.1, h2.1, h1.2, h2.2⟩
theorem cnD {σ : Mem} {n : Nat} (h : ID σ n) : cn (gI σ 13 3) 20 ∧ cn (gI σ 42 14) 20 ∧ rI (gI σ 13 3) = n ∧ rI (gI σ 42 14) = n := by
  have h1 := cn_of h.2.1 h.1 (by decide)
  have h2 := cn_of h.2.2.1 h.1 (by decide)
  exact ⟨h1.1, h2.1, h1.2, h2.2⟩
theorem rt_eq {σ : Mem} {nT nH nC : Nat} (hH : IH σ nT nH) (hC : IC σ nC) {h : Nat} (hh : h < nH) : rtM σ h = tprT σ h := by
  obtain ⟨⟨a1, a2, -⟩, -⟩ := hH.2.2.2 h hh
  obtain ⟨-, -, e1, e2⟩ := cnC hC
  unfold rtM tprT
  rw [e1, e2, a2, fastF_congr a1 rfl (fun i hi => ⟨(hC.2.2.2 i hi).1, (hC.2.2.2 i hi).2.1, (hC.2.2.2 i hi).2.2.1⟩)]
theorem lk_iff {σ : Mem} {nT nH nD : Nat} (hH : IH σ nT nH) (hD : ID σ nD) {h : Nat} (hh : h < nH) : dutF (gI σ 52) (gI σ 53) (gI σ 54) (gI σ 45 h) (gI σ 46 h) (rI (gI σ 42 14)) = -9 ↔ ¬ gI σ 6 h < endF (gI σ 14) (gI σ 15) (gI σ 16) (gI σ 5 h) (gI σ 6 h) (rI (gI σ 13 3)) := by
  obtain ⟨⟨a1, a2, -⟩, ho⟩ := hH.2.2.2 h hh
  obtain ⟨-, -, e1, e2⟩ := cnD hD
  rw [e1, e2, a1, a2, dutF_congr (fun i hi => ⟨(hD.2.2.2 i hi).1, (hD.2.2.2 i hi).2.1, (hD.2.2.2 i hi).2.2.1⟩), dut_ne ho.2.1.1, endF_iff]
theorem lkB_eq {σ : Mem} {nT nH nD : Nat} (hH : IH σ nT nH) (hD : ID σ nD) {h : Nat} (hh : h < nH) : lkB σ h = !dwB σ h := by
  have := lk_iff hH hD hh
  unfold lkB dwB
  by_cases z : gI σ 6 h < endF (gI σ 14) (gI σ 15) (gI σ 16) (gI σ 5 h) (gI σ 6 h) (rI (gI σ 13 3))
  · rw [decide_eq_true z, decide_eq_false (fun q => this.mp q z)]; rfl
  · rw [decide_eq_false z, decide_eq_true (this.mpr z)]; rfl
theorem bP {σ : Mem} {n : Nat} (hE : IE σ n) : gP σ = 30 ∨ gP σ = 36 := by
  obtain ⟨b, b', nE, nE', st, mh, st', mh', h1, h2, h3, h4, h5, h6, h7⟩ := hE
  omega
theorem cnM {σ : Mem} {nH : Nat} (hE : IE σ nH) (hn : nH ≤ 240) : cn (gI σ 42 31) 240 ∧ ∀ k, k < rI (gI σ 42 31) → vp_in (gI σ 66 k) 240 := by
  obtain ⟨b, b', nE, nE', st, mh, st', mh', h1, h2, h3, h4, h5, h6, h7⟩ := hE
  have e := cn_of h5.2.1 h4.2.2.2.2.1 (by decide)
  refine ⟨e.1, fun k hk => ?_⟩
  rw [e.2] at hk
  rw [(h5.2.2.2.1 k hk).1]
  exact inI (by have := (h4.2.2.2.2.2.2.1 k hk).2.1; omega) (by decide)
theorem mem_eq {σ : Mem} {nT nH : Nat} (hH : IH σ nT nH) (hE : IE σ nH) (t : Int32) : cntF (fun i => decide (gI σ 45 (rI (gI σ 66 i)) = t)) (rI (gI σ 42 31)) = cntF (fun i => decide (gI σ 5 i = t) && !decide (gI σ (gP σ + 5) i = -9)) nH := by
  obtain ⟨b, b', nE, nE', st, mh, st', mh', h1, h2, h3, h4, h5, h6, h7⟩ := hE
  obtain ⟨a1, a2, a3, a4, a5, a6, a7, a8, a9, a10⟩ := h4
  have e := (cn_of h5.2.1 a5 (by decide)).2
  have hn := hH.1
  rw [e, cntF_nat, cntF_nat, h2]
  congr 1
  rw [ctN_congr (q := fun i => (fun h => decide (gI σ 5 h = t)) (mh i)) (fun i hi => ?_)]
  · rw [ctN_map (N := nH) (fun h => decide (gI σ 5 h = t)) (fun i hi => (a7 i hi).2.1) a8]
    refine ctN_congr (fun h hh => ?_)
    congr 1
    by_cases z : ∃ i, i < st nE ∧ mh i = h
    · obtain ⟨i, hi, rfl⟩ := z
      have e1 : (List.range (st nE)).any (fun j => mh j == mh i) = true := by
        rw [List.any_eq_true]
        exact ⟨i, List.mem_range.mpr hi, by simp⟩
      rw [e1]
      obtain ⟨ev, he, hs1, hs2⟩ : ∃ ev, ev < nE ∧ st ev ≤ i ∧ i < st (ev + 1) := by
        have key : ∀ n, n ≤ nE → i < st n → ∃ ev, ev < n ∧ st ev ≤ i ∧ i < st (ev + 1) := by
          intro n
          induction n with
          | zero => intro _ g; rw [a3] at g; omega
          | succ n ih =>
            intro g1 g2
            rcases Nat.lt_or_ge i (st n) with q | q
            · obtain ⟨ev, z1, z2⟩ := ih (by omega) q
              exact ⟨ev, by omega, z2⟩
            · exact ⟨n, Nat.lt_succ_self n, q, g2⟩
        exact key nE (Nat.le_refl _) hi
      rw [a9 ev i he hs1 hs2]
      have : ¬ nI ev = -9 := by
        intro z
        have z1 := nI_toInt (n := ev) (by omega)
        rw [z] at z1
        have : (-9 : Int32).toInt = -9 := by decide
        omega
      rw [decide_eq_false this]; rfl
    · have e1 : (List.range (st nE)).any (fun j => mh j == h) = false := by
        rw [List.any_eq_false]
        intro i hi
        simp
        exact fun q => z ⟨i, List.mem_range.mp hi, q⟩
      rw [e1, a10 h (by omega) (fun p hp q => z ⟨p, hp, q⟩)]
      rfl
  · show decide (gI σ 45 (rI (gI σ 66 i)) = t) = decide (gI σ 5 (mh i) = t)
    have := (a7 i hi).2.1
    rw [(h5.2.2.2.1 i hi).1, rI_nI (by omega), (hH.2.2.2 _ (a7 i hi).2.1).1.1]
theorem prAbout {σ : Mem} (h : Inv σ) (t w : Int32) : PRi spX9_about spX10_about [.int t, .int w] σ := by
  have h0 := h
  obtain ⟨nT, nH, nC, nD, ⟨hT, hH, hC, hD⟩, ⟨hS, hR, hX⟩, hE⟩ := h
  have hn := hH.1
  have p1 : cn (gI σ 42 2) 30 := (cn_of hT.2.2.1 hT.1 (by decide)).1
  have p2 := cn_of hH.2.2.1 hH.1 (by decide)
  have p2' := cn_of hH.2.1 hH.1 (by decide)
  obtain ⟨p3, p4, -, -⟩ := cnD hD
  have p5 := cnM hE hn
  have p6 := bP hE
  have pre : cn (gI σ 42 2) 30 ∧ cn (gI σ 42 5) 240 ∧ cn (gI σ 42 14) 20 ∧ cn (gI σ 42 31) 240 ∧ ∀ k, k < rI (gI σ 42 31) → vp_in (gI σ 66 k) 240 := ⟨p1, p2.1, p4, p5⟩
  have f1 : cn (gI σ 4 4) 240 := p2'.1
  have f2 : cn (gI σ 4 4) 240 ∧ cn (gI σ 13 3) 20 := ⟨f1, p3⟩
  have f3 : cn (gI σ 4 4) 240 ∧ (gP σ = 30 ∨ gP σ = 36) := ⟨f1, p6⟩
  refine And.intro rfl ?_
  by_cases q1 : 0 ≤ t ∧ t < gI σ 42 2
  · have q1' := (hasT hT t).mpr q1
    obtain ⟨k, hk, hw⟩ := idx_of (n := nT) (by rw [← hT.2.2.1]; exact q1) (by have := hT.1; omega)
    have hk30 : k < 30 := by have := hT.1; omega
    have hin : vp_in t 30 := by rw [hw]; exact inI hk30 (by decide)
    have er : rI t = k := by rw [hw]; exact rI_nI (by omega)
    by_cases w0 : w = 0
    · subst w0
      repeat (first
        | refine c5 (Nat.le_of_ble_eq_true rfl) (Nat.le_of_ble_eq_true rfl) rfl trivial (brbT (by first | assumption | decide | exact rfl | exact ne10 | exact ne20 | exact ne30) ?_)
        | refine c5 (Nat.le_of_ble_eq_true rfl) (Nat.le_of_ble_eq_true rfl) rfl trivial (brbF (by first | assumption | decide | exact rfl | exact ne10 | exact ne20 | exact ne30) ?_)
        | refine c4 (Nat.le_of_ble_eq_true rfl) rfl trivial (brbT (by first | assumption | decide | exact rfl | exact ne10 | exact ne20 | exact ne30) ?_)
        | refine c4 (Nat.le_of_ble_eq_true rfl) rfl trivial (brbF (by first | assumption | decide | exact rfl | exact ne10 | exact ne20 | exact ne30) ?_)
        | refine c4 (Nat.le_of_ble_eq_true rfl) (Nat.le_of_ble_eq_true rfl) rfl ?_
        | refine c3 (Nat.le_of_ble_eq_true rfl) rfl ?_
        | refine And.intro (by first | assumption | exact trivial) ?_
        | refine brbT (by first | assumption | decide | exact rfl | exact ne10 | exact ne20 | exact ne30) ?_
        | refine brbF (by first | assumption | decide | exact rfl | exact ne10 | exact ne20 | exact ne30) ?_
        | refine br_t (by first | assumption | decide | exact rfl | exact ne10 | exact ne20 | exact ne30) ?_
        | refine br_f (by first | assumption | decide | exact rfl | exact ne10 | exact ne20 | exact ne30) ?_
        | refine Exists.intro _ (And.intro rfl (And.intro rfl ?_)))
      refine ⟨?_, h0⟩
      rw [abM, if_neg (fun z => z q1), if_pos rfl, er, (hT.2.2.2 k hk).1]
    by_cases w1 : w = 1
    · subst w1
      repeat (first
        | refine c5 (Nat.le_of_ble_eq_true rfl) (Nat.le_of_ble_eq_true rfl) rfl trivial (brbT (by first | assumption | decide | exact rfl | exact ne10 | exact ne20 | exact ne30) ?_)
        | refine c5 (Nat.le_of_ble_eq_true rfl) (Nat.le_of_ble_eq_true rfl) rfl trivial (brbF (by first | assumption | decide | exact rfl | exact ne10 | exact ne20 | exact ne30) ?_)
        | refine c4 (Nat.le_of_ble_eq_true rfl) rfl trivial (brbT (by first | assumption | decide | exact rfl | exact ne10 | exact ne20 | exact ne30) ?_)
        | refine c4 (Nat.le_of_ble_eq_true rfl) rfl trivial (brbF (by first | assumption | decide | exact rfl | exact ne10 | exact ne20 | exact ne30) ?_)
        | refine c4 (Nat.le_of_ble_eq_true rfl) (Nat.le_of_ble_eq_true rfl) rfl ?_
        | refine c3 (Nat.le_of_ble_eq_true rfl) rfl ?_
        | refine And.intro (by first | assumption | exact trivial) ?_
        | refine brbT (by first | assumption | decide | exact rfl | exact ne10 | exact ne20 | exact ne30) ?_
        | refine brbF (by first | assumption | decide | exact rfl | exact ne10 | exact ne20 | exact ne30) ?_
        | refine br_t (by first | assumption | decide | exact rfl | exact ne10 | exact ne20 | exact ne30) ?_
        | refine br_f (by first | assumption | decide | exact rfl | exact ne10 | exact ne20 | exact ne30) ?_
        | refine Exists.intro _ (And.intro rfl (And.intro rfl ?_)))
      refine ⟨?_, h0⟩
      rw [abM, if_neg (fun z => z q1), if_neg (by decide), if_pos rfl, er, (hT.2.2.2 k hk).2.1]
    by_cases w2 : w = 2
    · subst w2
      repeat (first
        | refine c5 (Nat.le_of_ble_eq_true rfl) (Nat.le_of_ble_eq_true rfl) rfl trivial (brbT (by first | assumption | decide | exact rfl | exact ne10 | exact ne20 | exact ne30) ?_)
        | refine c5 (Nat.le_of_ble_eq_true rfl) (Nat.le_of_ble_eq_true rfl) rfl trivial (brbF (by first | assumption | decide | exact rfl | exact ne10 | exact ne20 | exact ne30) ?_)
        | refine c4 (Nat.le_of_ble_eq_true rfl) rfl trivial (brbT (by first | assumption | decide | exact rfl | exact ne10 | exact ne20 | exact ne30) ?_)
        | refine c4 (Nat.le_of_ble_eq_true rfl) rfl trivial (brbF (by first | assumption | decide | exact rfl | exact ne10 | exact ne20 | exact ne30) ?_)
        | refine c4 (Nat.le_of_ble_eq_true rfl) (Nat.le_of_ble_eq_true rfl) rfl ?_
        | refine c3 (Nat.le_of_ble_eq_true rfl) rfl ?_
        | refine And.intro (by first | assumption | exact trivial) ?_
        | refine brbT (by first | assumption | decide | exact rfl | exact ne10 | exact ne20 | exact ne30) ?_
        | refine brbF (by first | assumption | decide | exact rfl | exact ne10 | exact ne20 | exact ne30) ?_
        | refine br_t (by first | assumption | decide | exact rfl | exact ne10 | exact ne20 | exact ne30) ?_
        | refine br_f (by first | assumption | decide | exact rfl | exact ne10 | exact ne20 | exact ne30) ?_
        | refine Exists.intro _ (And.intro rfl (And.intro rfl ?_)))
      refine ⟨?_, h0⟩
      rw [abM, if_neg (fun z => z q1), if_neg (by decide), if_neg (by decide), if_pos rfl, p2.2, p2'.2]
      congr 2
      exact cntF_congr (fun i hi => by rw [(hH.2.2.2 i hi).1.1])
    by_cases w3 : w = 3
    · subst w3
      repeat (first
        | refine c5 (Nat.le_of_ble_eq_true rfl) (Nat.le_of_ble_eq_true rfl) rfl trivial (brbT (by first | assumption | decide | exact rfl | exact ne10 | exact ne20 | exact ne30) ?_)
        | refine c5 (Nat.le_of_ble_eq_true rfl) (Nat.le_of_ble_eq_true rfl) rfl trivial (brbF (by first | assumption | decide | exact rfl | exact ne10 | exact ne20 | exact ne30) ?_)
        | refine c4 (Nat.le_of_ble_eq_true rfl) rfl trivial (brbT (by first | assumption | decide | exact rfl | exact ne10 | exact ne20 | exact ne30) ?_)
        | refine c4 (Nat.le_of_ble_eq_true rfl) rfl trivial (brbF (by first | assumption | decide | exact rfl | exact ne10 | exact ne20 | exact ne30) ?_)
        | refine c4 (Nat.le_of_ble_eq_true rfl) (Nat.le_of_ble_eq_true rfl) rfl ?_
        | refine c3 (Nat.le_of_ble_eq_true rfl) rfl ?_
        | refine And.intro (by first | assumption | exact trivial) ?_
        | refine brbT (by first | assumption | decide | exact rfl | exact ne10 | exact ne20 | exact ne30) ?_
        | refine brbF (by first | assumption | decide | exact rfl | exact ne10 | exact ne20 | exact ne30) ?_
        | refine br_t (by first | assumption | decide | exact rfl | exact ne10 | exact ne20 | exact ne30) ?_
        | refine br_f (by first | assumption | decide | exact rfl | exact ne10 | exact ne20 | exact ne30) ?_
        | refine Exists.intro _ (And.intro rfl (And.intro rfl ?_)))
      refine ⟨?_, h0⟩
      rw [abM, if_neg (fun z => z q1), if_neg (by decide), if_neg (by decide), if_neg (by decide), if_pos rfl, p2.2, p2'.2]
      congr 2
      exact cntF_congr (fun i hi => by rw [(hH.2.2.2 i hi).1.1, lkB_eq hH hD hi, Bool.not_not])
    by_cases w4 : w = 4
    · subst w4
      repeat (first
        | refine c5 (Nat.le_of_ble_eq_true rfl) (Nat.le_of_ble_eq_true rfl) rfl trivial (brbT (by first | assumption | decide | exact rfl | exact ne10 | exact ne20 | exact ne30) ?_)
        | refine c5 (Nat.le_of_ble_eq_true rfl) (Nat.le_of_ble_eq_true rfl) rfl trivial (brbF (by first | assumption | decide | exact rfl | exact ne10 | exact ne20 | exact ne30) ?_)
        | refine c4 (Nat.le_of_ble_eq_true rfl) rfl trivial (brbT (by first | assumption | decide | exact rfl | exact ne10 | exact ne20 | exact ne30) ?_)
        | refine c4 (Nat.le_of_ble_eq_true rfl) rfl trivial (brbF (by first | assumption | decide | exact rfl | exact ne10 | exact ne20 | exact ne30) ?_)
        | refine c4 (Nat.le_of_ble_eq_true rfl) (Nat.le_of_ble_eq_true rfl) rfl ?_
        | refine c3 (Nat.le_of_ble_eq_true rfl) rfl ?_
        | refine And.intro (by first | assumption | exact trivial) ?_
        | refine brbT (by first | assumption | decide | exact rfl | exact ne10 | exact ne20 | exact ne30) ?_
        | refine brbF (by first | assumption | decide | exact rfl | exact ne10 | exact ne20 | exact ne30) ?_
        | refine br_t (by first | assumption | decide | exact rfl | exact ne10 | exact ne20 | exact ne30) ?_
        | refine br_f (by first | assumption | decide | exact rfl | exact ne10 | exact ne20 | exact ne30) ?_
        | refine Exists.intro _ (And.intro rfl (And.intro rfl ?_)))
      refine ⟨?_, h0⟩
      rw [abM, if_neg (fun z => z q1), if_neg (by decide), if_neg (by decide), if_neg (by decide), if_neg (by decide), if_pos rfl, p2'.2, mem_eq hH hE]
    repeat (first
      | refine c5 (Nat.le_of_ble_eq_true rfl) (Nat.le_of_ble_eq_true rfl) rfl trivial (brbT (by first | assumption | decide | exact rfl | exact ne10 | exact ne20 | exact ne30) ?_)
      | refine c5 (Nat.le_of_ble_eq_true rfl) (Nat.le_of_ble_eq_true rfl) rfl trivial (brbF (by first | assumption | decide | exact rfl | exact ne10 | exact ne20 | exact ne30) ?_)
      | refine c4 (Nat.le_of_ble_eq_true rfl) rfl trivial (brbT (by first | assumption | decide | exact rfl | exact ne10 | exact ne20 | exact ne30) ?_)
      | refine c4 (Nat.le_of_ble_eq_true rfl) rfl trivial (brbF (by first | assumption | decide | exact rfl | exact ne10 | exact ne20 | exact ne30) ?_)
      | refine c4 (Nat.le_of_ble_eq_true rfl) (Nat.le_of_ble_eq_true rfl) rfl ?_
      | refine c3 (Nat.le_of_ble_eq_true rfl) rfl ?_
      | refine And.intro (by first | assumption | exact trivial) ?_
      | refine brbT (by first | assumption | decide | exact rfl | exact ne10 | exact ne20 | exact ne30) ?_
      | refine brbF (by first | assumption | decide | exact rfl | exact ne10 | exact ne20 | exact ne30) ?_
      | refine br_t (by first | assumption | decide | exact rfl | exact ne10 | exact ne20 | exact ne30) ?_
      | refine br_f (by first | assumption | decide | exact rfl | exact ne10 | exact ne20 | exact ne30) ?_
      | refine Exists.intro _ (And.intro rfl (And.intro rfl ?_)))
    refine ⟨?_, h0⟩
    rw [abM, if_neg (fun z => z q1), if_neg w0, if_neg w1, if_neg w2, if_neg w3, if_neg w4]
  · have q1' : ¬ (0 ≤ t ∧ t ≤ gI σ 1 2 - 1) := fun z => q1 ((hasT hT t).mp z)
    repeat (first
      | refine c5 (Nat.le_of_ble_eq_true rfl) (Nat.le_of_ble_eq_true rfl) rfl trivial (brbT (by first | assumption | decide | exact rfl | exact ne10 | exact ne20 | exact ne30) ?_)
      | refine c5 (Nat.le_of_ble_eq_true rfl) (Nat.le_of_ble_eq_true rfl) rfl trivial (brbF (by first | assumption | decide | exact rfl | exact ne10 | exact ne20 | exact ne30) ?_)
      | refine c4 (Nat.le_of_ble_eq_true rfl) rfl trivial (brbT (by first | assumption | decide | exact rfl | exact ne10 | exact ne20 | exact ne30) ?_)
      | refine c4 (Nat.le_of_ble_eq_true rfl) rfl trivial (brbF (by first | assumption | decide | exact rfl | exact ne10 | exact ne20 | exact ne30) ?_)
      | refine c4 (Nat.le_of_ble_eq_true rfl) (Nat.le_of_ble_eq_true rfl) rfl ?_
      | refine c3 (Nat.le_of_ble_eq_true rfl) rfl ?_
      | refine And.intro (by first | assumption | exact trivial) ?_
      | refine brbT (by first | assumption | decide | exact rfl | exact ne10 | exact ne20 | exact ne30) ?_
      | refine brbF (by first | assumption | decide | exact rfl | exact ne10 | exact ne20 | exact ne30) ?_
      | refine br_t (by first | assumption | decide | exact rfl | exact ne10 | exact ne20 | exact ne30) ?_
      | refine br_f (by first | assumption | decide | exact rfl | exact ne10 | exact ne20 | exact ne30) ?_
      | refine Exists.intro _ (And.intro rfl (And.intro rfl ?_)))
    refine ⟨?_, h0⟩
    rw [abM, if_pos q1]
