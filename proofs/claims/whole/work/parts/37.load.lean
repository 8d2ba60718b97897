theorem fit_c {i n z : Int32} {a m s : Nat} (hi : i = nI a) (hn : n = nI m) (hz : z = nI s) (ha : a < 2 ^ 31) (hm : m < 2 ^ 31) (hs : s ≤ 40) : lg_cmp (i.toInt64 + 4 * n.toInt64) z.toInt64 ≤ 0 ↔ a + 4 * m ≤ s := by
  have e4 : (4 : Int64).toInt = 4 := by decide
  rw [lg_cmp_le, Int64.le_iff_toInt_le, Int64.toInt_add, Int64.toInt_mul, Int32.toInt_toInt64, Int32.toInt_toInt64, Int32.toInt_toInt64, hi, hn, hz, nI_toInt ha, nI_toInt hm, nI_toInt (by omega), e4, bm_id (x := 4 * (m : Int)) (by omega) (by omega), bm_id (by omega) (by omega)]
  omega
theorem fit_m {i n z : Int32} {a m s : Nat} (hi : i = nI a) (hn : n = nI m) (hz : z = nI s) (ha : a ≤ s) (hm : m < 2 ^ 31) (hs : s ≤ 40) : lg_cmp (4 * n.toInt64) (z - i).toInt64 ≤ 0 ↔ a + 4 * m ≤ s := by
  have e4 : (4 : Int64).toInt = 4 := by decide
  rw [hi, hz, pk_sub ha, lg_cmp_le, Int64.le_iff_toInt_le, Int64.toInt_mul, Int32.toInt_toInt64, Int32.toInt_toInt64, hn, nI_toInt hm, nI_toInt (by omega), e4, bm_id (by omega) (by omega)]
  omega
theorem addT_at (σ : Mem) (n : Nat) (t tm lo hi : Int32) (i : Nat) : gI (addT σ n t tm lo hi) 5 i = (if i = n then t else gI σ 5 i) ∧ gI (addT σ n t tm lo hi) 6 i = (if i = n then tm else gI σ 6 i) ∧ gI (addT σ n t tm lo hi) 7 i = (if i = n then lo else gI σ 7 i) ∧ gI (addT σ n t tm lo hi) 8 i = (if i = n then hi else gI σ 8 i) := by
  unfold addT
  simp [gI_sI]
theorem addM_at (σ : Mem) (n : Nat) (t tm lo hi : Int32) (i : Nat) : gI (addM σ n t tm lo hi) 45 i = (if i = n then t else gI σ 45 i) ∧ gI (addM σ n t tm lo hi) 46 i = (if i = n then tm else gI σ 46 i) ∧ gI (addM σ n t tm lo hi) 47 i = (if i = n then lo else gI σ 47 i) ∧ gI (addM σ n t tm lo hi) 48 i = (if i = n then hi else gI σ 48 i) := by
  unfold addM
  simp [gI_sI]
theorem adT_at (σ : Mem) (p : Nat → Nat) (h : Nat) : ∀ j i, (h ≤ i ∧ i < h + j → gI (adT σ p h j) 5 i = gI σ 20 (p (i - h)) ∧ gI (adT σ p h j) 6 i = gI σ 20 (p (i - h) + 1) ∧ gI (adT σ p h j) 7 i = gI σ 20 (p (i - h) + 2) ∧ gI (adT σ p h j) 8 i = gI σ 20 (p (i - h) + 3)) ∧ (¬ (h ≤ i ∧ i < h + j) → gI (adT σ p h j) 5 i = gI σ 5 i ∧ gI (adT σ p h j) 6 i = gI σ 6 i ∧ gI (adT σ p h j) 7 i = gI σ 7 i ∧ gI (adT σ p h j) 8 i = gI σ 8 i) := by
  intro j i
  induction j with
  | zero => exact ⟨fun q => by omega, fun _ => ⟨rfl, rfl, rfl, rfl⟩⟩
  | succ j ih =>
    have e : adT σ p h (j + 1) = addT (adT σ p h j) (h + j) (gI σ 20 (p j)) (gI σ 20 (p j + 1)) (gI σ 20 (p j + 2)) (gI σ 20 (p j + 3)) := rfl
    obtain ⟨a1, a2, a3, a4⟩ := addT_at (adT σ p h j) (h + j) (gI σ 20 (p j)) (gI σ 20 (p j + 1)) (gI σ 20 (p j + 2)) (gI σ 20 (p j + 3)) i
    rw [e, a1, a2, a3, a4]
    by_cases c : i = h + j
    · rw [if_pos c, if_pos c, if_pos c, if_pos c]
      have : i - h = j := by omega
      rw [this]
      exact ⟨fun _ => ⟨rfl, rfl, rfl, rfl⟩, fun z => by omega⟩
    · rw [if_neg c, if_neg c, if_neg c, if_neg c]
      exact ⟨fun q => ih.1 (by omega), fun q => ih.2 (by omega)⟩
theorem adM_at (σ : Mem) (p : Nat → Nat) (h : Nat) : ∀ j i, (h ≤ i ∧ i < h + j → gI (adM σ p h j) 45 i = gI σ 57 (p (i - h)) ∧ gI (adM σ p h j) 46 i = gI σ 57 (p (i - h) + 1) ∧ gI (adM σ p h j) 47 i = gI σ 57 (p (i - h) + 2) ∧ gI (adM σ p h j) 48 i = gI σ 57 (p (i - h) + 3)) ∧ (¬ (h ≤ i ∧ i < h + j) → gI (adM σ p h j) 45 i = gI σ 45 i ∧ gI (adM σ p h j) 46 i = gI σ 46 i ∧ gI (adM σ p h j) 47 i = gI σ 47 i ∧ gI (adM σ p h j) 48 i = gI σ 48 i) := by
  intro j i
  induction j with
  | zero => exact ⟨fun q => by omega, fun _ => ⟨rfl, rfl, rfl, rfl⟩⟩
  | succ j ih =>
    have e : adM σ p h (j + 1) = addM (adM σ p h j) (h + j) (gI σ 57 (p j)) (gI σ 57 (p j + 1)) (gI σ 57 (p j + 2)) (gI σ 57 (p j + 3)) := rfl
    obtain ⟨a1, a2, a3, a4⟩ := addM_at (adM σ p h j) (h + j) (gI σ 57 (p j)) (gI σ 57 (p j + 1)) (gI σ 57 (p j + 2)) (gI σ 57 (p j + 3)) i
    rw [e, a1, a2, a3, a4]
    by_cases c : i = h + j
    · rw [if_pos c, if_pos c, if_pos c, if_pos c]
      have : i - h = j := by omega
      rw [this]
      exact ⟨fun _ => ⟨rfl, rfl, rfl, rfl⟩, fun z => by omega⟩
    · rw [if_neg c, if_neg c, if_neg c, if_neg c]
      exact ⟨fun q => ih.1 (by omega), fun q => ih.2 (by omega)⟩
theorem ad_PQ (σ : Mem) (p : Nat → Nat) (h : Nat) : ∀ j, gP (adT σ p h j) = gP σ ∧ gQ (adT σ p h j) = gQ σ ∧ gP (adM σ p h j) = gP σ ∧ gQ (adM σ p h j) = gQ σ
  | 0 => ⟨rfl, rfl, rfl, rfl⟩
  | j + 1 => ad_PQ σ p h j
/-- HITS of rows, on both sides -/
theorem Inv.load {σ : Mem} (h : Inv σ) (p : Nat → Nat) {nT nH nC nD m : Nat} (hA : IT σ nT ∧ IH σ nT nH ∧ IC σ nC ∧ ID σ nD) (hs : IS σ ∧ IR σ ∧ IX σ) (hE : IE σ nH) (hm : nH + m ≤ 240) (hp : ∀ j, j < m → p j + 3 < 160 ∧ okHit nT (gI σ 20 (p j)) (gI σ 20 (p j + 1)) (gI σ 20 (p j + 2)) (gI σ 20 (p j + 3))) : Inv (adM (sI (adT (sI σ 0 12 0) p nH m) 42 0 0) p nH m) := by
  have off : ∀ k j, ¬ ((5 ≤ k ∧ k ≤ 8) ∨ (k = 4 ∧ j = 4) ∨ (45 ≤ k ∧ k ≤ 48) ∨ (k = 42 ∧ j = 5) ∨ (k = 42 ∧ j = 0) ∨ (k = 0 ∧ j = 12)) → gI (adM (sI (adT (sI σ 0 12 0) p nH m) 42 0 0) p nH m) k j = gI σ k j := by
    intro k j hk
    rw [adM_off (by omega), gI_off (by omega), adT_off (by omega), gI_off (by omega)]
  obtain ⟨hT, hH, hC, hD⟩ := hA
  obtain ⟨hS, hR, hX⟩ := hs
  refine ⟨nT, nH + m, nC, nD, ⟨?_, ⟨hm, ?_, ?_, fun i hi => ?_⟩, ?_, ?_⟩, ⟨?_, ?_, ?_, ?_, ?_⟩, IE.mono (IE.congr (σ := σ) (fun k j hk => off k j (by unfold Ek at hk; omega)) ?_ ?_ hE) (by omega)⟩
  · simpa [IT, off] using hT
  · rw [adM_off (by omega), gI_off (by omega)]
    exact adT_n (σ := sI σ 0 12 0) hH.2.1 m
  · refine adM_n ?_ m
    rw [gI_off (by omega), adT_off (by omega), gI_off (by omega)]
    exact hH.2.2.1
  · have dn : ∀ k, 5 ≤ k → k ≤ 8 → gI (adM (sI (adT (sI σ 0 12 0) p nH m) 42 0 0) p nH m) k i = gI (adT (sI σ 0 12 0) p nH m) k i := by
      intro k h1 h2
      rw [adM_off (by omega), gI_off (by omega)]
    rw [dn 5 (by omega) (by omega), dn 6 (by omega) (by omega), dn 7 (by omega) (by omega), dn 8 (by omega) (by omega)]
    have A := adT_at (sI σ 0 12 0) p nH m i
    have B := adM_at (sI (adT (sI σ 0 12 0) p nH m) 42 0 0) p nH m i
    by_cases c : nH ≤ i ∧ i < nH + m
    · obtain ⟨a1, a2, a3, a4⟩ := A.1 c
      obtain ⟨b1, b2, b3, b4⟩ := B.1 c
      obtain ⟨g1, g2⟩ := hp (i - nH) (by omega)
      have cc : ∀ q, q < 160 → gI (sI (adT (sI σ 0 12 0) p nH m) 42 0 0) 57 q = gI (sI σ 0 12 0) 20 q := by
        intro q hq
        rw [gI_off (by omega), adT_off (by omega), gI_off (by omega), gI_off (by omega)]
        exact hS.2.2 q hq
      rw [a1, a2, a3, a4, b1, b2, b3, b4, cc _ (by omega), cc _ (by omega), cc _ (by omega), cc _ (by omega), gI_off (by omega), gI_off (by omega), gI_off (by omega), gI_off (by omega)]
      exact ⟨⟨rfl, rfl, rfl, rfl⟩, g2⟩
    · obtain ⟨a1, a2, a3, a4⟩ := A.2 c
      obtain ⟨b1, b2, b3, b4⟩ := B.2 c
      rw [a1, a2, a3, a4, b1, b2, b3, b4]
      have cc : ∀ k, 45 ≤ k → k ≤ 48 → gI (sI (adT (sI σ 0 12 0) p nH m) 42 0 0) k i = gI σ k i := by
        intro k h1 h2
        rw [gI_off (by omega), adT_off (by omega), gI_off (by omega)]
      rw [cc 45 (by omega) (by omega), cc 46 (by omega) (by omega), cc 47 (by omega) (by omega), cc 48 (by omega) (by omega), gI_off (by omega), gI_off (by omega), gI_off (by omega), gI_off (by omega)]
      exact hH.2.2.2 i (by omega)
  · simpa [IC, off] using hC
  · simpa [ID, off] using hD
  · simpa [IS, off] using hS
  · simpa [IR, off] using hR
  · rw [off _ _ (by omega), off _ _ (by omega)]; exact hX.1
  · rw [off _ _ (by omega), off _ _ (by omega)]; exact hX.2.1
  · rw [adM_off (by omega), adM_off (by omega), gI_on ⟨rfl, rfl⟩, gI_off (by omega), adT_off (by omega), gI_on ⟨rfl, rfl⟩]
  · exact (ad_PQ _ p nH m).2.2.1.trans (ad_PQ (sI σ 0 12 0) p nH m).1
  · exact (ad_PQ _ p nH m).2.2.2.trans (ad_PQ (sI σ 0 12 0) p nH m).2.1
