def csX10_isNew : Cs := []
def spX10_isNew : SP := G [(2, [42]), (0, [])] (fun vs σ K => ∃ (nH b b' nE nE' k : Nat) (st mh st' mh' : Nat → Nat), vs = [.ref 42, .int (nI k)] ∧ IEx σ nH b b' nE nE' st mh st' mh' ∧ k < nE ∧ (lkP st mh st' mh' nE' k → K (some (.int 0)) σ) ∧ (¬ lkP st mh st' mh' nE' k → K (some (.int 1)) σ))
theorem mnX10_isNew : Mono spX10_isNew := fun vs σ K1 K2 hK h => by
  obtain ⟨h1, nH, b, b', nE, nE', k, st, mh, st', mh', g1, g2, g3, g4, g5⟩ := h
  exact ⟨h1, nH, b, b', nE, nE', k, st, mh, st', mh', g1, g2, g3, fun q => hK _ _ (g4 q), fun q => hK _ _ (g5 q)⟩
set_option maxHeartbeats 4000000 in
theorem bdX10_isNew : Body 6 pgX10_isNew roM csX10_isNew lcX10 true spX10_isNew := by
  intro vs σ K h Ok hst
  obtain ⟨-, nH, b, b', nE, nE', k, st, mh, st', mh', rfl, ⟨hn, hbb, -, -, hc, hm, hc', ho⟩, hk, hT, hF⟩ := h
  have l := (hc.2.2.2.1 k hk).1
  have le1 := hc.le_st (show k + 1 ≤ nE by omega)
  have y1 := hc.1
  have y5 := hc.2.2.2.2.1
  have y1' := hc'.1
  have y5' := hc'.2.2.2.2.1
  have rk : rI (nI k) = k := rI_nI (by omega)
  have rk1 : rI (nI k + 1) = k + 1 := by rw [nI_1]; exact rI_nI (by omega)
  have e3 : gI σ 65 (rI (nI k)) = nI (st k) := by rw [rk]; exact hm.2.2.1 k (by omega)
  have e31 : gI σ 65 (rI (nI k + 1)) = nI (st (k + 1)) := by rw [rk1]; exact hm.2.2.1 (k + 1) (by omega)
  have v1 : vp_in (nI k) 241 := inI (by omega) (by decide)
  have v6 : vp_in (nI k + 1) 241 := by rw [nI_1]; exact inI (by omega) (by decide)
  have sz : gI σ 65 (rI (nI k + 1)) - gI σ 65 (rI (nI k)) = nI (st (k + 1) - st k) := by rw [e3, e31, pk_sub (by omega)]
  have outer : ∀ d o, o + d = nE' → (∀ o2, o2 < o → ¬ lkAt st mh st' mh' k o2) → ∀ x4 x5, Ok 14 [some (.ref 42), some (.int (nI k)), some (.int (nI (st (k + 1) - st k))), some (.int (nI o)), x4, x5] [] σ := by
    intro d
    induction d with
    | zero =>
      intro o he hno x4 x5
      have le : gI σ 42 36 ≤ nI o := by rw [ho.1]; exact nI_le (by omega) (by omega)
      have fk := hF (fun ⟨o2, z1, z2⟩ => hno o2 (by omega) z2)
      refine hst [14] 60 _ _ _ _ ?_
      exact br_t le (And.intro (Or.inr rfl) fk)
    | succ d ih =>
      intro o he hno x4 x5
      have l' := (hc'.2.2.2.1 o (by omega)).1
      have le2 := hc'.le_st (show o + 1 ≤ nE' by omega)
      have ro : rI (nI o) = o := rI_nI (by omega)
      have ro1 : rI (nI o + 1) = o + 1 := by rw [nI_1]; exact rI_nI (by omega)
      have f3 : gI σ 69 (rI (nI o)) = nI (st' o) := by rw [ro]; exact ho.2.1 o (by omega)
      have f31 : gI σ 69 (rI (nI o + 1)) = nI (st' (o + 1)) := by rw [ro1]; exact ho.2.1 (o + 1) (by omega)
      have v4 : vp_in (nI o) 241 := inI (by omega) (by decide)
      have v5 : vp_in (nI o + 1) 241 := by rw [nI_1]; exact inI (by omega) (by decide)
      have sz' : gI σ 69 (rI (nI o + 1)) - gI σ 69 (rI (nI o)) = nI (st' (o + 1) - st' o) := by rw [f3, f31, pk_sub (by omega)]
      have nlt0 : ¬ gI σ 42 36 ≤ nI o := by rw [ho.1]; exact nI_ge (by omega) (by omega)
      have bad : ¬ lkAt st mh st' mh' k o → ∀ x : Int32, Ok 37 [some (.ref 42), some (.int (nI k)), some (.int (nI (st (k + 1) - st k))), some (.int (nI o)), some (.int 0), some (.int x)] [] σ := by
        intro hb x
        have nx := ih (o + 1) (by omega) (fun o2 h2 => by
          rcases Nat.lt_or_ge o2 o with g | g
          · exact hno o2 g
          · have : o2 = o := by omega
            rw [this]; exact hb) (some (.int 0)) (some (.int x))
        rw [← nI_1] at nx
        refine hst [14] 60 _ _ _ _ ?_
        exact And.intro (fun _ => br_t rfl nx) (fun _ => br_t rfl (br_t rfl nx))
      have inner : st' (o + 1) - st' o = st (k + 1) - st k → ∀ d i, i + d = st (k + 1) - st k → (∀ j, j < i → mh' (st' o + j) = mh (st k + j)) → Ok 37 [some (.ref 42), some (.int (nI k)), some (.int (nI (st (k + 1) - st k))), some (.int (nI o)), some (.int 1), some (.int (nI i))] [] σ := by
        intro hsz d
        induction d with
        | zero =>
          intro i hi hj
          have e : st (k + 1) - st k = i := by omega
          have fk := hT ⟨o, by omega, hsz, fun i' hi' => hj i' (by omega)⟩
          refine hst [37] 60 _ _ _ _ ?_
          exact br_t (nI_le (by omega) (by omega)) (br_f ne10 (And.intro (Or.inl rfl) fk))
        | succ d ihd =>
          intro i hi hj
          have nlt : ¬ nI (st (k + 1) - st k) ≤ nI i := nI_ge (by omega) (by omega)
          have x1 : gI σ 69 (rI (nI o)) + nI i = nI (st' o + i) := by rw [f3, nI_add]
          have x2 : gI σ 65 (rI (nI k)) + nI i = nI (st k + i) := by rw [e3, nI_add]
          have v7 : vp_in (gI σ 69 (rI (nI o)) + nI i) 240 := by rw [x1]; exact inI (by omega) (by decide)
          have v8 : vp_in (gI σ 65 (rI (nI k)) + nI i) 240 := by rw [x2]; exact inI (by omega) (by decide)
          have d1 := hc'.2.2.2.2.2.2.1 (st' o + i) (by omega)
          have d2 := hc.2.2.2.2.2.2.1 (st k + i) (by omega)
          have z1 : gI σ 70 (rI (gI σ 69 (rI (nI o)) + nI i)) = nI (mh' (st' o + i)) := by rw [x1, rI_nI (by omega)]; exact ho.2.2 _ (by omega)
          have z2 : gI σ 66 (rI (gI σ 65 (rI (nI k)) + nI i)) = nI (mh (st k + i)) := by rw [x2, rI_nI (by omega)]; exact (hm.2.2.2.1 _ (by omega)).1
          refine hst [37] 60 _ _ _ _ ?_
          by_cases q : mh' (st' o + i) = mh (st k + i)
          · have qe : gI σ 70 (rI (gI σ 69 (rI (nI o)) + nI i)) = gI σ 66 (rI (gI σ 65 (rI (nI k)) + nI i)) := by rw [z1, z2, q]
            have ihd := ihd (i + 1) (by omega) (fun j hj' => by
              rcases Nat.lt_or_ge j i with g | g
              · exact hj j g
              · have : j = i := by omega
                rw [this]; exact q)
            rw [← nI_1] at ihd
            exact br_f nlt (br_f ne10 (And.intro v4 (And.intro v7 (And.intro v1 (And.intro v8 (br_t qe ihd))))))
          · have qe : ¬ gI σ 70 (rI (gI σ 69 (rI (nI o)) + nI i)) = gI σ 66 (rI (gI σ 65 (rI (nI k)) + nI i)) := by
              rw [z1, z2]
              exact fun z => q ((nI_eq (by omega) (by omega)).mp z)
            exact br_f nlt (br_f ne10 (And.intro v4 (And.intro v7 (And.intro v1 (And.intro v8 (br_f qe (bad (fun z => q (z.2 i (by omega))) _)))))))
      refine hst [37] 60 _ _ _ _ ?_
      by_cases q : st' (o + 1) - st' o = st (k + 1) - st k
      · have qe : gI σ 69 (rI (nI o + 1)) - gI σ 69 (rI (nI o)) = nI (st (k + 1) - st k) := by rw [sz', q]
        exact br_f nlt0 (And.intro v5 (And.intro v4 (br_t qe (inner q _ 0 (Nat.zero_add _) (fun j hj => absurd hj (Nat.not_lt_zero j))))))
      · have qe : ¬ gI σ 69 (rI (nI o + 1)) - gI σ 69 (rI (nI o)) = nI (st (k + 1) - st k) := by
          rw [sz']
          exact fun z => q ((nI_eq (by omega) (by omega)).mp z)
        exact br_f nlt0 (And.intro v5 (And.intro v4 (br_f qe (bad (fun z => q z.1) _))))
  have l0 := outer _ 0 (Nat.zero_add _) (fun o2 h2 => absurd h2 (Nat.not_lt_zero o2)) none none
  rw [← sz] at l0
  refine hst [14] 60 _ _ _ _ ?_
  exact And.intro v6 (And.intro v1 l0)
def csX9_others : Cs := [(204, 2, true, spX0_hasLike)]
def spX9_others : SP := G [(2, [0])] (fun vs σ K => ∃ (nH b b' nE nE' : Nat) (st mh st' mh' : Nat → Nat), vs = [.ref 0] ∧ IEx σ nH b b' nE nE' st mh st' mh' ∧ K (some (.int (if 2 ≤ gI σ 0 10 then cntF (fun k => !lkD st mh st' mh' nE' k) nE else -3))) σ)
theorem mnX9_others : Mono spX9_others := fun vs σ K1 K2 hK h => by
  obtain ⟨h1, nH, b, b', nE, nE', st, mh, st', mh', g1, g2, g3⟩ := h
  exact ⟨h1, nH, b, b', nE, nE', st, mh, st', mh', g1, g2, hK _ _ g3⟩
set_option maxHeartbeats 4000000 in
theorem bdX9_others : Body 3 pgX9_others roM csX9_others lcX9 false spX9_others := by
  intro vs σ K h Ok hst
  obtain ⟨-, nH, b, b', nE, nE', st, mh, st', mh', rfl, hI, hk⟩ := h
  have hI0 := hI
  obtain ⟨hn, hbb, hP, hQ, hc, -, hc', -⟩ := hI
  have y1 := hc.1
  by_cases q2 : 2 ≤ gI σ 0 10
  · rw [if_pos q2] at hk
    have loop : ∀ d i, i + d = nE → Ok 10 [some (.ref 0), some (.int (cntF (fun k => !lkD st mh st' mh' nE' k) i)), some (.int (nI i))] [] σ := by
      intro d
      induction d with
      | zero =>
        intro i hi
        have e : i = nE := by omega
        subst e
        have le : gI σ b 0 ≤ nI i := by rw [hc.2.1]; exact Int32.le_refl _
        refine hst [10] 40 _ _ _ _ ?_
        obtain ⟨s1, s2, s3, s4⟩ := σ
        have hP : s3 = b := hP
        subst hP
        rcases hbb with ⟨hb, -⟩ | ⟨hb, -⟩
        · subst hb
          exact br_t le hk
        · subst hb
          exact br_t le hk
      | succ d ih =>
        intro i hi
        have nle : ¬ gI σ b 0 ≤ nI i := by rw [hc.2.1]; exact nI_ge (by omega) (by omega)
        have ih := ih (i + 1) (by omega)
        rw [← nI_1] at ih
        have yes : lkP st mh st' mh' nE' i → Ok 10 [some (.ref 0), some (.int (cntF (fun k => !lkD st mh st' mh' nE' k) i)), some (.int (nI i + 1))] [] σ := by
          intro q
          rw [← cntF_F (by simp [lkD_T q])] at ih
          exact ih
        have no : ¬ lkP st mh st' mh' nE' i → Ok 10 [some (.ref 0), some (.int (cntF (fun k => !lkD st mh st' mh' nE' k) i + 1)), some (.int (nI i + 1))] [] σ := by
          intro q
          rw [← cntF_T (by simp [lkD_F q])] at ih
          exact ih
        refine hst [10] 40 _ _ _ _ ?_
        clear ih
        obtain ⟨s1, s2, s3, s4⟩ := σ
        have hP : s3 = b := hP
        have hQ : s4 = b' := hQ
        subst hP hQ
        rcases hbb with ⟨hb, hb'⟩ | ⟨hb, hb'⟩
        · subst hb hb'
          exact br_f nle (And.intro (Nat.le_of_ble_eq_true rfl) (And.intro rfl ⟨nH, 30, 36, nE, nE', i, st, mh, st', mh', rfl, hI0, by omega, fun q => br_f ne10 (yes q), fun q => br_t rfl (no q)⟩))
        · subst hb hb'
          exact br_f nle (And.intro (Nat.le_of_ble_eq_true rfl) (And.intro rfl ⟨nH, 36, 30, nE, nE', i, st, mh, st', mh', rfl, hI0, by omega, fun q => br_f ne10 (yes q), fun q => br_t rfl (no q)⟩))
    refine hst [10] 40 _ _ _ _ ?_
    exact br_t q2 (loop _ 0 (Nat.zero_add _))
  · rw [if_neg q2] at hk
    refine hst [10] 40 _ _ _ _ ?_
    exact br_f q2 hk
def csX10_others : Cs := [(192, 1, true, spX10_isNew)]
def spX10_others : SP := G [(2, [42])] (fun vs σ K => ∃ (nH b b' nE nE' : Nat) (st mh st' mh' : Nat → Nat), vs = [.ref 42] ∧ IEx σ nH b b' nE nE' st mh st' mh' ∧ K (some (.int (if 2 ≤ gI σ 42 22 then cntF (fun k => !lkD st mh st' mh' nE' k) nE else -3))) σ)
theorem mnX10_others : Mono spX10_others := fun vs σ K1 K2 hK h => by
  obtain ⟨h1, nH, b, b', nE, nE', st, mh, st', mh', g1, g2, g3⟩ := h
  exact ⟨h1, nH, b, b', nE, nE', st, mh, st', mh', g1, g2, hK _ _ g3⟩
set_option maxHeartbeats 4000000 in
theorem bdX10_others : Body 3 pgX10_others roM csX10_others lcX10 false spX10_others := by
  intro vs σ K h Ok hst
  obtain ⟨-, nH, b, b', nE, nE', st, mh, st', mh', rfl, hI, hk⟩ := h
  have hI0 := hI
  obtain ⟨hn, hbb, hP, hQ, hc, hm, hc', -⟩ := hI
  have y1 := hc.1
  by_cases q2 : 2 ≤ gI σ 42 22
  · rw [if_pos q2] at hk
    have loop : ∀ d i, i + d = nE → Ok 10 [some (.ref 42), some (.int (cntF (fun k => !lkD st mh st' mh' nE' k) i)), some (.int (nI i))] [] σ := by
      intro d
      induction d with
      | zero =>
        intro i hi
        have e : i = nE := by omega
        subst e
        have le : gI σ 42 30 ≤ nI i := by rw [hm.1]; exact Int32.le_refl _
        refine hst [10] 40 _ _ _ _ ?_
        exact br_t le hk
      | succ d ih =>
        intro i hi
        have nle : ¬ gI σ 42 30 ≤ nI i := by rw [hm.1]; exact nI_ge (by omega) (by omega)
        have ih := ih (i + 1) (by omega)
        rw [← nI_1] at ih
        have yes : lkP st mh st' mh' nE' i → Ok 10 [some (.ref 42), some (.int (cntF (fun k => !lkD st mh st' mh' nE' k) i + 0)), some (.int (nI i + 1))] [] σ := by
          intro q
          rw [← cntF_F (by simp [lkD_T q])] at ih
          rw [Int32.add_zero]
          exact ih
        have no : ¬ lkP st mh st' mh' nE' i → Ok 10 [some (.ref 42), some (.int (cntF (fun k => !lkD st mh st' mh' nE' k) i + 1)), some (.int (nI i + 1))] [] σ := by
          intro q
          rw [← cntF_T (by simp [lkD_F q])] at ih
          exact ih
        refine hst [10] 40 _ _ _ _ ?_
        exact br_f nle (And.intro (Nat.le_of_ble_eq_true rfl) (And.intro rfl ⟨nH, b, b', nE, nE', i, st, mh, st', mh', rfl, hI0, by omega, fun q => br_t rfl (yes q), fun q => br_f ne10 (no q)⟩))
    refine hst [10] 40 _ _ _ _ ?_
    exact br_t q2 (loop _ 0 (Nat.zero_add _))
  · rw [if_neg q2] at hk
    refine hst [10] 40 _ _ _ _ ?_
    exact br_f q2 hk
