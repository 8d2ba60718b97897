/-! events that are alike -/
def lkAt (st mh st' mh' : Nat → Nat) (k o : Nat) : Prop := st' (o + 1) - st' o = st (k + 1) - st k ∧ ∀ i, i < st (k + 1) - st k → mh' (st' o + i) = mh (st k + i)
def lkP (st mh st' mh' : Nat → Nat) (nE' k : Nat) : Prop := ∃ o, o < nE' ∧ lkAt st mh st' mh' k o
noncomputable def lkD (st mh st' mh' : Nat → Nat) (nE' k : Nat) : Bool := @decide (lkP st mh st' mh' nE' k) (Classical.propDecidable _)
theorem lkD_T {st mh st' mh' : Nat → Nat} {nE' k : Nat} (h : lkP st mh st' mh' nE' k) : lkD st mh st' mh' nE' k = true := by simp [lkD, h]
theorem lkD_F {st mh st' mh' : Nat → Nat} {nE' k : Nat} (h : ¬ lkP st mh st' mh' nE' k) : lkD st mh st' mh' nE' k = false := by simp [lkD, h]
def IEx (σ : Mem) (nH b b' nE nE' : Nat) (st mh st' mh' : Nat → Nat) : Prop := nH ≤ 240 ∧ ((b = 30 ∧ b' = 36) ∨ (b = 36 ∧ b' = 30)) ∧ gP σ = b ∧ gQ σ = b' ∧ EvC σ b nE st mh nH ∧ EvM σ b nE st mh ∧ EvC σ b' nE' st' mh' nH ∧ EvO σ nE' st' mh'
theorem EvC.seg_eq {σ : Mem} {b nE : Nat} {st mh : Nat → Nat} {n : Nat} (h : EvC σ b nE st mh n) {o o2 p : Nat} (ho : o < nE) (ho2 : o2 < nE) (h1 : st o ≤ p) (h2 : p < st (o + 1)) (h3 : st o2 ≤ p) (h4 : p < st (o2 + 1)) : o = o2 := by
  rcases Nat.lt_trichotomy o o2 with g | g | g
  · have := h.mono_st (o2 - (o + 1)) (o + 1) (by omega)
    rw [show o + 1 + (o2 - (o + 1)) = o2 by omega] at this
    omega
  · exact g
  · have := h.mono_st (o - (o2 + 1)) (o2 + 1) (by omega)
    rw [show o2 + 1 + (o - (o2 + 1)) = o by omega] at this
    omega
/-- only the event of the first member can be alike -/
theorem lk_only {σ : Mem} {b nE b' nE' : Nat} {st mh st' mh' : Nat → Nat} {n : Nat} (h : EvC σ b nE st mh n) (h' : EvC σ b' nE' st' mh' n) {k o p : Nat} (hk : k < nE) (ho : o < nE') (h1 : st' o ≤ p) (h2 : p < st' (o + 1)) (hp : mh' p = mh (st k)) : lkP st mh st' mh' nE' k ↔ lkAt st mh st' mh' k o := by
  refine ⟨fun ⟨o2, g1, g2, g3⟩ => ?_, fun g => ⟨o, ho, g⟩⟩
  have l := (h.2.2.2.1 k hk).1
  have l2 := (h'.2.2.2.1 o2 g1).1
  have e0 := g3 0 (by omega)
  have le1 := h'.le_st (show o2 + 1 ≤ nE' by omega)
  have le2 := h'.le_st (show o + 1 ≤ nE' by omega)
  have e1 : st' o2 + 0 = p := h'.2.2.2.2.2.2.2.1 _ _ (by omega) (by omega) (e0.trans hp.symm)
  have e2 : o2 = o := h'.seg_eq g1 ho (by omega) (by omega) h1 h2
  subst e2
  exact ⟨g2, g3⟩
theorem lk_none {σ : Mem} {b nE b' nE' : Nat} {st mh st' mh' : Nat → Nat} {n : Nat} (h : EvC σ b nE st mh n) (h' : EvC σ b' nE' st' mh' n) {k : Nat} (hk : k < nE) (hno : ∀ p, p < st' nE' → mh' p ≠ mh (st k)) : ¬ lkP st mh st' mh' nE' k := by
  rintro ⟨o2, g1, g2, g3⟩
  have l := (h.2.2.2.1 k hk).1
  have l2 := (h'.2.2.2.1 o2 g1).1
  have le1 := h'.le_st (show o2 + 1 ≤ nE' by omega)
  exact hno (st' o2 + 0) (by omega) (g3 0 (by omega))
theorem nI_n9 {o : Nat} (h : o < 2 ^ 31) : ¬ nI o = -9 := fun z => by
  have := nI_pos' (n := o) h
  rw [z] at this
  exact absurd this (by decide)
def csX0_hasLike : Cs := [(45, 1, true, spX0_sizeOf)]
def spX0_hasLike : SP := G [(2, [30, 36]), (2, [30, 36]), (0, [])] (fun vs σ K => ∃ (nH b b' nE nE' k : Nat) (st mh st' mh' : Nat → Nat), vs = [.ref b', .ref b, .int (nI k)] ∧ IEx σ nH b b' nE nE' st mh st' mh' ∧ k < nE ∧ (lkP st mh st' mh' nE' k → K (some (.int 1)) σ) ∧ (¬ lkP st mh st' mh' nE' k → K (some (.int 0)) σ))
theorem mnX0_hasLike : Mono spX0_hasLike := fun vs σ K1 K2 hK h => by
  obtain ⟨h1, nH, b, b', nE, nE', k, st, mh, st', mh', g1, g2, g3, g4, g5⟩ := h
  exact ⟨h1, nH, b, b', nE, nE', k, st, mh, st', mh', g1, g2, g3, fun q => hK _ _ (g4 q), fun q => hK _ _ (g5 q)⟩
set_option maxHeartbeats 4000000 in
theorem bdX0_hasLike : Body 6 pgX0_hasLike roM csX0_hasLike lcX0 true spX0_hasLike := by
  intro vs σ K h Ok hst
  obtain ⟨-, nH, b, b', nE, nE', k, st, mh, st', mh', rfl, ⟨hn, hbb, -, -, hc, -, hc', -⟩, hk, hT, hF⟩ := h
  have l := (hc.2.2.2.1 k hk).1
  have le1 := hc.le_st (show k + 1 ≤ nE by omega)
  have y1 := hc.1
  have y5 := hc.2.2.2.2.1
  have y1' := hc'.1
  have y5' := hc'.2.2.2.2.1
  have rk : rI (nI k) = k := rI_nI (by omega)
  have rk1 : rI (nI k + 1) = k + 1 := by rw [nI_1]; exact rI_nI (by omega)
  have e3 : gI σ (b + 1) (rI (nI k)) = nI (st k) := by rw [rk]; exact hc.2.2.2.2.2.1 k (by omega)
  have e31 : gI σ (b + 1) (rI (nI k + 1)) = nI (st (k + 1)) := by rw [rk1]; exact hc.2.2.2.2.2.1 (k + 1) (by omega)
  have rs : rI (nI (st k)) = st k := rI_nI (by omega)
  obtain ⟨m1, m2, -⟩ := hc.2.2.2.2.2.2.1 (st k) (by omega)
  have em : gI σ (b + 3) (rI (gI σ (b + 1) (rI (nI k)))) = nI (mh (st k)) := by rw [e3, rs]; exact m1
  have rm : rI (nI (mh (st k))) = mh (st k) := rI_nI (by omega)
  have v1 : vp_in (nI k) 241 := inI (by omega) (by decide)
  have v6 : vp_in (nI k + 1) 241 := by rw [nI_1]; exact inI (by omega) (by decide)
  have v2 : vp_in (gI σ (b + 1) (rI (nI k))) 240 := by rw [e3]; exact inI (by omega) (by decide)
  have v3 : vp_in (gI σ (b + 3) (rI (gI σ (b + 1) (rI (nI k))))) 240 := by rw [em]; exact inI (by omega) (by decide)
  have fin : Ok 13 [some (.ref b'), some (.ref b), some (.int (nI k)), some (.int (nI (st k))), some (.int (gI σ (b' + 5) (mh (st k)))), none] [] σ → Ok 0 (padL 6 (entL [.ref b', .ref b, .int (nI k)])) [] σ := by
    intro h13
    rw [← rm, ← em, ← e3] at h13
    refine hst [13] 40 _ _ _ _ ?_
    rcases hbb with ⟨rfl, rfl⟩ | ⟨rfl, rfl⟩
    · exact And.intro v1 (And.intro v2 (And.intro v3 h13))
    · exact And.intro v1 (And.intro v2 (And.intro v3 h13))
  apply fin
  by_cases hx : ∃ p, p < st' nE' ∧ mh' p = mh (st k)
  · obtain ⟨p, hp, ep⟩ := hx
    obtain ⟨o, o1, o2, o3⟩ := hc'.seg hp
    have e5 : gI σ (b' + 5) (mh (st k)) = nI o := by rw [← ep]; exact hc'.2.2.2.2.2.2.2.2.1 o p o1 o2 o3
    rw [e5]
    have only := lk_only hc hc' hk o1 o2 o3 ep
    have le2 := hc'.le_st (show o + 1 ≤ nE' by omega)
    have ro : rI (nI o) = o := rI_nI (by omega)
    have ro1 : rI (nI o + 1) = o + 1 := by rw [nI_1]; exact rI_nI (by omega)
    have f3 : gI σ (b' + 1) (rI (nI o)) = nI (st' o) := by rw [ro]; exact hc'.2.2.2.2.2.1 o (by omega)
    have f31 : gI σ (b' + 1) (rI (nI o + 1)) = nI (st' (o + 1)) := by rw [ro1]; exact hc'.2.2.2.2.2.1 (o + 1) (by omega)
    have v4 : vp_in (nI o) 241 := inI (by omega) (by decide)
    have v5 : vp_in (nI o + 1) 241 := by rw [nI_1]; exact inI (by omega) (by decide)
    have sz' : gI σ (b' + 1) (rI (nI o + 1)) - gI σ (b' + 1) (rI (nI o)) = nI (st' (o + 1) - st' o) := by rw [f3, f31, pk_sub (by omega)]
    have sz : gI σ (b + 1) (rI (nI k + 1)) - gI σ (b + 1) (rI (nI k)) = nI (st (k + 1) - st k) := by rw [e3, e31, pk_sub (by omega)]
    have n9 : ¬ nI o = -9 := nI_n9 (by omega)
    have loop : st' (o + 1) - st' o = st (k + 1) - st k → ∀ d i, i + d = st (k + 1) - st k → (∀ j, j < i → mh' (st' o + j) = mh (st k + j)) → Ok 27 [some (.ref b'), some (.ref b), some (.int (nI k)), some (.int (nI (st k))), some (.int (nI o)), some (.int (nI i))] [] σ := by
      intro hsz d
      induction d with
      | zero =>
        intro i hi hj
        have e : st (k + 1) - st k = i := by omega
        have lt : gI σ (b' + 1) (rI (nI o + 1)) - gI σ (b' + 1) (rI (nI o)) ≤ nI i := by rw [sz', hsz, e]; exact Int32.le_refl _
        have fk := hT (only.mpr ⟨hsz, fun i' hi' => hj i' (by omega)⟩)
        refine hst [27] 60 _ _ _ _ ?_
        rcases hbb with ⟨rfl, rfl⟩ | ⟨rfl, rfl⟩
        · exact c4 (Nat.le_of_ble_eq_true rfl) rfl ⟨v5, v4⟩ (br_t lt (And.intro (Or.inr rfl) fk))
        · exact c4 (Nat.le_of_ble_eq_true rfl) rfl ⟨v5, v4⟩ (br_t lt (And.intro (Or.inr rfl) fk))
      | succ d ih =>
        intro i hi hj
        have nlt : ¬ gI σ (b' + 1) (rI (nI o + 1)) - gI σ (b' + 1) (rI (nI o)) ≤ nI i := by rw [sz', hsz]; exact nI_ge (by omega) (by omega)
        have x1 : gI σ (b' + 1) (rI (nI o)) + nI i = nI (st' o + i) := by rw [f3, nI_add]
        have x2 : nI (st k) + nI i = nI (st k + i) := nI_add _ _
        have v7 : vp_in (gI σ (b' + 1) (rI (nI o)) + nI i) 240 := by rw [x1]; exact inI (by omega) (by decide)
        have v8 : vp_in (nI (st k) + nI i) 240 := by rw [x2]; exact inI (by omega) (by decide)
        have d1 := hc'.2.2.2.2.2.2.1 (st' o + i) (by omega)
        have d2 := hc.2.2.2.2.2.2.1 (st k + i) (by omega)
        have z1 : gI σ (b' + 3) (rI (gI σ (b' + 1) (rI (nI o)) + nI i)) = nI (mh' (st' o + i)) := by rw [x1, rI_nI (by omega)]; exact d1.1
        have z2 : gI σ (b + 3) (rI (nI (st k) + nI i)) = nI (mh (st k + i)) := by rw [x2, rI_nI (by omega)]; exact d2.1
        refine hst [27] 60 _ _ _ _ ?_
        by_cases q : mh' (st' o + i) = mh (st k + i)
        · have qe : gI σ (b' + 3) (rI (gI σ (b' + 1) (rI (nI o)) + nI i)) = gI σ (b + 3) (rI (nI (st k) + nI i)) := by rw [z1, z2, q]
          have ih := ih (i + 1) (by omega) (fun j hj' => by
            rcases Nat.lt_or_ge j i with g | g
            · exact hj j g
            · have : j = i := by omega
              rw [this]; exact q)
          rw [← nI_1] at ih
          rcases hbb with ⟨rfl, rfl⟩ | ⟨rfl, rfl⟩
          · exact c4 (Nat.le_of_ble_eq_true rfl) rfl ⟨v5, v4⟩ (br_f nlt (And.intro v4 (And.intro v7 (And.intro v8 (br_t qe ih)))))
          · exact c4 (Nat.le_of_ble_eq_true rfl) rfl ⟨v5, v4⟩ (br_f nlt (And.intro v4 (And.intro v7 (And.intro v8 (br_t qe ih)))))
        · have qe : ¬ gI σ (b' + 3) (rI (gI σ (b' + 1) (rI (nI o)) + nI i)) = gI σ (b + 3) (rI (nI (st k) + nI i)) := by
            rw [z1, z2]
            exact fun z => q ((nI_eq (by omega) (by omega)).mp z)
          have fk := hF (fun z => q ((only.mp z).2 i (by omega)))
          rcases hbb with ⟨rfl, rfl⟩ | ⟨rfl, rfl⟩
          · exact c4 (Nat.le_of_ble_eq_true rfl) rfl ⟨v5, v4⟩ (br_f nlt (And.intro v4 (And.intro v7 (And.intro v8 (br_f qe (And.intro (Or.inl rfl) fk))))))
          · exact c4 (Nat.le_of_ble_eq_true rfl) rfl ⟨v5, v4⟩ (br_f nlt (And.intro v4 (And.intro v7 (And.intro v8 (br_f qe (And.intro (Or.inl rfl) fk))))))
    refine hst [27] 60 _ _ _ _ ?_
    by_cases q : st' (o + 1) - st' o = st (k + 1) - st k
    · have qe : gI σ (b' + 1) (rI (nI o + 1)) - gI σ (b' + 1) (rI (nI o)) = gI σ (b + 1) (rI (nI k + 1)) - gI σ (b + 1) (rI (nI k)) := by rw [sz', sz, q]
      have l0 := loop q _ 0 (Nat.zero_add _) (fun j hj => absurd hj (Nat.not_lt_zero j))
      rcases hbb with ⟨rfl, rfl⟩ | ⟨rfl, rfl⟩
      · exact br_f n9 (c4 (Nat.le_of_ble_eq_true rfl) rfl ⟨v5, v4⟩ (c4 (Nat.le_of_ble_eq_true rfl) rfl ⟨v6, v1⟩ (br_t qe l0)))
      · exact br_f n9 (c4 (Nat.le_of_ble_eq_true rfl) rfl ⟨v5, v4⟩ (c4 (Nat.le_of_ble_eq_true rfl) rfl ⟨v6, v1⟩ (br_t qe l0)))
    · have qe : ¬ gI σ (b' + 1) (rI (nI o + 1)) - gI σ (b' + 1) (rI (nI o)) = gI σ (b + 1) (rI (nI k + 1)) - gI σ (b + 1) (rI (nI k)) := by
        rw [sz', sz]
        exact fun z => q ((nI_eq (by omega) (by omega)).mp z)
      have fk := hF (fun z => q (only.mp z).1)
      rcases hbb with ⟨rfl, rfl⟩ | ⟨rfl, rfl⟩
      · exact br_f n9 (c4 (Nat.le_of_ble_eq_true rfl) rfl ⟨v5, v4⟩ (c4 (Nat.le_of_ble_eq_true rfl) rfl ⟨v6, v1⟩ (br_f qe (And.intro (Or.inl rfl) fk))))
      · exact br_f n9 (c4 (Nat.le_of_ble_eq_true rfl) rfl ⟨v5, v4⟩ (c4 (Nat.le_of_ble_eq_true rfl) rfl ⟨v6, v1⟩ (br_f qe (And.intro (Or.inl rfl) fk))))
  · have e5 : gI σ (b' + 5) (mh (st k)) = -9 := hc'.2.2.2.2.2.2.2.2.2 _ (by omega) (fun p hp z => hx ⟨p, hp, z⟩)
    rw [e5]
    have fk := hF (lk_none hc hc' hk (fun p hp z => hx ⟨p, hp, z⟩))
    refine hst [] 60 _ _ _ _ ?_
    exact br_t rfl (And.intro (Or.inl rfl) fk)
