def csX4_insert : Cs := []
def SC (k j : Nat) : Prop := k = 22 ∨ k = 23 ∨ k = 24 ∨ k = 25 ∨ (k = 21 ∧ j = 4)
def S3 (k _j : Nat) : Prop := k = 22 ∨ k = 23 ∨ k = 24
def PX (D : Dat) (τ : Mem) (m : Nat) (pl : Nat → Nat) (x : Nat) : Prop := gI τ 21 4 = nI m ∧ m ≤ x ∧ (∀ p, p < m → gI τ 22 p = nI (pl p) ∧ gI τ 23 p = nI (dK D (pl p)) ∧ gI τ 24 p = dTm D (pl p) ∧ dC D (pl p) = true ∧ pl p < x) ∧ (∀ p q, p < q → q < m → ahd D (pl p) (pl q)) ∧ (∀ h, h < x → dC D h = true → ∃ p, p < m ∧ pl p = h) ∧ ∀ p, p < m → gI τ 25 p = 0
def insP (pl : Nat → Nat) (q h : Nat) : Nat → Nat := fun p => if p < q then pl p else if p = q then h else pl (p - 1)
theorem insP_lt {pl : Nat → Nat} {q h p : Nat} (c : p < q) : insP pl q h p = pl p := if_pos c
theorem insP_eq {pl : Nat → Nat} {q h : Nat} : insP pl q h q = h := by
  unfold insP
  rw [if_neg (by omega), if_pos rfl]
theorem insP_gt {pl : Nat → Nat} {q h p : Nat} (c : q < p) : insP pl q h p = pl (p - 1) := by
  unfold insP
  rw [if_neg (by omega), if_neg (by omega)]
/-- midway: place q is free -/
def PJ (D : Dat) (τ τ' : Mem) (m : Nat) (pl : Nat → Nat) (x q : Nat) : Prop := Fr S3 τ τ' ∧ q ≤ m ∧ (∀ p, p < q → gI τ' 22 p = nI (pl p) ∧ gI τ' 23 p = nI (dK D (pl p)) ∧ gI τ' 24 p = dTm D (pl p)) ∧ (∀ p, q ≤ p → p < m → gI τ' 22 (p + 1) = nI (pl p) ∧ gI τ' 23 (p + 1) = nI (dK D (pl p)) ∧ gI τ' 24 (p + 1) = dTm D (pl p)) ∧ ∀ p, q ≤ p → p < m → dM D x < dM D (pl p)
def shK (τ : Mem) (q : Nat) : Mem := sI (sI (sI τ 22 (q + 1) (gI τ 22 q)) 23 (q + 1) (gI τ 23 q)) 24 (q + 1) (gI τ 24 q)
theorem PJ.shift {D : Dat} {τ τ' : Mem} {m : Nat} {pl : Nat → Nat} {x q : Nat} (h : PJ D τ τ' m pl x (q + 1)) (hx : dM D x < dM D (pl q)) : PJ D τ (shK τ' q) m pl x q := by
  obtain ⟨h1, h2, h3, h4, h5⟩ := h
  refine ⟨?_, by omega, fun p hp => ?_, fun p hp1 hp2 => ?_, fun p hp1 hp2 => ?_⟩
  · unfold shK
    exact ((h1.put (Or.inl rfl)).put (Or.inr (Or.inl rfl))).put (Or.inr (Or.inr rfl))
  · unfold shK
    have := h3 p (by omega)
    refine ⟨?_, ?_, ?_⟩
    · rw [gI_off (by omega), gI_off (by omega), gI_off (by omega)]; exact this.1
    · rw [gI_off (by omega), gI_off (by omega), gI_off (by omega)]; exact this.2.1
    · rw [gI_off (by omega), gI_off (by omega), gI_off (by omega)]; exact this.2.2
  · unfold shK
    by_cases c : p = q
    · subst c
      have := h3 p (by omega)
      refine ⟨?_, ?_, ?_⟩
      · rw [gI_off (by omega), gI_off (by omega), gI_on ⟨rfl, rfl⟩]; exact this.1
      · rw [gI_off (by omega), gI_on ⟨rfl, rfl⟩]; exact this.2.1
      · rw [gI_on ⟨rfl, rfl⟩]; exact this.2.2
    · have := h4 p (by omega) hp2
      refine ⟨?_, ?_, ?_⟩
      · rw [gI_off (by omega), gI_off (by omega), gI_off (by omega)]; exact this.1
      · rw [gI_off (by omega), gI_off (by omega), gI_off (by omega)]; exact this.2.1
      · rw [gI_off (by omega), gI_off (by omega), gI_off (by omega)]; exact this.2.2
  · by_cases c : p = q
    · rw [c]; exact hx
    · exact h5 p (by omega) hp2
def finK (τ : Mem) (m q : Nat) (a b c : Int32) : Mem := sI (sI (sI (sI (sI τ 22 q a) 23 q b) 24 q c) 25 m 0) 21 4 (nI (m + 1))
theorem PJ.fin {D : Dat} {τ τ' : Mem} {m : Nat} {pl : Nat → Nat} {x q : Nat} (h0 : PX D τ m pl x) (hc : dC D x = true) (h : PJ D τ τ' m pl x q) (hx : ∀ p, p < q → dM D (pl p) ≤ dM D x) : PX D (finK τ' m q (nI x) (nI (dK D x)) (dTm D x)) (m + 1) (insP pl q x) (x + 1) ∧ Fr SC τ (finK τ' m q (nI x) (nI (dK D x)) (dTm D x)) := by
  obtain ⟨h1, h2, h3, h4, h5⟩ := h
  obtain ⟨k1, k2, k3, k4, k5, k6⟩ := h0
  refine ⟨⟨?_, by omega, fun p hp => ?_, fun p r hpr hr => ?_, fun y hy hcy => ?_, fun p hp => ?_⟩, ?_⟩
  · unfold finK; rw [gI_on ⟨rfl, rfl⟩]
  · have e : ∀ k, 22 ≤ k → k ≤ 24 → gI (finK τ' m q (nI x) (nI (dK D x)) (dTm D x)) k p = if p = q then (if k = 22 then nI x else if k = 23 then nI (dK D x) else dTm D x) else gI τ' k p := by
      intro k hk1 hk2
      unfold finK
      rw [gI_off (by omega), gI_off (by omega)]
      by_cases c : p = q
      · rw [if_pos c]
        rcases (by omega : k = 22 ∨ k = 23 ∨ k = 24) with c2 | c2 | c2
        · rw [gI_off (by omega), gI_off (by omega), gI_on ⟨c2, c⟩, if_pos c2]
        · rw [gI_off (by omega), gI_on ⟨c2, c⟩, if_neg (by omega), if_pos c2]
        · rw [gI_on ⟨c2, c⟩, if_neg (by omega), if_neg (by omega)]
      · rw [if_neg c, gI_off (by omega), gI_off (by omega), gI_off (by omega)]
    rw [e 22 (by omega) (by omega), e 23 (by omega) (by omega), e 24 (by omega) (by omega)]
    rcases Nat.lt_trichotomy p q with c | c | c
    · rw [if_neg (by omega), if_neg (by omega), if_neg (by omega), insP_lt c]
      have a := h3 p c
      have b := k3 p (by omega)
      exact ⟨a.1, a.2.1, a.2.2, b.2.2.2.1, by omega⟩
    · rw [if_pos c, if_pos c, if_pos c, c, insP_eq]
      exact ⟨rfl, rfl, rfl, hc, by omega⟩
    · rw [if_neg (by omega), if_neg (by omega), if_neg (by omega), insP_gt c]
      have a := h4 (p - 1) (by omega) (by omega)
      have b := k3 (p - 1) (by omega)
      rw [show p - 1 + 1 = p by omega] at a
      exact ⟨a.1, a.2.1, a.2.2, b.2.2.2.1, by omega⟩
  · rcases Nat.lt_trichotomy p q with c | c | c
    · rw [insP_lt c]
      rcases Nat.lt_trichotomy r q with c2 | c2 | c2
      · rw [insP_lt c2]; exact k4 p r hpr (by omega)
      · rw [c2, insP_eq]
        have a := hx p c
        have b := (k3 p (by omega)).2.2.2.2
        unfold ahd
        omega
      · rw [insP_gt c2]; exact k4 p (r - 1) (by omega) (by omega)
    · rw [c, insP_eq, insP_gt (by omega)]
      exact Or.inl (h5 (r - 1) (by omega) (by omega))
    · rw [insP_gt c, insP_gt (by omega)]
      exact k4 (p - 1) (r - 1) (by omega) (by omega)
  · by_cases c : y = x
    · exact ⟨q, by omega, by rw [insP_eq]; exact c.symm⟩
    · obtain ⟨p, p1, p2⟩ := k5 y (by omega) hcy
      rcases Nat.lt_or_ge p q with c2 | c2
      · exact ⟨p, by omega, by rw [insP_lt c2]; exact p2⟩
      · exact ⟨p + 1, by omega, by rw [insP_gt (by omega)]; exact p2⟩
  · unfold finK
    rw [gI_off (by omega)]
    by_cases c : p = m
    · rw [gI_on ⟨rfl, c⟩]
    · rw [gI_off (by omega), gI_off (by omega), gI_off (by omega), gI_off (by omega), h1.1 _ _ (fun z => by unfold S3 at z; omega)]
      exact k6 p (by omega)
  · unfold finK
    have f : Fr SC τ τ' := h1.mono (fun k j z => by unfold S3 at z; unfold SC; omega)
    exact ((((f.put (Or.inl rfl)).put (Or.inr (Or.inl rfl))).put (Or.inr (Or.inr (Or.inl rfl)))).put (Or.inr (Or.inr (Or.inr (Or.inl rfl))))).put (Or.inr (Or.inr (Or.inr (Or.inr ⟨rfl, rfl⟩))))
def spX4_insert : SP := G [(2, [21]), (0, []), (0, []), (0, [])] (fun vs τ K => ∃ (D : Dat) (m x : Nat) (pl : Nat → Nat), vs = [.ref 21, .int (nI x), .int (nI (dK D x)), .int (dTm D x)] ∧ okD D ∧ dC D x = true ∧ PX D τ m pl x ∧ ∀ τ' pl', Fr SC τ τ' → PX D τ' (m + 1) pl' (x + 1) → K none τ')
theorem mnX4_insert : Mono spX4_insert := fun vs σ K1 K2 hK h => by
  obtain ⟨h1, D, m, x, pl, g1, g2, g3, g4, g5⟩ := h
  exact ⟨h1, D, m, x, pl, g1, g2, g3, g4, fun τ' pl' q1 q2 => hK _ _ (g5 τ' pl' q1 q2)⟩
set_option maxHeartbeats 4000000 in
theorem bdX4_insert : Body 5 pgX4_insert roM csX4_insert lcX4 false spX4_insert := by
  intro vs τ K h Ok hst
  obtain ⟨-, D, m, x, pl, rfl, ok, hc, hPX, hk⟩ := h
  have hx := ok.2.1 x hc
  have hH := ok.1.2
  have hmx := hPX.2.1
  have exit : ∀ q τ', PJ D τ τ' m pl x q → (∀ p, p < q → dM D (pl p) ≤ dM D x) → Ok 45 [some (.ref 21), some (.int (nI x)), some (.int (nI (dK D x))), some (.int (dTm D x)), some (.int (nI q))] [] τ' := by
    intro q τ' hJ hq
    obtain ⟨f1, f2⟩ := hJ.fin hPX hc hq
    have hqm := hJ.2.1
    have e4 : gI τ' 21 4 = nI m := by rw [hJ.1.1 _ _ (fun z => by unfold S3 at z; omega)]; exact hPX.1
    have fk := hk _ _ f2 f1
    have vq : vp_in (nI q) 240 := inI (by omega) (by decide)
    have vm : vp_in (gI τ' 21 4) 240 := by rw [e4]; exact inI (by omega) (by decide)
    have fk : K none (sI (sI (sI (sI (sI τ' 22 (rI (nI q)) (nI x)) 23 (rI (nI q)) (nI (dK D x))) 24 (rI (nI q)) (dTm D x)) 25 (rI (gI τ' 21 4)) (vp_nar .boolean 0)) 21 4 (gI τ' 21 4 + 1)) := by
      rw [nb0, e4, nI_1, rI_nI (by omega), rI_nI (by omega)]
      exact fk
    refine hst [] 60 _ _ _ _ ?_
    exact And.intro vq (And.intro vq (And.intro vq (And.intro vm fk)))
  have loop : ∀ q τ', PJ D τ τ' m pl x q → Ok 3 [some (.ref 21), some (.int (nI x)), some (.int (nI (dK D x))), some (.int (dTm D x)), some (.int (nI q))] [] τ' := by
    intro q
    induction q with
    | zero =>
      intro τ' hJ
      refine hst [45] 60 _ _ _ _ ?_
      exact br_t (by decide) (exit 0 τ' hJ (fun p hp => absurd hp (Nat.not_lt_zero p)))
    | succ q ih =>
      intro τ' hJ
      have hqm := hJ.2.1
      have np : ¬ nI (q + 1) ≤ 0 := nI_nle (by omega) (by omega)
      have e1 : nI (q + 1) - 1 = nI q := nI_pred q
      have v1 : vp_in (nI (q + 1) - 1) 240 := by rw [e1]; exact inI (by omega) (by decide)
      have v2 : vp_in (nI (q + 1)) 240 := inI (by omega) (by decide)
      have r1 : rI (nI (q + 1) - 1) = q := by rw [e1]; exact rI_nI (by omega)
      have r2 : rI (nI (q + 1)) = q + 1 := rI_nI (by omega)
      have a := hJ.2.2.1 q (by omega)
      have et : gI τ' 24 (rI (nI (q + 1) - 1)) = dTm D (pl q) := by rw [r1]; exact a.2.2
      by_cases c : dM D (pl q) ≤ dM D x
      · have le : gI τ' 24 (rI (nI (q + 1) - 1)) ≤ dTm D x := by rw [et, leI]; exact c
        refine hst [45] 60 _ _ _ _ ?_
        refine br_f np (And.intro v1 (br_t le (exit (q + 1) τ' hJ (fun p hp => ?_))))
        rcases Nat.lt_or_ge p q with y | y
        · have := hPX.2.2.2.1 p q y (by omega)
          unfold ahd at this
          omega
        · have : p = q := by omega
          rw [this]; exact c
      · have nle : ¬ gI τ' 24 (rI (nI (q + 1) - 1)) ≤ dTm D x := by rw [et, leI]; exact c
        have nx := ih _ (hJ.shift (by omega))
        have nx : Ok 3 [some (.ref 21), some (.int (nI x)), some (.int (nI (dK D x))), some (.int (dTm D x)), some (.int (nI (q + 1) + (-1)))] [] (sI (sI (sI τ' 22 (rI (nI (q + 1))) (gI τ' 22 (rI (nI (q + 1) - 1)))) 23 (rI (nI (q + 1))) (gI τ' 23 (rI (nI (q + 1) - 1)))) 24 (rI (nI (q + 1))) (gI τ' 24 (rI (nI (q + 1) - 1)))) := by
          rw [pk_m1, r1, r2]
          exact nx
        refine hst [3, 45] 60 _ _ _ _ ?_
        exact br_f np (And.intro v1 (br_f nle (And.intro v1 (And.intro v2 (And.intro v1 (And.intro v2 (And.intro v1 (And.intro v2 nx))))))))
  have l0 := loop m τ ⟨Fr.refl S3 τ, Nat.le_refl _, fun p hp => ⟨(hPX.2.2.1 p hp).1, (hPX.2.2.1 p hp).2.1, (hPX.2.2.1 p hp).2.2.1⟩, fun p h1 h2 => by omega, fun p h1 h2 => by omega⟩
  rw [← hPX.1] at l0
  refine hst [3] 60 _ _ _ _ ?_
  exact l0
def csX9_collectHits : Cs := [(150, 1, true, spX9_timePutRight), (156, 1, true, spX5_amountOf), (159, 1, true, spX9_isLookedAt), (253, 0, true, spX4_clear), (254, 3, true, spX4_insert)]
/-- the numbers D are those of the memory -/
def DX (D : Dat) (τ : Mem) (lo : Int32) : Prop := gI τ 4 4 = nI (nHD D) ∧ cn (gI τ 9 3) 20 ∧ cn (gI τ 13 3) 20 ∧ ∀ h, h < nHD D → gI τ 5 h = nI (dK D h) ∧ tprT τ h = dTm D h ∧ (dC D h = true ↔ ¬ gI τ 5 h = lo ∧ gI τ 29 3 ≤ amT (gI τ 7 h) (gI τ 8 h) ∧ ¬ dwnT τ h)
theorem DX.fr {D : Dat} {S : Nat → Nat → Prop} {τ τ' : Mem} {lo : Int32} (h : DX D τ lo) (f : Fr S τ τ') (hS : ∀ k j, S k j → ¬ ((4 ≤ k ∧ k ≤ 16) ∨ k = 29)) : DX D τ' lo := by
  have g : ∀ k, ((4 ≤ k ∧ k ≤ 16) ∨ k = 29) → gI τ' k = gI τ k := fun k hk => funext fun j => f.1 _ _ (fun z => hS _ _ z hk)
  obtain ⟨h1, h2, h3, h4⟩ := h
  refine ⟨by rw [g 4 (by omega)]; exact h1, by rw [g 9 (by omega)]; exact h2, by rw [g 13 (by omega)]; exact h3, fun h hh => ?_⟩
  have := h4 h hh
  unfold tprT dwnT at *
  rw [g 5 (by omega), g 6 (by omega), g 7 (by omega), g 8 (by omega), g 9 (by omega), g 10 (by omega), g 11 (by omega), g 12 (by omega), g 13 (by omega), g 14 (by omega), g 15 (by omega), g 16 (by omega), g 29 (by omega)]
  exact this
theorem SC_dx : ∀ k j, SC k j → ¬ ((4 ≤ k ∧ k ≤ 16) ∨ k = 29) := fun k j h => by unfold SC at h; omega
def spX9_collectHits : SP := G [(2, [0]), (0, [])] (fun vs τ K => ∃ (D : Dat) (lo : Int32), vs = [.ref 0, .int lo] ∧ okD D ∧ DX D τ lo ∧ ∀ τ' m pl, Fr SC τ τ' → PL D τ' m pl → TS τ' m (fun _ => False) → K none τ')
theorem mnX9_collectHits : Mono spX9_collectHits := fun vs σ K1 K2 hK h => by
  obtain ⟨h1, D, lo, g1, g2, g3, g4⟩ := h
  exact ⟨h1, D, lo, g1, g2, g3, fun τ' m pl q1 q2 q3 => hK _ _ (g4 τ' m pl q1 q2 q3)⟩
set_option maxHeartbeats 4000000 in
theorem bdX9_collectHits : Body 4 pgX9_collectHits roM csX9_collectHits lcX9 false spX9_collectHits := by
  intro vs τ K h Ok hst
  obtain ⟨-, D, lo, rfl, ok, hD, hk⟩ := h
  have hH := ok.1.2
  have h30 := ok.1.1
  have loop : ∀ d x τ' m pl, x + d = nHD D → Fr SC τ τ' → PX D τ' m pl x → ∀ x3, Ok 5 [some (.ref 0), some (.int lo), some (.int (nI x)), x3] [] τ' := by
    intro d
    induction d with
    | zero =>
      intro x τ' m pl hx hF hP x3
      have hD' := hD.fr hF SC_dx
      have e : x = nHD D := by omega
      have le : gI τ' 4 4 ≤ nI x := by rw [hD'.1, e]; exact Int32.le_refl _
      obtain ⟨p1, p2, p3, p4, p5, p6⟩ := hP
      have fk := hk τ' m pl hF ⟨p1, by omega, fun p hp => ⟨(p3 p hp).1, (p3 p hp).2.1, (p3 p hp).2.2.1, (p3 p hp).2.2.2.1⟩, p4, fun h hc => p5 h (by have := ok.2.1 h hc; omega) hc⟩ (fun p hp => Or.inl ⟨p6 p hp, id⟩)
      refine hst [5] 60 _ _ _ _ ?_
      exact br_t le fk
    | succ d ih =>
      intro x τ' m pl hx hF hP x3
      have hD' := hD.fr hF SC_dx
      have nle : ¬ gI τ' 4 4 ≤ nI x := by rw [hD'.1]; exact nI_ge (by omega) (by omega)
      have vx : vp_in (nI x) 240 := inI (by omega) (by decide)
      have rx : rI (nI x) = x := rI_nI (by omega)
      obtain ⟨d1, d2, d3⟩ := hD'.2.2.2 x (by omega)
      have e5 : gI τ' 5 (rI (nI x)) = nI (dK D x) := by rw [rx]; exact d1
      have r3 : rI 3 = 3 := by decide
      have v34 : vp_in 3 4 := inI (n := 3) (by decide) (by decide)
      have skip : dC D x = false → ∀ x3, Ok 5 [some (.ref 0), some (.int lo), some (.int (nI x + 1)), x3] [] τ' := by
        intro c x3
        rw [nI_1]
        obtain ⟨p1, p2, p3, p4, p5, p6⟩ := hP
        refine ih (x + 1) τ' m pl (by omega) hF ⟨p1, by omega, fun p hp => ⟨(p3 p hp).1, (p3 p hp).2.1, (p3 p hp).2.2.1, (p3 p hp).2.2.2.1, by have := (p3 p hp).2.2.2.2; omega⟩, p4, fun h hh hc => ?_, p6⟩ x3
        rcases Nat.lt_or_ge h x with y | y
        · exact p5 h y hc
        · have : h = x := by omega
          rw [this, c] at hc
          cases hc
      have no : ¬ (¬ gI τ' 5 x = lo ∧ gI τ' 29 3 ≤ amT (gI τ' 7 x) (gI τ' 8 x) ∧ ¬ dwnT τ' x) → dC D x = false := fun z => by
        cases e : dC D x with
        | false => rfl
        | true => exact absurd (d3.mp e) z
      have h16 : Ok 16 [some (.ref 0), some (.int lo), some (.int (nI x)), some (.int (nI (dK D x)))] [] τ' := by
        by_cases c1 : gI τ' 5 x = lo
        · have c1' : nI (dK D x) = lo := by rw [← d1]; exact c1
          refine hst [5] 60 _ _ _ _ ?_
          exact br_t c1' (skip (no (fun z => z.1 c1)) _)
        · have c1' : ¬ nI (dK D x) = lo := by rw [← d1]; exact c1
          by_cases c2 : gI τ' 29 3 ≤ amT (gI τ' 7 x) (gI τ' 8 x)
          · have c2' : ¬ amT (gI τ' 7 (rI (nI x))) (gI τ' 8 (rI (nI x))) < gI τ' 29 (rI 3) := by rw [rx, r3]; exact Int32.not_lt.mpr c2
            by_cases c3' : dwnT τ' x
            · have c4' : (if gI τ' 6 (rI (nI x)) < endF (gI τ' 14) (gI τ' 15) (gI τ' 16) (gI τ' 5 (rI (nI x))) (gI τ' 6 (rI (nI x))) (rI (gI τ' 13 3)) then (0 : Int32) else 1) = 0 := by rw [rx]; exact if_pos c3'
              refine hst [5] 60 _ _ _ _ ?_
              exact br_f c1' (c4 (Nat.le_of_ble_eq_true rfl) rfl vx (And.intro v34 (br_f c2' (c4 (Nat.le_of_ble_eq_true rfl) rfl ⟨vx, hD'.2.2.1⟩ (br_t c4' (skip (no (fun z => z.2.2 c3')) _))))))
            · have c4' : ¬ (if gI τ' 6 (rI (nI x)) < endF (gI τ' 14) (gI τ' 15) (gI τ' 16) (gI τ' 5 (rI (nI x))) (gI τ' 6 (rI (nI x))) (rI (gI τ' 13 3)) then (0 : Int32) else 1) = 0 := by
                rw [rx]
                have : (if gI τ' 6 x < endF (gI τ' 14) (gI τ' 15) (gI τ' 16) (gI τ' 5 x) (gI τ' 6 x) (rI (gI τ' 13 3)) then (0 : Int32) else 1) = 1 := if_neg c3'
                rw [this]; decide
              have yes : dC D x = true := d3.mpr ⟨c1, c2, c3'⟩
              have call : spX4_insert [.ref 21, .int (nI x), .int (nI (dK D x)), .int (tprT τ' (rI (nI x)))] τ' (fun _ σ' => Ok 5 [some (.ref 0), some (.int lo), some (.int (nI x + 1)), some (.int (nI (dK D x)))] [] σ') := by
                rw [rx, d2]
                refine And.intro rfl ⟨D, m, x, pl, rfl, ok, yes, hP, fun τ'' pl'' f1 f2 => ?_⟩
                rw [nI_1]
                exact ih (x + 1) τ'' (m + 1) pl'' (by omega) (hF.trans f1) f2 _
              refine hst [5] 60 _ _ _ _ ?_
              exact br_f c1' (c4 (Nat.le_of_ble_eq_true rfl) rfl vx (And.intro v34 (br_f c2' (c4 (Nat.le_of_ble_eq_true rfl) rfl ⟨vx, hD'.2.2.1⟩ (br_f c4' (c4 (Nat.le_of_ble_eq_true rfl) rfl ⟨vx, hD'.2.1⟩ (And.intro (Nat.le_of_ble_eq_true rfl) call)))))))
          · have c2' : amT (gI τ' 7 (rI (nI x))) (gI τ' 8 (rI (nI x))) < gI τ' 29 (rI 3) := by rw [rx, r3]; exact Int32.not_le.mp c2
            refine hst [5] 60 _ _ _ _ ?_
            exact br_f c1' (c4 (Nat.le_of_ble_eq_true rfl) rfl vx (And.intro v34 (br_t c2' (skip (no (fun z => c2 z.2.1)) _))))
      rw [← e5] at h16
      refine hst [5, 16] 60 _ _ _ _ ?_
      exact br_f nle (And.intro vx h16)
  have p0 : PX D (sI τ 21 4 0) 0 (fun _ => 0) 0 := ⟨gI_on ⟨rfl, rfl⟩, Nat.le_refl _, fun p hp => absurd hp (Nat.not_lt_zero p), fun p q _ hq => absurd hq (Nat.not_lt_zero q), fun h hh => absurd hh (Nat.not_lt_zero h), fun p hp => absurd hp (Nat.not_lt_zero p)⟩
  have l0 := loop (nHD D) 0 (sI τ 21 4 0) 0 (fun _ => 0) (Nat.zero_add _) ((Fr.refl SC τ).put (Or.inr (Or.inr (Or.inr (Or.inr ⟨rfl, rfl⟩))))) p0 none
  refine hst [5] 60 _ _ _ _ ?_
  exact And.intro (Nat.le_of_ble_eq_true rfl) (And.intro rfl l0)
