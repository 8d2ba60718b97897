/-! the reference's groups -/
def sqM (σ : Mem) (a b : Nat) : Int32 := (gI σ 43 a - gI σ 43 b) * (gI σ 43 a - gI σ 43 b) + (gI σ 44 a - gI σ 44 b) * (gI σ 44 a - gI σ 44 b)
def RM (D : Dat) (τ : Mem) : Prop := (∀ a b, a < nTD D → b < nTD D → (sqM τ a b ≤ gI τ 58 1 * gI τ 58 1 ↔ dL D a b)) ∧ (gI τ 58 0).toInt = dW D ∧ gI τ 58 2 = nI (lsD D) ∧ lsD D ≤ 12 ∧ gI τ 42 2 = nI (nTD D) ∧ gI τ 42 5 = nI (nHD D)
theorem RM.fr {D : Dat} {S : Nat → Nat → Prop} {τ τ' : Mem} (h : RM D τ) (f : Fr S τ τ') (hS : ∀ k j, S k j → ¬ (k = 43 ∨ k = 44 ∨ k = 58 ∨ (k = 42 ∧ (j = 2 ∨ j = 5)))) : RM D τ' := by
  obtain ⟨h1, h2, h3, h4, h5, h6⟩ := h
  have g : ∀ j, gI τ' 58 j = gI τ 58 j := fun j => f.1 _ _ (fun z => hS _ _ z (by omega))
  have g3 : ∀ j, gI τ' 43 j = gI τ 43 j := fun j => f.1 _ _ (fun z => hS _ _ z (by omega))
  have g4 : ∀ j, gI τ' 44 j = gI τ 44 j := fun j => f.1 _ _ (fun z => hS _ _ z (by omega))
  refine ⟨fun a b ha hb => ?_, by rw [g]; exact h2, by rw [g]; exact h3, h4, ?_, ?_⟩
  · have := h1 a b ha hb
    unfold sqM at *
    rw [g, g3, g3, g4, g4]
    exact this
  · rw [f.1 _ _ (fun z => hS _ _ z (by omega))]; exact h5
  · rw [f.1 _ _ (fun z => hS _ _ z (by omega))]; exact h6
def RG (D : Dat) (τ : Mem) : Prop := ∀ h, h < nHD D → gI τ 60 h = dTm D h ∧ gI τ 45 h = nI (dK D h)
theorem RG.fr {D : Dat} {S : Nat → Nat → Prop} {τ τ' : Mem} (h : RG D τ) (f : Fr S τ τ') (hS : ∀ k j, S k j → ¬ (k = 45 ∨ k = 60)) : RG D τ' := fun x hx => by
  rw [f.1 _ _ (fun z => hS _ _ z (by omega)), f.1 _ _ (fun z => hS _ _ z (by omega))]
  exact h x hx
def nrP (D : Dat) (g h : Nat) : Prop := dK D g ≠ dK D h ∧ (dM D g - dM D h ≤ dW D ∧ dM D h - dM D g ≤ dW D) ∧ dL D (dK D g) (dK D h)
theorem neg_w {w : Int32} {W : Int} (h : w.toInt = W) (h0 : 0 ≤ W) (h1 : W ≤ 300) : (-w).toInt = -W := by
  rw [Int32.toInt_neg, h, bm32 (by omega) (by omega)]
def csX10_isNear : Cs := []
def spX10_isNear : SP := G [(2, [42]), (0, []), (0, [])] (fun vs τ K => ∃ (D : Dat) (g h : Nat), vs = [.ref 42, .int (nI g), .int (nI h)] ∧ okD D ∧ RM D τ ∧ RG D τ ∧ g < nHD D ∧ h < nHD D ∧ (nrP D g h → K (some (.int 1)) τ) ∧ (¬ nrP D g h → K (some (.int 0)) τ))
theorem mnX10_isNear : Mono spX10_isNear := fun vs σ K1 K2 hK h => by
  obtain ⟨h1, D, g, h, g1, g2, g3, g4, g5, g6, g7, g8⟩ := h
  exact ⟨h1, D, g, h, g1, g2, g3, g4, g5, g6, fun q => hK _ _ (g7 q), fun q => hK _ _ (g8 q)⟩
set_option maxHeartbeats 4000000 in
theorem bdX10_isNear : Body 8 pgX10_isNear roM csX10_isNear lcX10 true spX10_isNear := by
  intro vs τ K h Ok hst
  obtain ⟨-, D, g, h, rfl, ok, hR, hG, hg, hh, hT, hF⟩ := h
  have hH := ok.1.2
  have h30 := ok.1.1
  have vg : vp_in (nI g) 240 := inI (by omega) (by decide)
  have vh : vp_in (nI h) 240 := inI (by omega) (by decide)
  have rg : rI (nI g) = g := rI_nI (by omega)
  have rh : rI (nI h) = h := rI_nI (by omega)
  have kg := (ok.2.2.1 g hg).1
  have kh := (ok.2.2.1 h hh).1
  have va : vp_in (nI (dK D g)) 30 := inI (by omega) (by decide)
  have vb : vp_in (nI (dK D h)) 30 := inI (by omega) (by decide)
  have v04 : vp_in 0 4 := inI (n := 0) (by decide) (by decide)
  have v14 : vp_in 1 4 := inI (n := 1) (by decide) (by decide)
  have r0 : rI 0 = 0 := by decide
  have r1 : rI 1 = 1 := by decide
  have ds := d_sub ok hg hh
  have hW := ok.2.2.2.2.1
  have nw := neg_w hR.2.1 hW.1 hW.2
  have ra : rI (nI (dK D g)) = dK D g := rI_nI (by omega)
  have rb : rI (nI (dK D h)) = dK D h := rI_nI (by omega)
  have sq : (gI τ 43 (rI (nI (dK D g))) - gI τ 43 (rI (nI (dK D h)))) * (gI τ 43 (rI (nI (dK D g))) - gI τ 43 (rI (nI (dK D h)))) + (gI τ 44 (rI (nI (dK D g))) - gI τ 44 (rI (nI (dK D h)))) * (gI τ 44 (rI (nI (dK D g))) - gI τ 44 (rI (nI (dK D h)))) = sqM τ (dK D g) (dK D h) := by rw [ra, rb]; rfl
  have h20 : Ok 20 [some (.ref 42), some (.int (nI g)), some (.int (nI h)), some (.int (dTm D g - dTm D h)), some (.int (nI (dK D g))), some (.int (nI (dK D h))), none, none] [] τ := by
    refine hst [] 80 _ _ _ _ ?_
    refine And.intro va (And.intro vb (And.intro va (And.intro vb ?_)))
    by_cases c1 : dK D g = dK D h
    · refine br_t (by rw [c1]) ?_
      exact And.intro (Or.inl rfl) (hF (fun z => z.1 c1))
    · refine br_f (fun z => c1 ((nI_eq (by omega) (by omega)).mp z)) (And.intro v04 ?_)
      by_cases c2 : dM D g - dM D h ≤ dW D
      · have c2' : ¬ gI τ 58 (rI 0) < dTm D g - dTm D h := by rw [r0, ltI, ds, hR.2.1]; omega
        refine br_f c2' (And.intro v04 ?_)
        by_cases d3 : dM D h - dM D g ≤ dW D
        · have d3' : ¬ dTm D g - dTm D h < -gI τ 58 (rI 0) := by rw [r0, ltI, ds, nw]; omega
          refine br_f d3' (And.intro v14 (And.intro v14 ?_))
          by_cases d4 : dL D (dK D g) (dK D h)
          · have d4' : ¬ gI τ 58 (rI 1) * gI τ 58 (rI 1) < (gI τ 43 (rI (nI (dK D g))) - gI τ 43 (rI (nI (dK D h)))) * (gI τ 43 (rI (nI (dK D g))) - gI τ 43 (rI (nI (dK D h)))) + (gI τ 44 (rI (nI (dK D g))) - gI τ 44 (rI (nI (dK D h)))) * (gI τ 44 (rI (nI (dK D g))) - gI τ 44 (rI (nI (dK D h)))) := by
              rw [sq, r1]; exact Int32.not_lt.mpr ((hR.1 _ _ kg kh).mpr d4)
            exact br_f d4' (And.intro (Or.inr rfl) (hT ⟨c1, ⟨c2, d3⟩, d4⟩))
          · have d4' : gI τ 58 (rI 1) * gI τ 58 (rI 1) < (gI τ 43 (rI (nI (dK D g))) - gI τ 43 (rI (nI (dK D h)))) * (gI τ 43 (rI (nI (dK D g))) - gI τ 43 (rI (nI (dK D h)))) + (gI τ 44 (rI (nI (dK D g))) - gI τ 44 (rI (nI (dK D h)))) * (gI τ 44 (rI (nI (dK D g))) - gI τ 44 (rI (nI (dK D h)))) := by
              rw [sq, r1]; exact Int32.not_le.mp (fun z => d4 ((hR.1 _ _ kg kh).mp z))
            exact br_t d4' (And.intro (Or.inl rfl) (hF (fun z => d4 z.2.2)))
        · have d3' : dTm D g - dTm D h < -gI τ 58 (rI 0) := by rw [r0, ltI, ds, nw]; omega
          exact br_t d3' (And.intro (Or.inl rfl) (hF (fun z => d3 z.2.1.2)))
      · have c2' : gI τ 58 (rI 0) < dTm D g - dTm D h := by rw [r0, ltI, ds, hR.2.1]; omega
        exact br_t c2' (And.intro (Or.inl rfl) (hF (fun z => c2 z.2.1.1)))
  have h20 : Ok 20 [some (.ref 42), some (.int (nI g)), some (.int (nI h)), some (.int (gI τ 60 (rI (nI g)) - gI τ 60 (rI (nI h)))), some (.int (gI τ 45 (rI (nI g)))), some (.int (gI τ 45 (rI (nI h)))), none, none] [] τ := by
    rw [rg, rh, (hG g hg).1, (hG g hg).2, (hG h hh).1, (hG h hh).2]
    exact h20
  refine hst [20] 80 _ _ _ _ ?_
  exact And.intro vg (And.intro vh (And.intro vg (And.intro vh h20)))
def csX10_isAhead : Cs := []
def spX10_isAhead : SP := G [(2, [42]), (0, []), (0, [])] (fun vs τ K => ∃ (D : Dat) (g h : Nat), vs = [.ref 42, .int (nI g), .int (nI h)] ∧ okD D ∧ RG D τ ∧ g < nHD D ∧ h < nHD D ∧ (ahd D g h → K (some (.int 1)) τ) ∧ (¬ ahd D g h → K (some (.int 0)) τ))
theorem mnX10_isAhead : Mono spX10_isAhead := fun vs σ K1 K2 hK h => by
  obtain ⟨h1, D, g, h, g1, g2, g4, g5, g6, g7, g8⟩ := h
  exact ⟨h1, D, g, h, g1, g2, g4, g5, g6, fun q => hK _ _ (g7 q), fun q => hK _ _ (g8 q)⟩
set_option maxHeartbeats 4000000 in
theorem bdX10_isAhead : Body 3 pgX10_isAhead roM csX10_isAhead lcX10 true spX10_isAhead := by
  intro vs τ K h Ok hst
  obtain ⟨-, D, g, h, rfl, ok, hG, hg, hh, hT, hF⟩ := h
  have hH := ok.1.2
  have vg : vp_in (nI g) 240 := inI (by omega) (by decide)
  have vh : vp_in (nI h) 240 := inI (by omega) (by decide)
  have eg : gI τ 60 (rI (nI g)) = dTm D g := by rw [rI_nI (by omega)]; exact (hG g hg).1
  have eh : gI τ 60 (rI (nI h)) = dTm D h := by rw [rI_nI (by omega)]; exact (hG h hh).1
  have mg : (dTm D g).toInt = dM D g := rfl
  have mh : (dTm D h).toInt = dM D h := rfl
  refine hst [] 40 _ _ _ _ ?_
  refine And.intro vg (And.intro vh ?_)
  by_cases c1 : dM D g < dM D h
  · refine br_t (by rw [eg, eh, ltI, mg, mh]; exact c1) ?_
    exact And.intro (Or.inr rfl) (hT (Or.inl c1))
  · refine br_f (by rw [eg, eh, ltI, mg, mh]; exact c1) ?_
    refine And.intro vg (And.intro vh ?_)
    by_cases c2 : dM D g = dM D h
    · refine br_t (by rw [eg, eh, eqI, mg, mh]; exact c2) ?_
      by_cases d3 : g < h
      · refine br_f (nI_ge d3 (by omega)) ?_
        exact And.intro (Or.inr rfl) (hT (Or.inr ⟨c2, d3⟩))
      · refine br_t (nI_le (by omega) (by omega)) ?_
        exact And.intro (Or.inl rfl) (hF (fun z => by unfold ahd at z; omega))
    · refine br_f (by rw [eg, eh, eqI, mg, mh]; exact c2) ?_
      exact And.intro (Or.inl rfl) (hF (fun z => by unfold ahd at z; omega))
def csX10_findBest : Cs := []
def S64 (k _j : Nat) : Prop := k = 64
def BT (D : Dat) (τ : Mem) (f : Nat) : Prop := ∀ t, t < nTD D → (gI τ 64 t = -9 ∧ hsT D f t = false) ∨ ∃ h, gI τ 64 t = nI h ∧ bsr D f t h
/-- r's number marks its group -/
def MK (D : Dat) (τ : Mem) (r : Nat) : Prop := dC D r = true ∧ ∀ x, x < nHD D → (gI τ 59 x = nI r ↔ cc D r x)
noncomputable def snH (D : Dat) (r h t : Nat) : Bool := @decide (∃ x, x < h ∧ cc D r x ∧ dK D x = t) (Classical.propDecidable _)
theorem snH_iff {D : Dat} {r h t : Nat} : snH D r h t = true ↔ ∃ x, x < h ∧ cc D r x ∧ dK D x = t := by simp [snH]
theorem snH_no {D : Dat} {r h t : Nat} (n : ¬ ∃ x, x < h ∧ cc D r x ∧ dK D x = t) : snH D r h t = false := by
  cases e : snH D r h t with
  | false => rfl
  | true => exact absurd (snH_iff.mp e) n
theorem snH_same {D : Dat} {r h t : Nat} (n : ¬ (cc D r h ∧ dK D h = t)) : snH D r (h + 1) t = snH D r h t := by
  rw [Bool.eq_iff_iff, snH_iff, snH_iff]
  constructor
  · rintro ⟨x, h1, h2⟩
    rcases Nat.lt_or_ge x h with y | y
    · exact ⟨x, y, h2⟩
    · have : x = h := by omega
      rw [this] at h2
      exact absurd h2 n
  · rintro ⟨x, h1, h2⟩
    exact ⟨x, by omega, h2⟩
/-- the best of the hits ahead of h -/
def BTh (D : Dat) (τ : Mem) (r h : Nat) : Prop := ∀ t, t < nTD D → (gI τ 64 t = -9 ∧ ∀ x, x < h → cc D r x → dK D x ≠ t) ∨ ∃ y, y < h ∧ gI τ 64 t = nI y ∧ cc D r y ∧ dK D y = t ∧ ∀ x, x < h → cc D r x → dK D x = t → x = y ∨ ahd D y x
theorem BTh.skip {D : Dat} {τ : Mem} {r h : Nat} (b : BTh D τ r h) (n : ¬ cc D r h) : BTh D τ r (h + 1) := by
  intro t ht
  rcases b t ht with ⟨a1, a2⟩ | ⟨y, a1, a2, a3, a4, a5⟩
  · refine Or.inl ⟨a1, fun x hx c => ?_⟩
    rcases Nat.lt_or_ge x h with q | q
    · exact a2 x q c
    · have : x = h := by omega
      rw [this] at c
      exact absurd c n
  · refine Or.inr ⟨y, by omega, a2, a3, a4, fun x hx c => ?_⟩
    rcases Nat.lt_or_ge x h with q | q
    · exact a5 x q c
    · have : x = h := by omega
      rw [this] at c
      exact absurd c n
theorem BTh.stay {D : Dat} {τ : Mem} {r h y : Nat} (b : BTh D τ r h) (hy : y < h) (e : gI τ 64 (dK D h) = nI y) (cy : cc D r y) (ky : dK D y = dK D h) (by' : ∀ x, x < h → cc D r x → dK D x = dK D h → x = y ∨ ahd D y x) (a : ahd D y h) : BTh D τ r (h + 1) := by
  intro t ht
  by_cases c : t = dK D h
  · refine Or.inr ⟨y, by omega, by rw [c]; exact e, cy, by rw [c]; exact ky, fun x hx cx kx => ?_⟩
    rcases Nat.lt_or_ge x h with q | q
    · exact by' x q cx (kx.trans c)
    · have : x = h := by omega
      rw [this]; exact Or.inr a
  · rcases b t ht with ⟨a1, a2⟩ | ⟨y', a1, a2, a3, a4, a5⟩
    · refine Or.inl ⟨a1, fun x hx cx => ?_⟩
      rcases Nat.lt_or_ge x h with q | q
      · exact a2 x q cx
      · have : x = h := by omega
        rw [this]; exact Ne.symm c
    · refine Or.inr ⟨y', by omega, a2, a3, a4, fun x hx cx kx => ?_⟩
      rcases Nat.lt_or_ge x h with q | q
      · exact a5 x q cx kx
      · have : x = h := by omega
        rw [this] at kx
        exact absurd kx.symm c
theorem BTh.put {D : Dat} {τ : Mem} {r h : Nat} (b : BTh D τ r h) (ch : cc D r h) (by' : ∀ x, x < h → cc D r x → dK D x = dK D h → ahd D h x) : BTh D (sI τ 64 (dK D h) (nI h)) r (h + 1) := by
  intro t ht
  by_cases c : t = dK D h
  · refine Or.inr ⟨h, by omega, gI_on ⟨rfl, c⟩, ch, c.symm, fun x hx cx kx => ?_⟩
    rcases Nat.lt_or_ge x h with q | q
    · exact Or.inr (by' x q cx (kx.trans c))
    · exact Or.inl (by omega)
  · rw [gI_off (by omega)]
    rcases b t ht with ⟨a1, a2⟩ | ⟨y', a1, a2, a3, a4, a5⟩
    · refine Or.inl ⟨a1, fun x hx cx => ?_⟩
      rcases Nat.lt_or_ge x h with q | q
      · exact a2 x q cx
      · have : x = h := by omega
        rw [this]; exact Ne.symm c
    · refine Or.inr ⟨y', by omega, a2, a3, a4, fun x hx cx kx => ?_⟩
      rcases Nat.lt_or_ge x h with q | q
      · exact a5 x q cx kx
      · have : x = h := by omega
        rw [this] at kx
        exact absurd kx.symm c
def spX10_findBest : SP := G [(2, [42]), (0, [])] (fun vs τ K => ∃ (D : Dat) (r : Nat), vs = [.ref 42, .int (nI r)] ∧ okD D ∧ RM D τ ∧ RG D τ ∧ MK D τ r ∧ ∀ τ', Fr S64 τ τ' → BT D τ' r → K (some (.int (nI (nk D r)))) τ')
theorem mnX10_findBest : Mono spX10_findBest := fun vs σ K1 K2 hK h => by
  obtain ⟨h1, D, r, g1, g2, g3, g4, g5, g6⟩ := h
  exact ⟨h1, D, r, g1, g2, g3, g4, g5, fun τ' q1 q2 => hK _ _ (g6 τ' q1 q2)⟩
set_option maxHeartbeats 4000000 in
theorem bdX10_findBest : Body 5 pgX10_findBest roM csX10_findBest lcX10 false spX10_findBest := by
  intro vs τ K h Ok hst
  obtain ⟨-, D, r, rfl, ok, hR, hG, hM, hk⟩ := h
  have hH := ok.1.2
  have h30 := ok.1.1
  have hr := ok.2.1 r hM.1
  have S64a : ∀ k j, S64 k j → ¬ (k = 43 ∨ k = 44 ∨ k = 58 ∨ (k = 42 ∧ (j = 2 ∨ j = 5))) := fun k j z => by unfold S64 at z; omega
  have S64b : ∀ k j, S64 k j → ¬ (k = 45 ∨ k = 60) := fun k j z => by unfold S64 at z; omega
  have loop : ∀ d h τ', h + d = nHD D → Fr S64 τ τ' → BTh D τ' r h → ∀ x4, Ok 17 [some (.ref 42), some (.int (nI r)), some (.int (nI (ctN (snH D r h) (nTD D)))), some (.int (nI h)), x4] [] τ' := by
    intro d
    induction d with
    | zero =>
      intro h τ' hd hF hB x4
      have hR' := hR.fr hF S64a
      have e : h = nHD D := by omega
      subst e
      have le : gI τ' 42 5 ≤ nI (nHD D) := by rw [hR'.2.2.2.2.2]; exact Int32.le_refl _
      have es : ∀ t, snH D r (nHD D) t = hsT D r t := fun t => by
        rw [Bool.eq_iff_iff, snH_iff, hsT_iff]
        constructor
        · rintro ⟨x, -, x2, x3⟩
          exact ⟨x, x2, x3⟩
        · rintro ⟨x, x2, x3⟩
          exact ⟨x, ok.2.1 x (x2.ct hM.1), x2, x3⟩
      have ec : ctN (snH D r (nHD D)) (nTD D) = nk D r := ctN_congr (fun t _ => es t)
      have bt : BT D τ' r := fun t ht => by
        rcases hB t ht with ⟨a1, a2⟩ | ⟨y, a1, a2, a3, a4, a5⟩
        · refine Or.inl ⟨a1, ?_⟩
          rw [← es t]
          exact snH_no (fun ⟨x, x1, x2, x3⟩ => a2 x x1 x2 x3)
        · exact Or.inr ⟨y, a2, a3, a4, fun x cx kx => a5 x (ok.2.1 x (cx.ct hM.1)) cx kx⟩
      have fk := hk τ' hF bt
      rw [← ec] at fk
      refine hst [17] 60 _ _ _ _ ?_
      exact br_t le fk
    | succ d ih =>
      intro h τ' hd hF hB x4
      have hR' := hR.fr hF S64a
      have hG' := hG.fr hF S64b
      have nle : ¬ gI τ' 42 5 ≤ nI h := by rw [hR'.2.2.2.2.2]; exact nI_ge (by omega) (by omega)
      have vh : vp_in (nI h) 240 := inI (by omega) (by decide)
      have rh : rI (nI h) = h := rI_nI (by omega)
      have e59 : gI τ' 59 h = gI τ 59 h := hF.1 _ _ (fun z => by unfold S64 at z; omega)
      by_cases c : cc D r h
      · have c0 : gI τ' 59 (rI (nI h)) = nI r := by rw [rh, e59]; exact (hM.2 h (by omega)).mpr c
        have kh := (ok.2.2.1 h (by omega)).1
        have e45 : gI τ' 45 (rI (nI h)) = nI (dK D h) := by rw [rh]; exact (hG' h (by omega)).2
        have vk : vp_in (nI (dK D h)) 30 := inI (by omega) (by decide)
        have rk : rI (nI (dK D h)) = dK D h := rI_nI (by omega)
        have eh : gI τ' 60 (rI (nI h)) = dTm D h := by rw [rh]; exact (hG' h (by omega)).1
        have fput : Fr S64 τ (sI τ' 64 (dK D h) (nI h)) := hF.put rfl
        have h33 : Ok 33 [some (.ref 42), some (.int (nI r)), some (.int (nI (ctN (snH D r h) (nTD D)))), some (.int (nI h)), some (.int (nI (dK D h)))] [] τ' := by
          rcases hB (dK D h) kh with ⟨a1, a2⟩ | ⟨y, a1, a2, a3, a4, a5⟩
          · have c1 : gI τ' 64 (rI (nI (dK D h))) = -9 := by rw [rk]; exact a1
            have ec : ctN (snH D r (h + 1)) (nTD D) = ctN (snH D r h) (nTD D) + 1 := ctN_one (a := dK D h) kh (snH_no (fun ⟨x, x1, x2, x3⟩ => a2 x x1 x2 x3)) (snH_iff.mpr ⟨h, by omega, c, rfl⟩) (fun t _ hne => snH_same (fun z => hne z.2.symm))
            have nx := ih (h + 1) _ (by omega) fput (hB.put c (fun x hx cx kx => absurd kx (a2 x hx cx))) (some (.int (nI (dK D h))))
            rw [ec, ← nI_1, ← nI_1] at nx
            have nx2 : Ok 17 [some (.ref 42), some (.int (nI r)), some (.int (nI (ctN (snH D r h) (nTD D)) + 1)), some (.int (nI h + 1)), some (.int (nI (dK D h)))] [] (sI τ' 64 (rI (nI (dK D h))) (nI h)) := by rw [rk]; exact nx
            refine hst [17] 60 _ _ _ _ ?_
            exact And.intro vk (br_t c1 (And.intro vk (br_t c1 (And.intro vk nx2))))
          · have hy : y < nHD D := by omega
            have c1 : ¬ gI τ' 64 (rI (nI (dK D h))) = -9 := by rw [rk, a2]; exact nI_n9 (by omega)
            have ec : ctN (snH D r (h + 1)) (nTD D) = ctN (snH D r h) (nTD D) := ctN_congr (fun t _ => by
              by_cases e : dK D h = t
              · rw [Bool.eq_iff_iff, snH_iff, snH_iff]
                exact ⟨fun _ => ⟨y, a1, a3, a4.trans e⟩, fun _ => ⟨h, by omega, c, e⟩⟩
              · exact snH_same (fun z => e z.2))
            have vy : vp_in (gI τ' 64 (rI (nI (dK D h)))) 240 := by rw [rk, a2]; exact inI (by omega) (by decide)
            have ey : gI τ' 60 (rI (gI τ' 64 (rI (nI (dK D h))))) = dTm D y := by rw [rk, a2, rI_nI (by omega)]; exact (hG' y hy).1
            have mh : (dTm D h).toInt = dM D h := rfl
            have my : (dTm D y).toInt = dM D y := rfl
            by_cases q : dM D y ≤ dM D h
            · have le : gI τ' 60 (rI (gI τ' 64 (rI (nI (dK D h))))) ≤ gI τ' 60 (rI (nI h)) := by rw [ey, eh, leI, mh, my]; exact q
              have nx := ih (h + 1) τ' (by omega) hF (hB.stay a1 a2 a3 a4 a5 (by unfold ahd; omega)) (some (.int (nI (dK D h))))
              rw [ec, ← nI_1, ← Int32.add_zero (nI (ctN (snH D r h) (nTD D)))] at nx
              refine hst [17] 60 _ _ _ _ ?_
              exact And.intro vk (br_f c1 (And.intro vk (br_f c1 (And.intro vh (And.intro vk (And.intro vy (br_t le nx)))))))
            · have nle : ¬ gI τ' 60 (rI (gI τ' 64 (rI (nI (dK D h))))) ≤ gI τ' 60 (rI (nI h)) := by rw [ey, eh, leI, mh, my]; exact q
              have ahy : ahd D h y := Or.inl (by omega)
              have nx := ih (h + 1) _ (by omega) fput (hB.put c (fun x hx cx kx => by
                rcases a5 x hx cx kx with z | z
                · rw [z]; exact ahy
                · exact ahy.trans z)) (some (.int (nI (dK D h))))
              rw [ec, ← nI_1, ← Int32.add_zero (nI (ctN (snH D r h) (nTD D)))] at nx
              have nx2 : Ok 17 [some (.ref 42), some (.int (nI r)), some (.int (nI (ctN (snH D r h) (nTD D)) + 0)), some (.int (nI h + 1)), some (.int (nI (dK D h)))] [] (sI τ' 64 (rI (nI (dK D h))) (nI h)) := by rw [rk]; exact nx
              refine hst [17] 60 _ _ _ _ ?_
              exact And.intro vk (br_f c1 (And.intro vk (br_f c1 (And.intro vh (And.intro vk (And.intro vy (br_f nle (And.intro vk nx2))))))))
        rw [← e45] at h33
        refine hst [17, 33] 60 _ _ _ _ ?_
        exact br_f nle (And.intro vh (br_t c0 (And.intro vh h33)))
      · have c0 : ¬ gI τ' 59 (rI (nI h)) = nI r := by rw [rh, e59]; exact fun z => c ((hM.2 h (by omega)).mp z)
        have ec : ctN (snH D r (h + 1)) (nTD D) = ctN (snH D r h) (nTD D) := ctN_congr (fun t _ => snH_same (fun z => c z.1))
        have nx := ih (h + 1) τ' (by omega) hF (hB.skip c) x4
        rw [ec, ← nI_1] at nx
        refine hst [17] 60 _ _ _ _ ?_
        exact br_f nle (And.intro vh (br_f c0 nx))
  have fill : ∀ d t τ', t + d = nTD D → Fr S64 τ τ' → (∀ t', t' < t → gI τ' 64 t' = -9) → Ok 2 [some (.ref 42), some (.int (nI r)), some (.int (nI t)), none, none] [] τ' := by
    intro d
    induction d with
    | zero =>
      intro t τ' hd hF hB
      have hR' := hR.fr hF S64a
      have e : t = nTD D := by omega
      have le : gI τ' 42 2 ≤ nI t := by rw [hR'.2.2.2.2.1, e]; exact Int32.le_refl _
      have l0 := loop (nHD D) 0 τ' (Nat.zero_add _) hF (fun t' ht' => Or.inl ⟨hB t' (by omega), fun x hx => absurd hx (Nat.not_lt_zero x)⟩) none
      have z0 : ctN (snH D r 0) (nTD D) = 0 := ctN_zero (fun t _ => snH_no (fun ⟨x, x1, _⟩ => absurd x1 (Nat.not_lt_zero x)))
      rw [z0] at l0
      refine hst [2, 17] 60 _ _ _ _ ?_
      exact br_t le l0
    | succ d ih =>
      intro t τ' hd hF hB
      have hR' := hR.fr hF S64a
      have nle : ¬ gI τ' 42 2 ≤ nI t := by rw [hR'.2.2.2.2.1]; exact nI_ge (by omega) (by omega)
      have vt : vp_in (nI t) 30 := inI (by omega) (by decide)
      have rt : rI (nI t) = t := rI_nI (by omega)
      have nx := ih (t + 1) (sI τ' 64 t (-9)) (by omega) (hF.put rfl) (fun t' ht' => by
        by_cases c : t' = t
        · exact gI_on ⟨rfl, c⟩
        · rw [gI_off (by omega)]; exact hB t' (by omega))
      rw [← nI_1] at nx
      have nx2 : Ok 2 [some (.ref 42), some (.int (nI r)), some (.int (nI t + 1)), none, none] [] (sI τ' 64 (rI (nI t)) (-9)) := by rw [rt]; exact nx
      refine hst [2] 60 _ _ _ _ ?_
      exact br_f nle (And.intro vt nx2)
  refine hst [2] 60 _ _ _ _ ?_
  exact fill (nTD D) 0 τ (Nat.zero_add _) (Fr.refl S64 τ) (fun t' ht' => absurd ht' (Nat.not_lt_zero t'))
