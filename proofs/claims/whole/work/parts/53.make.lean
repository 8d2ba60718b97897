def csX10_make : Cs := [(170, 1, true, spX10_join), (177, 1, true, spX10_findBest), (180, 2, true, spX10_isAhead)]
def SM (k j : Nat) : Prop := (59 ≤ k ∧ k ≤ 64) ∨ (k = 42 ∧ j = 26)
theorem root.uniq {D : Dat} (ok : okD D) {r r' x y : Nat} (a : root D r x) (b : root D r' y) (c : cc D r r') : r = r' := by
  have h1 := a.2.2 r' c
  have h2 := b.2.2 r (c.symm ok)
  omega
theorem JG.mk {D : Dat} (ok : okD D) {τ : Mem} (j : JG D τ) {r f : Nat} (a : root D r f) : MK D τ r := by
  have hr := ok.2.1 r a.1
  have hH := ok.1.2
  refine ⟨a.1, fun x hx => ⟨fun e => ?_, fun c => ?_⟩⟩
  · rcases j x hx with ⟨-, z⟩ | ⟨-, r', z1, z2, z3⟩
    · rw [z] at e
      have := nI_pos' (n := r) (by omega)
      rw [← e] at this
      exact absurd this (by decide)
    · rw [z2] at e
      have : r' = r := (nI_eq (by omega) (by omega)).mp e
      rw [← this]
      exact z3.2.1
  · rcases j x hx with ⟨z, -⟩ | ⟨-, r', z1, z2, z3⟩
    · rw [c.ct a.1] at z; cases z
    · rw [z2, a.uniq ok z3 (c.trans (z3.2.1.symm ok))]
theorem JG.rt {D : Dat} (ok : okD D) {τ : Mem} (j : JG D τ) {h : Nat} (hh : h < nHD D) (e : gI τ 59 h = nI h) : root D h h := by
  have hH := ok.1.2
  rcases j h hh with ⟨-, z⟩ | ⟨-, r', z1, z2, z3⟩
  · rw [z] at e
    have := nI_pos' (n := h) (by omega)
    rw [← e] at this
    exact absurd this (by decide)
  · rw [z2] at e
    have : r' = h := (nI_eq (by omega) (by omega)).mp e
    rw [this] at z3
    exact z3
theorem JG.noroot {D : Dat} (ok : okD D) {τ : Mem} (j : JG D τ) {h f : Nat} (hh : h < nHD D) (e : ¬ gI τ 59 h = nI h) : ¬ root D h f := fun a => by
  rcases j h hh with ⟨z, -⟩ | ⟨-, r', z1, z2, z3⟩
  · rw [a.1] at z; cases z
  · rw [z2] at e
    have := z3.uniq ok a z3.2.1
    exact e (by rw [this])
theorem JG.fr {D : Dat} {S : Nat → Nat → Prop} {τ τ' : Mem} (h : JG D τ) (f : Fr S τ τ') (hS : ∀ k j, S k j → ¬ k = 59) : JG D τ' := fun x hx => by
  rw [f.1 _ _ (fun z => hS _ _ z rfl)]
  exact h x hx
def MS (D : Dat) (τ : Mem) (h : Nat) (F Gp : Nat → Nat) (e : Nat) : Prop := gI τ 42 26 = nI e ∧ e ≤ h ∧ (∀ i, i < e → gI τ 63 i = nI (F i) ∧ gI τ 62 i = nI (Gp i) ∧ isE D (F i) ∧ root D (Gp i) (F i) ∧ Gp i < h) ∧ (∀ i j, i < j → j < e → ahd D (F i) (F j)) ∧ ∀ f, isE D f → (∃ r, r < h ∧ root D r f) → ∃ i, i < e ∧ F i = f
theorem MS.skip {D : Dat} {τ τ' : Mem} {S : Nat → Nat → Prop} {h : Nat} {F Gp : Nat → Nat} {e : Nat} (m : MS D τ h F Gp e) (f : Fr S τ τ') (hS : ∀ k j, S k j → ¬ (k = 62 ∨ k = 63 ∨ (k = 42 ∧ j = 26))) (n : ∀ f, isE D f → ¬ root D h f) : MS D τ' (h + 1) F Gp e := by
  obtain ⟨h1, h2, h3, h4, h5⟩ := m
  refine ⟨?_, by omega, fun i hi => ?_, h4, fun f hf ⟨r, r1, r2⟩ => ?_⟩
  · rw [f.1 _ _ (fun z => hS _ _ z (by omega))]; exact h1
  · rw [f.1 _ _ (fun z => hS _ _ z (by omega)), f.1 _ _ (fun z => hS _ _ z (by omega))]
    obtain ⟨a1, a2, a3, a4, a5⟩ := h3 i hi
    exact ⟨a1, a2, a3, a4, by omega⟩
  · rcases Nat.lt_or_ge r h with w | w
    · exact h5 f hf ⟨r, w, r2⟩
    · have : r = h := by omega
      rw [this] at r2
      exact absurd r2 (n f hf)
def S62 (k _j : Nat) : Prop := k = 62 ∨ k = 63
/-- midway: place q is free for y, h -/
def MJ (D : Dat) (τ τ' : Mem) (F Gp : Nat → Nat) (e y q : Nat) : Prop := Fr S62 τ τ' ∧ q ≤ e ∧ (∀ p, p < q → gI τ' 63 p = nI (F p) ∧ gI τ' 62 p = nI (Gp p)) ∧ (∀ p, q ≤ p → p < e → gI τ' 63 (p + 1) = nI (F p) ∧ gI τ' 62 (p + 1) = nI (Gp p)) ∧ ∀ p, q ≤ p → p < e → ahd D y (F p)
theorem MJ.shift {D : Dat} {τ τ' : Mem} {F Gp : Nat → Nat} {e y q : Nat} (h : MJ D τ τ' F Gp e y (q + 1)) (hx : ahd D y (F q)) : MJ D τ (sI (sI τ' 63 (q + 1) (gI τ' 63 q)) 62 (q + 1) (gI τ' 62 q)) F Gp e y q := by
  obtain ⟨h1, h2, h3, h4, h5⟩ := h
  refine ⟨(h1.put (Or.inr rfl)).put (Or.inl rfl), by omega, fun p hp => ?_, fun p hp1 hp2 => ?_, fun p hp1 hp2 => ?_⟩
  · have := h3 p (by omega)
    rw [gI_off (by omega), gI_off (by omega), gI_off (by omega), gI_off (by omega)]
    exact this
  · by_cases c : p = q
    · subst c
      rw [gI_off (by omega), gI_on ⟨rfl, rfl⟩, gI_on ⟨rfl, rfl⟩]
      exact h3 p (by omega)
    · rw [gI_off (by omega), gI_off (by omega), gI_off (by omega), gI_off (by omega)]
      exact h4 p (by omega) hp2
  · by_cases c : p = q
    · rw [c]; exact hx
    · exact h5 p (by omega) hp2
def mdM (τ : Mem) (e q y h : Nat) : Mem := sI (sI (sI τ 63 q (nI y)) 62 q (nI h)) 42 26 (nI (e + 1))
theorem MJ.fin {D : Dat} (ok : okD D) {τ τ' : Mem} {h : Nat} {F Gp : Nat → Nat} {e y q : Nat} (m : MS D τ h F Gp e) (j : MJ D τ τ' F Gp e y q) (hy : isE D y) (ry : root D h y) (hx : ∀ p, p < q → ahd D (F p) y) : MS D (mdM τ' e q y h) (h + 1) (insP F q y) (insP Gp q h) (e + 1) ∧ Fr SM τ (mdM τ' e q y h) := by
  obtain ⟨h1, h2, h3, h4, h5⟩ := m
  obtain ⟨k1, k2, k3, k4, k5⟩ := j
  refine ⟨⟨?_, by omega, fun i hi => ?_, fun p r hpr hr => ?_, fun f hf ⟨r, r1, r2⟩ => ?_⟩, ?_⟩
  · unfold mdM; rw [gI_on ⟨rfl, rfl⟩]
  · unfold mdM
    rcases Nat.lt_trichotomy i q with c | c | c
    · rw [gI_off (by omega), gI_off (by omega), gI_off (by omega), gI_off (by omega), gI_off (by omega), gI_off (by omega), insP_lt c, insP_lt c]
      obtain ⟨a1, a2, a3, a4, a5⟩ := h3 i (by omega)
      exact ⟨(k3 i c).1, (k3 i c).2, a3, a4, by omega⟩
    · subst c
      rw [gI_off (by omega), gI_off (by omega), gI_on ⟨rfl, rfl⟩, gI_off (by omega), gI_on ⟨rfl, rfl⟩, insP_eq, insP_eq]
      exact ⟨rfl, rfl, hy, ry, by omega⟩
    · rw [gI_off (by omega), gI_off (by omega), gI_off (by omega), gI_off (by omega), gI_off (by omega), gI_off (by omega), insP_gt c, insP_gt c]
      obtain ⟨a1, a2, a3, a4, a5⟩ := h3 (i - 1) (by omega)
      have b := k4 (i - 1) (by omega) (by omega)
      rw [show i - 1 + 1 = i by omega] at b
      exact ⟨b.1, b.2, a3, a4, by omega⟩
  · rcases Nat.lt_trichotomy p q with c | c | c
    · rw [insP_lt c]
      rcases Nat.lt_trichotomy r q with c2 | c2 | c2
      · rw [insP_lt c2]; exact h4 p r hpr (by omega)
      · rw [c2, insP_eq]; exact hx p c
      · rw [insP_gt c2]; exact h4 p (r - 1) (by omega) (by omega)
    · rw [c, insP_eq, insP_gt (by omega)]
      exact k5 (r - 1) (by omega) (by omega)
    · rw [insP_gt c, insP_gt (by omega)]
      exact h4 (p - 1) (r - 1) (by omega) (by omega)
  · rcases Nat.lt_or_ge r h with w | w
    · obtain ⟨p, p1, p2⟩ := h5 f hf ⟨r, w, r2⟩
      rcases Nat.lt_or_ge p q with c2 | c2
      · exact ⟨p, by omega, by rw [insP_lt c2]; exact p2⟩
      · exact ⟨p + 1, by omega, by rw [insP_gt (by omega)]; exact p2⟩
    · have e2 : r = h := by omega
      rw [e2] at r2
      refine ⟨q, by omega, ?_⟩
      rw [insP_eq]
      exact hy.2.1.uniq ok hf.2.1 ((ry.2.1.symm ok).trans r2.2.1)
  · unfold mdM
    have f : Fr SM τ τ' := k1.mono (fun k j z => by unfold S62 at z; unfold SM; omega)
    exact ((f.put (Or.inl ⟨by omega, by omega⟩)).put (Or.inl ⟨by omega, by omega⟩)).put (Or.inr ⟨rfl, rfl⟩)
def spX10_make : SP := G [(2, [42]), (0, [])] (fun vs τ K => ∃ (D : Dat) (lo : Int32), vs = [.ref 42, .int lo] ∧ okD D ∧ RM D τ ∧ DXM D τ lo ∧ ∀ (τ' : Mem) (F Gp : Nat → Nat) (e : Nat), Fr SM τ τ' → RG D τ' → JG D τ' → evS D F e → e ≤ nHD D → gI τ' 42 26 = nI e → (∀ i, i < e → gI τ' 62 i = nI (Gp i) ∧ root D (Gp i) (F i)) → K none τ')
theorem mnX10_make : Mono spX10_make := fun vs σ K1 K2 hK h => by
  obtain ⟨h1, D, lo, g1, g2, g3, g4, g5⟩ := h
  exact ⟨h1, D, lo, g1, g2, g3, g4, fun τ' F Gp e q1 q2 q3 q4 q5 q6 q7 => hK _ _ (g5 τ' F Gp e q1 q2 q3 q4 q5 q6 q7)⟩
set_option maxHeartbeats 8000000 in
theorem bdX10_make : Body 5 pgX10_make roM csX10_make lcX10 false spX10_make := by
  intro vs τ K h Ok hst
  obtain ⟨-, D, lo, rfl, ok, hR, hD, hk⟩ := h
  have hH := ok.1.2
  have h30 := ok.1.1
  have SMa : ∀ k j, SM k j → ¬ (k = 43 ∨ k = 44 ∨ k = 58 ∨ (k = 42 ∧ (j = 2 ∨ j = 5))) := fun k j z => by unfold SM at z; omega
  have S64a : ∀ k j, S64 k j → ¬ (k = 43 ∨ k = 44 ∨ k = 58 ∨ (k = 42 ∧ (j = 2 ∨ j = 5))) := fun k j z => by unfold S64 at z; omega
  have S64b : ∀ k j, S64 k j → ¬ (k = 45 ∨ k = 60) := fun k j z => by unfold S64 at z; omega
  have S64m : ∀ k j, S64 k j → ¬ (k = 62 ∨ k = 63 ∨ (k = 42 ∧ j = 26)) := fun k j z => by unfold S64 at z; omega
  have S64s : ∀ k j, S64 k j → SM k j := fun k j z => by unfold S64 at z; unfold SM; omega
  have S62b : ∀ k j, S62 k j → ¬ (k = 45 ∨ k = 60) := fun k j z => by unfold S62 at z; omega
  have v24 : vp_in 2 4 := inI (n := 2) (by decide) (by decide)
  have r2 : rI 2 = 2 := by decide
  have loop : ∀ d h τ' F Gp e, h + d = nHD D → Fr SM τ τ' → RG D τ' → JG D τ' → MS D τ' h F Gp e → ∀ x3 x4, Ok 8 [some (.ref 42), some (.int lo), some (.int (nI h)), x3, x4] [] τ' := by
    intro d
    induction d with
    | zero =>
      intro h τ' F Gp e hd hF hG hJ hM x3 x4
      have hR' := hR.fr hF SMa
      have eh : h = nHD D := by omega
      have le : gI τ' 42 5 ≤ nI h := by rw [hR'.2.2.2.2.2, eh]; exact Int32.le_refl _
      have ev : evS D F e := ⟨hM.2.2.2.1, fun f => ⟨fun hf => by
        have hfl := ok.2.1 f hf.1
        rcases hJ f hfl with ⟨z, -⟩ | ⟨-, r, z1, z2, z3⟩
        · rw [hf.1] at z; cases z
        · exact hM.2.2.2.2 f hf ⟨r, by omega, z3⟩, fun ⟨i, i1, i2⟩ => by
        rw [← i2]; exact (hM.2.2.1 i i1).2.2.1⟩⟩
      have fk := hk τ' F Gp e hF hG hJ ev (by have := hM.2.1; omega) hM.1 (fun i hi => ⟨(hM.2.2.1 i hi).2.1, (hM.2.2.1 i hi).2.2.2.1⟩)
      refine hst [8] 60 _ _ _ _ ?_
      exact br_t le fk
    | succ d ih =>
      intro h τ' F Gp e hd hF hG hJ hM x3 x4
      have hR' := hR.fr hF SMa
      have nle : ¬ gI τ' 42 5 ≤ nI h := by rw [hR'.2.2.2.2.2]; exact nI_ge (by omega) (by omega)
      have vh : vp_in (nI h) 240 := inI (by omega) (by decide)
      have rh : rI (nI h) = h := rI_nI (by omega)
      by_cases c : gI τ' 59 h = nI h
      · have c' : gI τ' 59 (rI (nI h)) = nI h := by rw [rh]; exact c
        have rt := hJ.rt ok (by omega) c
        have mk := hJ.mk ok rt
        have call : spX10_findBest [.ref 42, .int (nI h)] τ' (fun v σ' => ∃ k, v = some (.int (nI k)) ∧ (gI σ' 58 (rI 2) ≤ nI k → Ok 27 [some (.ref 42), some (.int lo), some (.int (nI h)), x3, x4] [] σ') ∧ (¬ gI σ' 58 (rI 2) ≤ nI k → Ok 112 [some (.ref 42), some (.int lo), some (.int (nI h)), x3, x4] [] σ')) := by
          rw [r2]
          refine And.intro rfl ⟨D, h, rfl, ok, hR', hG, mk, fun τ2 hF2 hBT => ⟨nk D h, rfl, ?_⟩⟩
          have hR2 := hR'.fr hF2 S64a
          have hG2 := hG.fr hF2 S64b
          have hJ2 := hJ.fr hF2 (fun k j z => by unfold S64 at z; omega)
          have fr2 : Fr SM τ τ2 := hF.trans (hF2.mono S64s)
          have nk30 : nk D h ≤ 30 := Nat.le_trans (ctN_le _ _) ok.1.1
          have hls := hR2.2.2.2.1
          rw [hR2.2.2.1]
          refine ⟨fun c2 => ?_, fun c2 => ?_⟩
          · have c2 := (nI_leI (by omega) (by omega)).mp c2
            -- the insertion
            have ins : ∀ y, isE D y → root D h y → ∀ q τ3, MJ D τ2 τ3 F Gp e y q → Ok 62 [some (.ref 42), some (.int lo), some (.int (nI h)), some (.int (nI y)), some (.int (nI q))] [] τ3 := by
              intro y hy ry
              have hM2 : MS D τ2 h F Gp e := by
                obtain ⟨m1, m2, m3, m4, m5⟩ := hM
                refine ⟨?_, m2, fun i hi => ?_, m4, m5⟩
                · rw [hF2.1 _ _ (fun z => S64m _ _ z (by omega))]; exact m1
                · rw [hF2.1 _ _ (fun z => S64m _ _ z (by omega)), hF2.1 _ _ (fun z => S64m _ _ z (by omega))]; exact m3 i hi
              have hyl := ok.2.1 y hy.1
              have he := hM.2.1
              have ne : ∀ i, i < e → F i ≠ y := fun i hi z => by
                obtain ⟨-, -, -, a4, a5⟩ := hM.2.2.1 i hi
                rw [z] at a4
                have := a4.uniq ok ry (a4.2.1.trans (ry.2.1.symm ok))
                omega
              have exit : ∀ q τ3, MJ D τ2 τ3 F Gp e y q → (∀ p, p < q → ahd D (F p) y) → Ok 96 [some (.ref 42), some (.int lo), some (.int (nI h)), some (.int (nI y)), some (.int (nI q))] [] τ3 := by
                intro q τ3 hMJ hq
                obtain ⟨n1, n2⟩ := hMJ.fin ok hM2 hy ry hq
                have hqe := hMJ.2.1
                have vq : vp_in (nI q) 240 := inI (by omega) (by decide)
                have e26 : gI τ3 42 26 = nI e := by rw [hMJ.1.1 _ _ (fun z => by unfold S62 at z; omega)]; exact hM2.1
                have g4 : RG D (mdM τ3 e q y h) := fun x hx => by
                  unfold mdM
                  rw [gI_off (by omega), gI_off (by omega), gI_off (by omega), gI_off (by omega), gI_off (by omega), gI_off (by omega)]
                  exact (hG2.fr hMJ.1 S62b) x hx
                have j4 : JG D (mdM τ3 e q y h) := fun x hx => by
                  unfold mdM
                  rw [gI_off (by omega), gI_off (by omega), gI_off (by omega)]
                  exact (hJ2.fr hMJ.1 (fun k j z => by unfold S62 at z; omega)) x hx
                have nx := ih (h + 1) _ _ _ _ (by omega) (fr2.trans n2) g4 j4 n1 (some (.int (nI y))) (some (.int (nI q)))
                rw [← nI_1] at nx
                have nx2 : Ok 8 [some (.ref 42), some (.int lo), some (.int (nI h + 1)), some (.int (nI y)), some (.int (nI q))] [] (sI (sI (sI τ3 63 (rI (nI q)) (nI y)) 62 (rI (nI q)) (nI h)) 42 26 (gI τ3 42 26 + 1)) := by
                  rw [e26, nI_1 e, rI_nI (by omega)]
                  exact nx
                refine hst [8] 60 _ _ _ _ ?_
                exact And.intro vq (And.intro vq nx2)
              intro q
              induction q with
              | zero =>
                intro τ3 hMJ
                refine hst [96] 60 _ _ _ _ ?_
                exact br_t (by decide) (exit 0 τ3 hMJ (fun p hp => absurd hp (Nat.not_lt_zero p)))
              | succ q ihq =>
                intro τ3 hMJ
                have hqe := hMJ.2.1
                have np : ¬ nI (q + 1) ≤ 0 := nI_nle (by omega) (by omega)
                have e1 : nI (q + 1) - 1 = nI q := nI_pred q
                have v1 : vp_in (nI (q + 1) - 1) 240 := by rw [e1]; exact inI (by omega) (by decide)
                have v2 : vp_in (nI (q + 1)) 240 := inI (by omega) (by decide)
                have r1 : rI (nI (q + 1) - 1) = q := by rw [e1]; exact rI_nI (by omega)
                have r2 : rI (nI (q + 1)) = q + 1 := rI_nI (by omega)
                have a := hMJ.2.2.1 q (by omega)
                have hG3 := hG2.fr hMJ.1 S62b
                have fl := ok.2.1 _ (hM.2.2.1 q (by omega)).2.2.1.1
                have call : spX10_isAhead [.ref 42, .int (nI y), .int (gI τ3 63 (rI (nI (q + 1) - 1)))] τ3 (fun v σ' => ∃ b : Int32, v = some (.int b) ∧ (b = 0 → Ok 96 [some (.ref 42), some (.int lo), some (.int (nI h)), some (.int (nI y)), some (.int (nI (q + 1)))] [] σ') ∧ (¬ b = 0 → Ok 74 [some (.ref 42), some (.int lo), some (.int (nI h)), some (.int (nI y)), some (.int (nI (q + 1)))] [] σ')) := by
                  rw [r1, a.1]
                  refine And.intro rfl ⟨D, y, F q, rfl, ok, hG3, hyl, fl, fun ah => ⟨1, rfl, fun z => absurd z ne10, fun _ => ?_⟩, fun ah => ⟨0, rfl, fun _ => ?_, fun z => absurd rfl z⟩⟩
                  · have nx := ihq _ (hMJ.shift ah)
                    have nx2 : Ok 62 [some (.ref 42), some (.int lo), some (.int (nI h)), some (.int (nI y)), some (.int (nI (q + 1) + (-1)))] [] (sI (sI τ3 63 (rI (nI (q + 1))) (gI τ3 63 (rI (nI (q + 1) - 1)))) 62 (rI (nI (q + 1))) (gI τ3 62 (rI (nI (q + 1) - 1)))) := by
                      rw [pk_m1, r1, r2]
                      exact nx
                    refine hst [62] 60 _ _ _ _ ?_
                    exact And.intro v1 (And.intro v2 (And.intro v1 (And.intro v2 nx2)))
                  · have lq : ahd D (F q) y := by
                      rcases ahd.tot D y (F q) with z | z | z
                      · exact absurd z ah
                      · exact absurd z.symm (ne q (by omega))
                      · exact z
                    refine exit (q + 1) τ3 hMJ (fun p hp => ?_)
                    rcases Nat.lt_or_ge p q with w | w
                    · exact (hM.2.2.2.1 p q w (by omega)).trans lq
                    · have : p = q := by omega
                      rw [this]; exact lq
                refine hst [74, 96] 60 _ _ _ _ ?_
                refine br_f np (And.intro v1 (And.intro (Nat.le_of_ble_eq_true rfl) (mnX10_isAhead _ _ _ _ (fun v σ' y => ?_) call)))
                obtain ⟨b, rfl, y1, y2⟩ := y
                exact And.intro y1 y2
            -- the first of them
            have first : ∀ d t v, t + d = nTD D → ((v = -9 ∧ ∀ t', t' < t → hsT D h t' = false) ∨ ∃ y, v = nI y ∧ cc D h y ∧ ∀ t' x, t' < t → bsr D h t' x → x = y ∨ ahd D y x) → Ok 31 [some (.ref 42), some (.int lo), some (.int (nI h)), some (.int v), some (.int (nI t))] [] τ2 := by
              intro d
              induction d with
              | zero =>
                intro t v hd' hv
                have et : t = nTD D := by omega
                have le : gI τ2 42 2 ≤ nI t := by rw [hR2.2.2.2.2.1, et]; exact Int32.le_refl _
                have hth := (ok.2.2.1 h (by omega)).1
                have hsh : hsT D h (dK D h) = true := hsT_iff.mpr ⟨h, cc.refl D h, rfl⟩
                rcases hv with ⟨-, z⟩ | ⟨y, rfl, y1, y2⟩
                · rw [z (dK D h) (by omega)] at hsh; cases hsh
                · have cy := y1.ct rt.1
                  have ly : led D y := by
                    intro x cx
                    have cx' := y1.trans cx
                    have hx := ok.2.1 x (cx'.ct rt.1)
                    have kx := (ok.2.2.1 x hx).1
                    rcases hBT (dK D x) kx with ⟨-, z⟩ | ⟨b, -, z⟩
                    · rw [hsT_iff.mpr ⟨x, cx', rfl⟩] at z; cases z
                    · rcases z.2.2 x cx' rfl with w | w
                      · rcases y2 (dK D x) b (by omega) z with w2 | w2
                        · exact Or.inl (w.trans w2)
                        · rw [← w] at w2; exact Or.inr w2
                      · rcases y2 (dK D x) b (by omega) z with w2 | w2
                        · rw [w2] at w; exact Or.inr w
                        · exact Or.inr (w2.trans w)
                  have ey : isE D y := ⟨cy, ly, by unfold nk; rw [← hsT_cc ok y1]; exact c2⟩
                  have ry : root D h y := ⟨rt.1, y1, rt.2.2⟩
                  have e26 : gI τ2 42 26 = nI e := by rw [hF2.1 _ _ (fun z => S64m _ _ z (by omega))]; exact hM.1
                  have l0 := ins y ey ry e τ2 ⟨Fr.refl S62 τ2, Nat.le_refl _, fun p hp => by
                    rw [hF2.1 _ _ (fun z => S64m _ _ z (by omega)), hF2.1 _ _ (fun z => S64m _ _ z (by omega))]
                    exact ⟨(hM.2.2.1 p hp).1, (hM.2.2.1 p hp).2.1⟩, fun p h1 h2 => by omega, fun p h1 h2 => by omega⟩
                  rw [← e26] at l0
                  refine hst [31, 62] 60 _ _ _ _ ?_
                  exact br_t le l0
              | succ d ihf =>
                intro t v hd' hv
                have nlt : ¬ gI τ2 42 2 ≤ nI t := by rw [hR2.2.2.2.2.1]; exact nI_ge (by omega) (by omega)
                have vt : vp_in (nI t) 30 := inI (by omega) (by decide)
                have rt' : rI (nI t) = t := rI_nI (by omega)
                rcases hBT t (by omega) with ⟨a1, a2⟩ | ⟨x, a1, a2⟩
                · have c3' : gI τ2 64 (rI (nI t)) = -9 := by rw [rt']; exact a1
                  have nx := ihf (t + 1) v (by omega) (by
                    rcases hv with ⟨z1, z2⟩ | ⟨y, z1, z2, z3⟩
                    · refine Or.inl ⟨z1, fun t' ht' => ?_⟩
                      rcases Nat.lt_or_ge t' t with w | w
                      · exact z2 t' w
                      · have : t' = t := by omega
                        rw [this]; exact a2
                    · refine Or.inr ⟨y, z1, z2, fun t' x ht' hb => ?_⟩
                      rcases Nat.lt_or_ge t' t with w | w
                      · exact z3 t' x w hb
                      · have : t' = t := by omega
                        rw [this] at hb
                        rw [hb.hs] at a2; cases a2)
                  rw [← nI_1] at nx
                  refine hst [31] 60 _ _ _ _ ?_
                  exact br_f nlt (And.intro vt (br_t c3' nx))
                · have hxl := (a2.lt ok rt.1).2
                  have c3' : ¬ gI τ2 64 (rI (nI t)) = -9 := by rw [rt', a1]; exact nI_n9 (by omega)
                  have e64 : gI τ2 64 (rI (nI t)) = nI x := by rw [rt']; exact a1
                  rcases hv with ⟨rfl, z2⟩ | ⟨y, rfl, z2, z3⟩
                  · have nx := ihf (t + 1) (nI x) (by omega) (Or.inr ⟨x, rfl, a2.1, fun t' x' ht' hb => by
                      rcases Nat.lt_or_ge t' t with w | w
                      · exact absurd (z2 t' w) (by rw [hb.hs]; decide)
                      · have : t' = t := by omega
                        rw [this] at hb
                        exact Or.inl (hb.uniq a2)⟩)
                    rw [← nI_1, ← e64] at nx
                    refine hst [31] 60 _ _ _ _ ?_
                    exact br_f nlt (And.intro vt (br_f c3' (br_t rfl (And.intro vt nx))))
                  · have hyl := ok.2.1 y (z2.ct rt.1)
                    have n9 : ¬ nI y = -9 := nI_n9 (by omega)
                    have call : spX10_isAhead [.ref 42, .int (gI τ2 64 (rI (nI t))), .int (nI y)] τ2 (fun v σ' => ∃ b : Int32, v = some (.int b) ∧ (b = 0 → Ok 57 [some (.ref 42), some (.int lo), some (.int (nI h)), some (.int (nI y)), some (.int (nI t))] [] σ') ∧ (¬ b = 0 → Ok 52 [some (.ref 42), some (.int lo), some (.int (nI h)), some (.int (nI y)), some (.int (nI t))] [] σ')) := by
                      rw [e64]
                      refine And.intro rfl ⟨D, x, y, rfl, ok, hG2, hxl, hyl, fun ah => ⟨1, rfl, fun z => absurd z ne10, fun _ => ?_⟩, fun ah => ⟨0, rfl, fun _ => ?_, fun z => absurd rfl z⟩⟩
                      · have nx := ihf (t + 1) (nI x) (by omega) (Or.inr ⟨x, rfl, a2.1, fun t' x' ht' hb => by
                          rcases Nat.lt_or_ge t' t with w | w
                          · rcases z3 t' x' w hb with u | u
                            · rw [u]; exact Or.inr ah
                            · exact Or.inr (ah.trans u)
                          · have : t' = t := by omega
                            rw [this] at hb
                            exact Or.inl (hb.uniq a2)⟩)
                        rw [← nI_1, ← e64] at nx
                        refine hst [31] 60 _ _ _ _ ?_
                        exact And.intro vt nx
                      · have nx := ihf (t + 1) (nI y) (by omega) (Or.inr ⟨y, rfl, z2, fun t' x' ht' hb => by
                          rcases Nat.lt_or_ge t' t with w | w
                          · exact z3 t' x' w hb
                          · have : t' = t := by omega
                            rw [this] at hb
                            rw [hb.uniq a2]
                            rcases ahd.tot D x y with u | u | u
                            · exact absurd u ah
                            · exact Or.inl u
                            · exact Or.inr u⟩)
                        rw [← nI_1] at nx
                        refine hst [31] 60 _ _ _ _ ?_
                        exact nx
                    refine hst [31, 52, 57] 60 _ _ _ _ ?_
                    refine br_f nlt (And.intro vt (br_f c3' (br_f n9 (And.intro vt (And.intro (Nat.le_of_ble_eq_true rfl) (mnX10_isAhead _ _ _ _ (fun v σ' y => ?_) call))))))
                    obtain ⟨b, rfl, y1, y2⟩ := y
                    exact And.intro y1 y2
            have l0 := first (nTD D) 0 (-9) (Nat.zero_add _) (Or.inl ⟨rfl, fun t' ht' => absurd ht' (Nat.not_lt_zero t')⟩)
            refine hst [31] 60 _ _ _ _ ?_
            exact l0
          · have no : ∀ f, isE D f → ¬ root D h f := fun f hf rf => c2 (nI_le (by
              have := hf.2.2
              unfold nk at *
              rw [hsT_cc ok rf.2.1]
              exact this) (by omega))
            have nx := ih (h + 1) τ2 F Gp e (by omega) fr2 hG2 hJ2 (hM.skip hF2 S64m no) x3 x4
            rw [← nI_1] at nx
            refine hst [8] 60 _ _ _ _ ?_
            exact nx
        refine hst [8, 27, 112] 60 _ _ _ _ ?_
        refine br_f nle (And.intro vh (br_t c' (And.intro (Nat.le_of_ble_eq_true rfl) (mnX10_findBest _ _ _ _ (fun v σ' y => ?_) call))))
        obtain ⟨k, rfl, y1, y2⟩ := y
        exact And.intro v24 (And.intro y1 y2)
      · have c' : ¬ gI τ' 59 (rI (nI h)) = nI h := by rw [rh]; exact c
        have nx := ih (h + 1) τ' F Gp e (by omega) hF hG hJ (hM.skip (Fr.refl (fun _ _ => False) τ') (fun k j z => z.elim) (fun f _ => hJ.noroot ok (by omega) c)) x3 x4
        rw [← nI_1] at nx
        refine hst [8] 60 _ _ _ _ ?_
        exact br_f nle (And.intro vh (br_f c' nx))
  refine hst [8] 60 _ _ _ _ ?_
  refine And.intro (Nat.le_of_ble_eq_true rfl) (And.intro rfl ⟨D, lo, rfl, ok, hR, hD, fun τ1 f1 hG hJ => ?_⟩)
  have f1 : Fr SM τ (sI τ1 42 26 0) := (f1.mono (fun k j z => by unfold SJ at z; unfold SM; omega)).put (Or.inr ⟨rfl, rfl⟩)
  have g1 : RG D (sI τ1 42 26 0) := fun x hx => by
    rw [gI_off (by omega), gI_off (by omega)]; exact hG x hx
  have j1 : JG D (sI τ1 42 26 0) := fun x hx => by
    rw [gI_off (by omega)]; exact hJ x hx
  exact loop (nHD D) 0 (sI τ1 42 26 0) (fun _ => 0) (fun _ => 0) 0 (Nat.zero_add _) f1 g1 j1 ⟨gI_on ⟨rfl, rfl⟩, Nat.le_refl _, fun i hi => absurd hi (Nat.not_lt_zero i), fun i j _ hj => absurd hj (Nat.not_lt_zero j), fun f _ ⟨r, w, _⟩ => absurd w (Nat.not_lt_zero r)⟩ none none
