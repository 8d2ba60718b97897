def csX10_build : Cs := [(177, 1, true, spX10_findBest), (186, 1, true, spX10_make)]
theorem evS.ct {D : Dat} {F : Nat → Nat} {n : Nat} (a : evS D F n) {i : Nat} (hi : i < n) : dC D (F i) = true := ((a.2 (F i)).mpr ⟨i, hi, rfl⟩).1
theorem evS.dis {D : Dat} (ok : okD D) {F : Nat → Nat} {n : Nat} (a : evS D F n) {i j : Nat} (hij : i < j) (hj : j < n) : ¬ cc D (F i) (F j) := fun c => by
  have l1 := ((a.2 (F i)).mpr ⟨i, by omega, rfl⟩).2.1
  have l2 := ((a.2 (F j)).mpr ⟨j, hj, rfl⟩).2.1
  have := l1.uniq ok l2 c
  have o := a.1 i j hij hj
  rw [this] at o
  exact o.irr
theorem evS.le {D : Dat} (ok : okD D) {F : Nat → Nat} {n : Nat} (a : evS D F n) {e : Nat} (he : e ≤ n) : stF D F e ≤ nHD D := stF_240 ok (fun i hi => a.ct (by omega)) (fun i j hij hj => a.dis ok hij (by omega))
def MR (D : Dat) (τ : Mem) (F : Nat → Nat) (i t h : Nat) : Prop := gI τ 66 (stF D F i + ctN (hsT D (F i)) t) = nI h ∧ gI τ 67 (stF D F i + ctN (hsT D (F i)) t) = dTm D h
/-- the events ahead of e are kept; m: those whose sizes stand -/
def RA (D : Dat) (τ : Mem) (F : Nat → Nat) (e f : Nat) : Prop := (∀ i, i < f → gI τ 65 i = nI (stF D F i)) ∧ (∀ i, i < e → gI τ 68 i = nI (szG D (F i))) ∧ ∀ i t h, i < e → bsr D (F i) t h → MR D τ F i t h
def RB (D : Dat) (τ : Mem) (F : Nat → Nat) (e t : Nat) : Prop := gI τ 42 31 = nI (stF D F e + ctN (hsT D (F e)) t) ∧ RA D τ F e (e + 1) ∧ gI τ 68 e = nI (szG D (F e)) ∧ ∀ t' h, t' < t → bsr D (F e) t' h → MR D τ F e t' h
theorem RA.fr {D : Dat} {S : Nat → Nat → Prop} {τ τ' : Mem} {F : Nat → Nat} {e f : Nat} (h : RA D τ F e f) (g : Fr S τ τ') (hS : ∀ k j, S k j → ¬ (k = 65 ∨ (k = 68 ∧ j < e) ∨ k = 66 ∨ k = 67)) : RA D τ' F e f := by
  obtain ⟨h1, h2, h3⟩ := h
  refine ⟨fun i hi => ?_, fun i hi => ?_, fun i t x hi hb => ?_⟩
  · rw [g.1 _ _ (fun z => hS _ _ z (by omega))]; exact h1 i hi
  · rw [g.1 _ _ (fun z => hS _ _ z (by omega))]; exact h2 i hi
  · obtain ⟨a1, a2⟩ := h3 i t x hi hb
    exact ⟨(g.1 _ _ (fun z => hS _ _ z (by omega))).trans a1, (g.1 _ _ (fun z => hS _ _ z (by omega))).trans a2⟩
def rbM (τ : Mem) (p x : Nat) (tm : Int32) : Mem := sI (sI (sI τ 66 p (nI x)) 67 p tm) 42 31 (nI (p + 1))
theorem RB.add {D : Dat} (ok : okD D) {τ : Mem} {F : Nat → Nat} {e t x : Nat} (h : RB D τ F e t) (hx : bsr D (F e) t x) (ct : ∀ i, i ≤ e → dC D (F i) = true) : RB D (rbM τ (stF D F e + ctN (hsT D (F e)) t) x (dTm D x)) F e (t + 1) := by
  obtain ⟨h1, ⟨h2, h3, h4⟩, h5, h6⟩ := h
  have ht := hx.hs
  refine ⟨?_, ⟨fun i hi => ?_, fun i hi => ?_, fun i t' y hi hb => ?_⟩, ?_, fun t' y ht' hb => ?_⟩
  · unfold rbM; rw [gI_on ⟨rfl, rfl⟩, ctN_T ht]; rfl
  · unfold rbM; rw [gI_off (by omega), gI_off (by omega), gI_off (by omega)]; exact h2 i hi
  · unfold rbM; rw [gI_off (by omega), gI_off (by omega), gI_off (by omega)]; exact h3 i hi
  · obtain ⟨a1, a2⟩ := h4 i t' y hi hb
    have lt := pos_ne ok (t := t) hi (ct i (by omega)) hb.hs
    unfold rbM
    refine ⟨?_, ?_⟩
    · rw [gI_off (by omega), gI_off (by omega), gI_off (by omega)]; exact a1
    · rw [gI_off (by omega), gI_off (by omega), gI_off (by omega)]; exact a2
  · unfold rbM; rw [gI_off (by omega), gI_off (by omega), gI_off (by omega)]; exact h5
  · by_cases c : t' = t
    · subst c
      have eh := hb.uniq hx
      subst eh
      unfold rbM
      refine ⟨?_, ?_⟩
      · rw [gI_off (by omega), gI_off (by omega), gI_on ⟨rfl, rfl⟩]
      · rw [gI_off (by omega), gI_on ⟨rfl, rfl⟩]
    · obtain ⟨a1, a2⟩ := h6 t' y (by omega) hb
      have lt : ctN (hsT D (F e)) t' ≠ ctN (hsT D (F e)) t := fun z => c (ctN_inj hb.hs ht z)
      unfold rbM
      refine ⟨?_, ?_⟩
      · rw [gI_off (by omega), gI_off (by omega), gI_off (by omega)]; exact a1
      · rw [gI_off (by omega), gI_off (by omega), gI_off (by omega)]; exact a2
theorem RB.skip {D : Dat} {τ : Mem} {F : Nat → Nat} {e t : Nat} (h : RB D τ F e t) (hn : hsT D (F e) t = false) : RB D τ F e (t + 1) := by
  obtain ⟨h1, h2, h5, h6⟩ := h
  refine ⟨by rw [ctN_F hn]; exact h1, h2, h5, fun t' y ht' hb => ?_⟩
  rcases Nat.lt_or_ge t' t with w | w
  · exact h6 t' y w hb
  · have : t' = t := by omega
    rw [this] at hb
    rw [hb.hs] at hn; cases hn
theorem RB.close {D : Dat} (ok : okD D) {τ : Mem} {F : Nat → Nat} {e : Nat} (h : RB D τ F e (nTD D)) (ct : dC D (F e) = true) : gI τ 42 31 = nI (stF D F (e + 1)) ∧ RA D τ F (e + 1) (e + 1) := by
  obtain ⟨h1, ⟨h2, h3, h4⟩, h5, h6⟩ := h
  refine ⟨h1, h2, fun i hi => ?_, fun i t x hi hb => ?_⟩
  · rcases Nat.lt_or_ge i e with w | w
    · exact h3 i w
    · have : i = e := by omega
      rw [this]; exact h5
  · rcases Nat.lt_or_ge i e with w | w
    · exact h4 i t x w hb
    · have c : i = e := by omega
      subst c
      exact h6 t x (hb.lt ok ct).1 hb
def SO (k j : Nat) : Prop := k = 69 ∨ k = 70 ∨ (k = 42 ∧ j = 36)
def S4 (k j : Nat) : Prop := (64 ≤ k ∧ k ≤ 68) ∨ (k = 42 ∧ j = 31)
def SB (k j : Nat) : Prop := (59 ≤ k ∧ k ≤ 70) ∨ (k = 42 ∧ (j = 22 ∨ j = 26 ∨ j = 30 ∨ j = 31 ∨ j = 36))
def KN (D : Dat) (τ : Mem) (F : Nat → Nat) (n : Nat) : Prop := gI τ 42 30 = nI n ∧ gI τ 42 31 = nI (stF D F n) ∧ (∀ e, e ≤ n → gI τ 65 e = nI (stF D F e)) ∧ (∀ e, e < n → gI τ 68 e = nI (szG D (F e))) ∧ ∀ i t h, i < n → bsr D (F i) t h → MR D τ F i t h
def KP (τ : Mem) (nE : Nat) (st mh : Nat → Nat) : Prop := gI τ 42 30 = nI nE ∧ nE ≤ 240 ∧ gI τ 42 31 = nI (st nE) ∧ st nE ≤ 240 ∧ (∀ e, e ≤ nE → gI τ 65 e = nI (st e)) ∧ ∀ p, p < st nE → gI τ 66 p = nI (mh p)
def spX10_build : SP := G [(2, [42])] (fun vs τ K => ∃ (D : Dat) (nE : Nat) (st mh : Nat → Nat), vs = [.ref 42] ∧ okD D ∧ RM D τ ∧ DXM D τ (-9) ∧ KP τ nE st mh ∧ ∀ (τ' : Mem) (F : Nat → Nat) (n : Nat), evS D F n → n ≤ nHD D → EvO τ' nE st mh → KN D τ' F n → Fr SB τ τ' → gI τ' 42 22 = gI τ 42 22 + 1 → K (some (.int (nI n))) τ')
theorem mnX10_build : Mono spX10_build := fun vs σ K1 K2 hK h => by
  obtain ⟨h1, D, nE, st, mh, g1, g2, g3, g4, g5, g6⟩ := h
  exact ⟨h1, D, nE, st, mh, g1, g2, g3, g4, g5, fun τ' F n q1 q2 q3 q4 q5 q6 => hK _ _ (g6 τ' F n q1 q2 q3 q4 q5 q6)⟩
set_option maxHeartbeats 8000000 in
theorem bdX10_build : Body 4 pgX10_build roM csX10_build lcX10 false spX10_build := by
  intro vs τ K h Ok hst
  obtain ⟨-, D, nE, st, mh, rfl, ok, hR, hD, hKP, hk⟩ := h
  have hH := ok.1.2
  have h30 := ok.1.1
  obtain ⟨p1, p2, p3, p4, p5, p6⟩ := hKP
  have S64s : ∀ k j, S64 k j → S4 k j := fun k j z => by unfold S64 at z; unfold S4; omega
  -- behind make: τ4
  have second : ∀ (τ4 : Mem) (F Gp : Nat → Nat) (n : Nat), Fr SB τ τ4 → RM D τ4 → RG D τ4 → JG D τ4 → evS D F n → n ≤ nHD D → gI τ4 42 26 = nI n → gI τ4 42 30 = nI n → gI τ4 42 31 = 0 → gI τ4 42 22 = gI τ 42 22 + 1 → EvO τ4 nE st mh → (∀ i, i < n → gI τ4 62 i = nI (Gp i) ∧ root D (Gp i) (F i)) → ∀ x2 x3, Ok 54 [some (.ref 42), some (.int 0), x2, x3] [] τ4 := by
    intro τ4 F Gp n hF4 hR4 hG4 hJ4 ev hn e26 e30 e31 e22 hO hGp
    have S4a : ∀ k j, S4 k j → ¬ (k = 43 ∨ k = 44 ∨ k = 58 ∨ (k = 42 ∧ (j = 2 ∨ j = 5))) := fun k j z => by unfold S4 at z; omega
    have S4b : ∀ k j, S4 k j → ¬ (k = 45 ∨ k = 60) := fun k j z => by unfold S4 at z; omega
    have S4s : ∀ k j, S4 k j → SB k j := fun k j z => by unfold S4 at z; unfold SB; omega
    have loop3 : ∀ d e τ', e + d = n → Fr S4 τ4 τ' → gI τ' 42 31 = nI (stF D F e) → RA D τ' F e e → ∀ x2 x3, Ok 54 [some (.ref 42), some (.int (nI e)), x2, x3] [] τ' := by
      intro d
      induction d with
      | zero =>
        intro e τ' hd hF h31 hA x2 x3
        have ee : e = n := by omega
        subst ee
        have m26 : gI τ' 42 26 = nI e := by rw [hF.1 _ _ (fun z => by unfold S4 at z; omega)]; exact e26
        have le : gI τ' 42 26 ≤ nI e := by rw [m26]; exact Int32.le_refl _
        have vn : vp_in (gI τ' 42 26) 241 := by rw [m26]; exact inI (by omega) (by decide)
        have fF : Fr S4 τ4 (sI τ' 65 e (nI (stF D F e))) := hF.put (Or.inl ⟨by omega, by omega⟩)
        have kn : KN D (sI τ' 65 e (nI (stF D F e))) F e := by
          refine ⟨?_, ?_, fun i hi => ?_, fun i hi => ?_, fun i t x hi hb => ?_⟩
          · rw [gI_off (by omega), hF.1 _ _ (fun z => by unfold S4 at z; omega)]; exact e30
          · rw [gI_off (by omega)]; exact h31
          · by_cases c : i = e
            · rw [gI_on ⟨rfl, c⟩, c]
            · rw [gI_off (by omega)]; exact hA.1 i (by omega)
          · rw [gI_off (by omega)]; exact hA.2.1 i hi
          · obtain ⟨a1, a2⟩ := hA.2.2 i t x hi hb
            refine ⟨?_, ?_⟩
            · rw [gI_off (by omega)]; exact a1
            · rw [gI_off (by omega)]; exact a2
        have o' : EvO (sI τ' 65 e (nI (stF D F e))) nE st mh := by
          refine ⟨?_, fun i hi => ?_, fun p hp => ?_⟩
          · rw [fF.1 _ _ (fun z => by unfold S4 at z; omega)]; exact hO.1
          · rw [fF.1 _ _ (fun z => by unfold S4 at z; omega)]; exact hO.2.1 i hi
          · rw [fF.1 _ _ (fun z => by unfold S4 at z; omega)]; exact hO.2.2 p hp
        have fk := hk _ F e ev hn o' kn (hF4.trans (fF.mono S4s)) (by rw [fF.1 _ _ (fun z => by unfold S4 at z; omega)]; exact e22)
        have fk : K (some (.int (gI τ' 42 26))) (sI τ' 65 (rI (gI τ' 42 26)) (gI τ' 42 31)) := by
          rw [m26, h31, rI_nI (by omega)]
          exact fk
        refine hst [54] 80 _ _ _ _ ?_
        exact br_t le (And.intro vn fk)
      | succ d ih =>
        intro e τ' hd hF h31 hA x2 x3
        have m26 : gI τ' 42 26 = nI n := by rw [hF.1 _ _ (fun z => by unfold S4 at z; omega)]; exact e26
        have nle : ¬ gI τ' 42 26 ≤ nI e := by rw [m26]; exact nI_ge (by omega) (by omega)
        have ve : vp_in (nI e) 240 := inI (by omega) (by decide)
        have ve1 : vp_in (nI e) 241 := inI (by omega) (by decide)
        have re : rI (nI e) = e := rI_nI (by omega)
        obtain ⟨gp1, gp2⟩ := hGp e (by omega)
        have ctF : ∀ i, i ≤ e → dC D (F i) = true := fun i hi => ev.ct (by omega)
        have hst1 : stF D F e + nk D (F e) ≤ nHD D := ev.le ok (show e + 1 ≤ n by omega)
        -- members
        have loop5 : ∀ d t τ', t + d = nTD D → Fr S4 τ4 τ' → RB D τ' F e t → BT D τ' (F e) → ∀ x2 : Int32, Ok 105 [some (.ref 42), some (.int (nI e)), some (.int x2), some (.int (nI t))] [] τ' := by
          intro d
          induction d with
          | zero =>
            intro t τ' hd' hF hB hT x2
            have hR' := hR4.fr hF S4a
            have et : t = nTD D := by omega
            have le : gI τ' 42 2 ≤ nI t := by rw [hR'.2.2.2.2.1, et]; exact Int32.le_refl _
            rw [et] at hB
            obtain ⟨c1, c2⟩ := hB.close ok (ctF e (Nat.le_refl _))
            have nx := ih (e + 1) τ' (by omega) hF c1 c2 (some (.int x2)) (some (.int (nI t)))
            rw [← nI_1] at nx
            refine hst [54, 105] 60 _ _ _ _ ?_
            exact br_t le nx
          | succ d ih5 =>
            intro t τ' hd' hF hB hT x2
            have hR' := hR4.fr hF S4a
            have hG' := hG4.fr hF S4b
            have nlt : ¬ gI τ' 42 2 ≤ nI t := by rw [hR'.2.2.2.2.1]; exact nI_ge (by omega) (by omega)
            have vt : vp_in (nI t) 30 := inI (by omega) (by decide)
            have rt : rI (nI t) = t := rI_nI (by omega)
            rcases hT t (by omega) with ⟨a1, a2⟩ | ⟨x, a1, a2⟩
            · have c0 : gI τ' 64 (rI (nI t)) = -9 := by rw [rt]; exact a1
              have nx := ih5 (t + 1) τ' (by omega) hF (hB.skip a2) hT x2
              rw [← nI_1] at nx
              refine hst [105] 60 _ _ _ _ ?_
              exact br_f nlt (And.intro vt (br_t c0 nx))
            · have hx := (a2.lt ok (ctF e (Nat.le_refl _))).2
              have e64 : gI τ' 64 (rI (nI t)) = nI x := by rw [rt]; exact a1
              have c0 : ¬ gI τ' 64 (rI (nI t)) = -9 := by rw [e64]; exact nI_n9 (by omega)
              have hlt := nk_lt (show t < nTD D by omega) a2.hs
              have vm : vp_in (gI τ' 42 31) 240 := by rw [hB.1]; exact inI (by omega) (by decide)
              have vx : vp_in (gI τ' 64 (rI (nI t))) 240 := by rw [e64]; exact inI (by omega) (by decide)
              have e60 : gI τ' 60 (rI (gI τ' 64 (rI (nI t)))) = dTm D x := by rw [e64, rI_nI (by omega)]; exact (hG' x hx).1
              have f5 : Fr S4 τ4 (rbM τ' (stF D F e + ctN (hsT D (F e)) t) x (dTm D x)) := ((hF.put (Or.inl ⟨by omega, by omega⟩)).put (Or.inl ⟨by omega, by omega⟩)).put (Or.inr ⟨rfl, rfl⟩)
              have t5 : BT D (rbM τ' (stF D F e + ctN (hsT D (F e)) t) x (dTm D x)) (F e) := fun t' ht' => by
                unfold rbM
                rw [gI_off (by omega), gI_off (by omega), gI_off (by omega)]
                exact hT t' ht'
              have nx := ih5 (t + 1) _ (by omega) f5 (hB.add ok a2 ctF) t5 x2
              rw [← nI_1] at nx
              have nx2 : Ok 105 [some (.ref 42), some (.int (nI e)), some (.int x2), some (.int (nI t + 1))] [] (sI (sI (sI τ' 66 (rI (gI τ' 42 31)) (gI τ' 64 (rI (nI t)))) 67 (rI (gI τ' 42 31)) (gI τ' 60 (rI (gI τ' 64 (rI (nI t)))))) 42 31 (gI τ' 42 31 + 1)) := by
                rw [e60, e64, hB.1, nI_1 (stF D F e + ctN (hsT D (F e)) t), rI_nI (by omega)]
                exact nx
              refine hst [105] 60 _ _ _ _ ?_
              exact br_f nlt (And.intro vt (br_f c0 (And.intro vt (And.intro vm (And.intro vt (And.intro vx (And.intro vm nx2)))))))
        -- the size
        have loop4 : ∀ d h τ', h + d = nHD D → Fr S4 τ4 τ' → gI τ' 42 31 = nI (stF D F e) → RA D τ' F e (e + 1) → gI τ' 68 e = nI (ctN (inG D (Gp e)) h) → BT D τ' (F e) → ∀ x2 : Int32, Ok 78 [some (.ref 42), some (.int (nI e)), some (.int x2), some (.int (nI h))] [] τ' := by
          intro d
          induction d with
          | zero =>
            intro h τ' hd' hF h31 hA h68 hT x2
            have hR' := hR4.fr hF S4a
            have eh : h = nHD D := by omega
            have le : gI τ' 42 5 ≤ nI h := by rw [hR'.2.2.2.2.2, eh]; exact Int32.le_refl _
            have l0 := loop5 (nTD D) 0 τ' (Nat.zero_add _) hF ⟨h31, hA, by rw [h68, eh, ← szG_cc ok gp2.2.1]; rfl, fun t' y ht' => absurd ht' (Nat.not_lt_zero t')⟩ hT x2
            refine hst [78, 105] 60 _ _ _ _ ?_
            exact br_t le l0
          | succ d ih4 =>
            intro h τ' hd' hF h31 hA h68 hT x2
            have hR' := hR4.fr hF S4a
            have nlt : ¬ gI τ' 42 5 ≤ nI h := by rw [hR'.2.2.2.2.2]; exact nI_ge (by omega) (by omega)
            have vh : vp_in (nI h) 240 := inI (by omega) (by decide)
            have rh : rI (nI h) = h := rI_nI (by omega)
            have e62 : gI τ' 62 (rI (nI e)) = nI (Gp e) := by rw [re, hF.1 _ _ (fun z => by unfold S4 at z; omega)]; exact gp1
            have e59 : gI τ' 59 h = gI τ4 59 h := hF.1 _ _ (fun z => by unfold S4 at z; omega)
            have mk := hJ4.mk ok gp2
            have up : ∀ v, v = ctN (inG D (Gp e)) (h + 1) → Ok 78 [some (.ref 42), some (.int (nI e)), some (.int x2), some (.int (nI h + 1))] [] (sI τ' 68 e (nI v)) := by
              intro v hv
              rw [nI_1]
              have S68 : ∀ k j, (k = 68 ∧ j = e) → ¬ (k = 65 ∨ (k = 68 ∧ j < e) ∨ k = 66 ∨ k = 67) := fun k j z => by omega
              refine ih4 (h + 1) _ (by omega) (hF.put (Or.inl ⟨by omega, by omega⟩)) (by rw [gI_off (by omega)]; exact h31) (hA.fr ((Fr.refl (fun k j => k = 68 ∧ j = e) τ').put ⟨rfl, rfl⟩) S68) (by rw [gI_on ⟨rfl, rfl⟩, hv]) (fun t' ht' => ?_) x2
              rw [gI_off (by omega)]
              exact hT t' ht'
            refine hst [78] 60 _ _ _ _ ?_
            by_cases c : cc D (Gp e) h
            · have c0 : gI τ' 59 (rI (nI h)) = gI τ' 62 (rI (nI e)) := by rw [rh, e62, e59]; exact (mk.2 h (by omega)).mpr c
              have nx := up _ (ctN_T (inG_iff.mpr c)).symm
              have nx2 : Ok 78 [some (.ref 42), some (.int (nI e)), some (.int x2), some (.int (nI h + 1))] [] (sI τ' 68 (rI (nI e)) (gI τ' 68 (rI (nI e)) + 1)) := by
                rw [re, h68, nI_1 (ctN (inG D (Gp e)) h)]
                exact nx
              exact br_f nlt (And.intro ve (And.intro vh (And.intro ve (br_t c0 (And.intro ve nx2)))))
            · have c0 : ¬ gI τ' 59 (rI (nI h)) = gI τ' 62 (rI (nI e)) := by rw [rh, e62, e59]; exact fun z => c ((mk.2 h (by omega)).mp z)
              have cf : inG D (Gp e) h = false := by
                cases e9 : inG D (Gp e) h with
                | false => rfl
                | true => exact absurd (inG_iff.mp e9) c
              have nx := up _ (ctN_F cf).symm
              have nx2 : Ok 78 [some (.ref 42), some (.int (nI e)), some (.int x2), some (.int (nI h + 1))] [] (sI τ' 68 (rI (nI e)) (gI τ' 68 (rI (nI e)) + 0)) := by
                rw [re, h68, Int32.add_zero]
                exact nx
              exact br_f nlt (And.intro ve (And.intro vh (And.intro ve (br_f c0 (And.intro ve nx2)))))
        have f5 : Fr S4 τ4 (sI τ' 65 e (nI (stF D F e))) := hF.put (Or.inl ⟨by omega, by omega⟩)
        have h64 : ∀ τ5, τ5 = sI τ' 65 e (nI (stF D F e)) → Ok 64 [some (.ref 42), some (.int (nI e)), x2, x3] [] τ5 := by
          intro τ5 e5
          have f5 : Fr S4 τ4 τ5 := by rw [e5]; exact f5
          have hR5 := hR4.fr f5 S4a
          have hG5 := hG4.fr f5 S4b
          have hJ5 := hJ4.fr f5 (fun k j z => by unfold S4 at z; omega)
          have a31 : gI τ5 42 31 = nI (stF D F e) := by rw [e5, gI_off (by omega)]; exact h31
          have a5 : RA D τ5 F e (e + 1) := by
            obtain ⟨b1, b2, b3⟩ := hA
            rw [e5]
            refine ⟨fun i hi => ?_, fun i hi => ?_, fun i t x hi hb => ?_⟩
            · by_cases c : i = e
              · rw [gI_on ⟨rfl, c⟩, c]
              · rw [gI_off (by omega)]; exact b1 i (by omega)
            · rw [gI_off (by omega)]; exact b2 i hi
            · obtain ⟨y1, y2⟩ := b3 i t x hi hb
              refine ⟨?_, ?_⟩
              · rw [gI_off (by omega)]; exact y1
              · rw [gI_off (by omega)]; exact y2
          clear e5
          have e62 : gI τ5 62 (rI (nI e)) = nI (Gp e) := by rw [re, f5.1 _ _ (fun z => by unfold S4 at z; omega)]; exact gp1
          have call : spX10_findBest [.ref 42, .int (gI τ5 62 (rI (nI e)))] τ5 (fun v σ' => ∃ k, v = some (.int k) ∧ Ok 71 [some (.ref 42), some (.int (nI e)), some (.int k), x3] [] σ') := by
            rw [e62]
            refine And.intro rfl ⟨D, Gp e, rfl, ok, hR5, hG5, hJ5.mk ok gp2, fun τ6 hF6 hT6 => ⟨_, rfl, ?_⟩⟩
            have f6 : Fr S4 τ4 τ6 := f5.trans (hF6.mono S64s)
            have a6 : RA D τ6 F e (e + 1) := a5.fr hF6 (fun k j z => by unfold S64 at z; omega)
            have b31 : gI τ6 42 31 = nI (stF D F e) := by rw [hF6.1 _ _ (fun z => by unfold S64 at z; omega)]; exact a31
            have t6 : BT D τ6 (F e) := fun t ht => by
              rcases hT6 t ht with ⟨z1, z2⟩ | ⟨x, z1, z2⟩
              · exact Or.inl ⟨z1, by rw [← hsT_cc ok gp2.2.1]; exact z2⟩
              · exact Or.inr ⟨x, z1, z2.cc ok gp2.2.1⟩
            have S68 : ∀ k j, (k = 68 ∧ j = e) → ¬ (k = 65 ∨ (k = 68 ∧ j < e) ∨ k = 66 ∨ k = 67) := fun k j z => by omega
            have l0 := loop4 (nHD D) 0 (sI τ6 68 e 0) (Nat.zero_add _) (f6.put (Or.inl ⟨by omega, by omega⟩)) (by rw [gI_off (by omega)]; exact b31) (a6.fr ((Fr.refl (fun k j => k = 68 ∧ j = e) τ6).put ⟨rfl, rfl⟩) S68) (gI_on ⟨rfl, rfl⟩) (fun t' ht' => by rw [gI_off (by omega)]; exact t6 t' ht') (nI (nk D (Gp e)))
            have l1 : Ok 78 [some (.ref 42), some (.int (nI e)), some (.int (nI (nk D (Gp e)))), some (.int 0)] [] (sI τ6 68 (rI (nI e)) 0) := by
              rw [re]
              exact l0
            refine hst [78] 60 _ _ _ _ ?_
            exact And.intro ve l1
          refine hst [71] 60 _ _ _ _ ?_
          refine And.intro ve (And.intro (Nat.le_of_ble_eq_true rfl) (mnX10_findBest _ _ _ _ (fun v σ' y => ?_) call))
          obtain ⟨k, rfl, y⟩ := y
          exact y
        have h64' : Ok 64 [some (.ref 42), some (.int (nI e)), x2, x3] [] (sI τ' 65 (rI (nI e)) (gI τ' 42 31)) := by
          rw [re, h31]
          exact h64 _ rfl
        refine hst [54, 64] 60 _ _ _ _ ?_
        exact br_f nle (And.intro ve1 h64')
    intro x2 x3
    exact loop3 n 0 τ4 (Nat.zero_add _) (Fr.refl S4 τ4) e31 ⟨fun i hi => absurd hi (Nat.not_lt_zero i), fun i hi => absurd hi (Nat.not_lt_zero i), fun i t x hi => absurd hi (Nat.not_lt_zero i)⟩ x2 x3
  have SOa : ∀ k j, SO k j → ¬ (k = 43 ∨ k = 44 ∨ k = 58 ∨ (k = 42 ∧ (j = 2 ∨ j = 5))) := fun k j z => by unfold SO at z; omega
  have SOd : ∀ k j, SO k j → ¬ ((45 ≤ k ∧ k ≤ 54) ∨ k = 58 ∨ (k = 42 ∧ (j = 10 ∨ j = 14))) := fun k j z => by unfold SO at z; omega
  have SOs : ∀ k j, SO k j → SB k j := fun k j z => by unfold SO at z; unfold SB; omega
  have SMs : ∀ k j, SM k j → SB k j := fun k j z => by unfold SM at z; unfold SB; omega
  have SMa : ∀ k j, SM k j → ¬ (k = 43 ∨ k = 44 ∨ k = 58 ∨ (k = 42 ∧ (j = 2 ∨ j = 5))) := fun k j z => by unfold SM at z; omega
  have loop2 : ∀ d p τ', p + d = st nE → Fr SO τ τ' → gI τ' 42 36 = nI nE → (∀ e, e ≤ nE → gI τ' 69 e = nI (st e)) → (∀ q, q < p → gI τ' 70 q = nI (mh q)) → Ok 22 [some (.ref 42), some (.int (nI p)), none, none] [] τ' := by
    intro d
    induction d with
    | zero =>
      intro p τ' hd hF o1 o2 o3
      have e31 : gI τ' 42 31 = nI (st nE) := by rw [hF.1 _ _ (fun z => by unfold SO at z; omega)]; exact p3
      have le : gI τ' 42 31 ≤ nI p := by rw [e31]; exact nI_le (by omega) (by omega)
      refine hst [22, 54] 60 _ _ _ _ ?_
      refine br_t le (And.intro (Nat.le_of_ble_eq_true rfl) (And.intro rfl ⟨D, -9, rfl, ok, hR.fr hF SOa, hD.fr hF SOd, fun τ3 F Gp n f3 hG3 hJ3 ev hn e26 hGp => ?_⟩))
      have fB : Fr SB τ τ3 := (hF.mono SOs).trans (f3.mono SMs)
      have hR3 := (hR.fr hF SOa).fr f3 SMa
      have f4 : Fr SB τ (sI (sI (sI τ3 42 22 (gI τ3 42 22 + 1)) 42 30 (gI τ3 42 26)) 42 31 0) := ((fB.put (Or.inr ⟨rfl, by omega⟩)).put (Or.inr ⟨rfl, by omega⟩)).put (Or.inr ⟨rfl, by omega⟩)
      have R4 : RM D (sI (sI (sI τ3 42 22 (gI τ3 42 22 + 1)) 42 30 (gI τ3 42 26)) 42 31 0) := hR3.fr ((((Fr.refl (fun k j => k = 42 ∧ (j = 22 ∨ j = 30 ∨ j = 31)) τ3).put ⟨rfl, by omega⟩).put ⟨rfl, by omega⟩).put ⟨rfl, by omega⟩) (fun k j z => by omega)
      have G4 : RG D (sI (sI (sI τ3 42 22 (gI τ3 42 22 + 1)) 42 30 (gI τ3 42 26)) 42 31 0) := fun x hx => by
        rw [gI_off (by omega), gI_off (by omega), gI_off (by omega), gI_off (by omega), gI_off (by omega), gI_off (by omega)]
        exact hG3 x hx
      have J4 : JG D (sI (sI (sI τ3 42 22 (gI τ3 42 22 + 1)) 42 30 (gI τ3 42 26)) 42 31 0) := fun x hx => by
        rw [gI_off (by omega), gI_off (by omega), gI_off (by omega)]
        exact hJ3 x hx
      refine second (sI (sI (sI τ3 42 22 (gI τ3 42 22 + 1)) 42 30 (gI τ3 42 26)) 42 31 0) F Gp n f4 R4 G4 J4 ev hn ?_ ?_ (gI_on ⟨rfl, rfl⟩) ?_ ⟨?_, fun e he => ?_, fun q hq => ?_⟩ (fun i hi => ⟨?_, (hGp i hi).2⟩) none none
      · rw [gI_off (by omega), gI_off (by omega), gI_off (by omega)]; exact e26
      · rw [gI_off (by omega), gI_on ⟨rfl, rfl⟩]; exact e26
      · rw [gI_off (by omega), gI_off (by omega), gI_on ⟨rfl, rfl⟩, f3.1 _ _ (fun z => by unfold SM at z; omega), hF.1 _ _ (fun z => by unfold SO at z; omega)]
      · rw [gI_off (by omega), gI_off (by omega), gI_off (by omega), f3.1 _ _ (fun z => by unfold SM at z; omega)]; exact o1
      · rw [gI_off (by omega), gI_off (by omega), gI_off (by omega), f3.1 _ _ (fun z => by unfold SM at z; omega)]; exact o2 e he
      · rw [gI_off (by omega), gI_off (by omega), gI_off (by omega), f3.1 _ _ (fun z => by unfold SM at z; omega)]; exact o3 q (by omega)
      · rw [gI_off (by omega), gI_off (by omega), gI_off (by omega)]; exact (hGp i hi).1
    | succ d ih =>
      intro p τ' hd hF o1 o2 o3
      have e31 : gI τ' 42 31 = nI (st nE) := by rw [hF.1 _ _ (fun z => by unfold SO at z; omega)]; exact p3
      have nle : ¬ gI τ' 42 31 ≤ nI p := by rw [e31]; exact nI_ge (by omega) (by omega)
      have vp : vp_in (nI p) 240 := inI (by omega) (by decide)
      have rp : rI (nI p) = p := rI_nI (by omega)
      have e66 : gI τ' 66 (rI (nI p)) = nI (mh p) := by rw [rp, hF.1 _ _ (fun z => by unfold SO at z; omega)]; exact p6 p (by omega)
      have nx := ih (p + 1) (sI τ' 70 p (nI (mh p))) (by omega) (hF.put (Or.inr (Or.inl rfl))) (by rw [gI_off (by omega)]; exact o1) (fun e he => by rw [gI_off (by omega)]; exact o2 e he) (fun q hq => by
        by_cases c : q = p
        · rw [gI_on ⟨rfl, c⟩, c]
        · rw [gI_off (by omega)]; exact o3 q (by omega))
      rw [← nI_1] at nx
      have nx2 : Ok 22 [some (.ref 42), some (.int (nI p + 1)), none, none] [] (sI τ' 70 (rI (nI p)) (gI τ' 66 (rI (nI p)))) := by
        rw [e66, rp]
        exact nx
      refine hst [22] 60 _ _ _ _ ?_
      exact br_f nle (And.intro vp (And.intro vp nx2))
  have loop1 : ∀ d e τ', e + d = nE + 1 → Fr SO τ τ' → gI τ' 42 36 = nI nE → (∀ i, i < e → gI τ' 69 i = nI (st i)) → Ok 6 [some (.ref 42), some (.int (nI e)), none, none] [] τ' := by
    intro d
    induction d with
    | zero =>
      intro e τ' hd hF o1 o2
      have e30 : gI τ' 42 30 = nI nE := by rw [hF.1 _ _ (fun z => by unfold SO at z; omega)]; exact p1
      have lt : gI τ' 42 30 < nI e := by rw [e30]; exact nI_lt (by omega) (by omega)
      have l0 := loop2 (st nE) 0 τ' (Nat.zero_add _) hF o1 (fun i hi => o2 i (by omega)) (fun q hq => absurd hq (Nat.not_lt_zero q))
      refine hst [6, 22] 60 _ _ _ _ ?_
      exact br_t lt l0
    | succ d ih =>
      intro e τ' hd hF o1 o2
      have e30 : gI τ' 42 30 = nI nE := by rw [hF.1 _ _ (fun z => by unfold SO at z; omega)]; exact p1
      have nlt : ¬ gI τ' 42 30 < nI e := by rw [e30]; exact nI_nlt (by omega) (by omega)
      have vp : vp_in (nI e) 241 := inI (by omega) (by decide)
      have rp : rI (nI e) = e := rI_nI (by omega)
      have e65 : gI τ' 65 (rI (nI e)) = nI (st e) := by rw [rp, hF.1 _ _ (fun z => by unfold SO at z; omega)]; exact p5 e (by omega)
      have nx := ih (e + 1) (sI τ' 69 e (nI (st e))) (by omega) (hF.put (Or.inl rfl)) (by rw [gI_off (by omega)]; exact o1) (fun q hq => by
        by_cases c : q = e
        · rw [gI_on ⟨rfl, c⟩, c]
        · rw [gI_off (by omega)]; exact o2 q (by omega))
      rw [← nI_1] at nx
      have nx2 : Ok 6 [some (.ref 42), some (.int (nI e + 1)), none, none] [] (sI τ' 69 (rI (nI e)) (gI τ' 65 (rI (nI e)))) := by
        rw [e65, rp]
        exact nx
      refine hst [6] 60 _ _ _ _ ?_
      exact br_f nlt (And.intro vp (And.intro vp nx2))
  have l0 := loop1 (nE + 1) 0 (sI τ 42 36 (gI τ 42 30)) (Nat.zero_add _) ((Fr.refl SO τ).put (Or.inr (Or.inr ⟨rfl, rfl⟩))) (by rw [gI_on ⟨rfl, rfl⟩]; exact p1) (fun i hi => absurd hi (Nat.not_lt_zero i))
  refine hst [6] 60 _ _ _ _ ?_
  exact l0
