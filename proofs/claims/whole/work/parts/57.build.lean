def csX0_clear : Cs := [(27, 2, false, spJ7_fill_53178)]
def spX0_clear : SP := G [(2, [30, 36])] (slf 1 pgX0_clear csX0_clear lcX0 false 9)
theorem bdX0_clear : Body 1 pgX0_clear roM csX0_clear lcX0 false spX0_clear := Body.slf
theorem mnX0_clear : Mono spX0_clear := Mono.slf (csM_cons mnJ7_fill_53178 csM_nil)
def csX9_build : Cs := [(193, 0, true, spX0_clear), (199, 2, true, spX9_findEvents)]
def spX9_build : SP := G [(2, [0])] (slf 2 pgX9_build csX9_build lcX9 false 25)
theorem bdX9_build : Body 2 pgX9_build roM csX9_build lcX9 false spX9_build := Body.slf
theorem mnX9_build : Mono spX9_build := Mono.slf (csM_cons mnX0_clear (csM_cons mnX9_findEvents csM_nil))
theorem EvC.cg {σ τ : Mem} {b nE : Nat} {st mh : Nat → Nat} {n : Nat} (h : EvC σ b nE st mh n) (g : ∀ c j, c ≤ 5 → gI τ (b + c) j = gI σ (b + c) j) : EvC τ b nE st mh n := by
  obtain ⟨a1, a2, a3, a4, a5, a6, a7, a8, a9, a10⟩ := h
  refine ⟨a1, (g 0 0 (by omega)).trans a2, a3, a4, a5, fun e he => (g 1 e (by omega)).trans (a6 e he), fun p hp => ?_, a8, fun e p he hp1 hp2 => (g 5 _ (by omega)).trans (a9 e p he hp1 hp2), fun x hx hx2 => (g 5 _ (by omega)).trans (a10 x hx hx2)⟩
  rw [g 3 _ (by omega), g 4 _ (by omega)]
  exact a7 p hp
def ST (b k j : Nat) : Prop := SKb b k j ∨ (k = 0 ∧ j = 10) ∨ S2 k j
/-- behind the class's build: the reference's -/
theorem bldM {σ τ' : Mem} {nT nH nC nD b b' nE nE' n : Nat} {st mh st' mh' F : Nat → Nat} (hA : IT σ nT ∧ IH σ nT nH ∧ IC σ nC ∧ ID σ nD) (hS : IS σ) (hR : IR σ) (hX : IX σ) (hbb : (b = 30 ∧ b' = 36) ∨ (b = 36 ∧ b' = 30)) (hc : EvC σ b nE st mh nH) (hm : EvM σ b nE st mh) (hc' : EvC σ b' nE' st' mh' nH) (ho : EvO σ nE' st' mh') (f : Fr (ST b') (sP (sQ σ b) b') τ') (e10 : gI τ' 0 10 = gI σ 0 10 + 1) (ev : evS (datO σ (-1) nT nH) F n) (hn : n ≤ 240) (bd : BD (datO σ (-1) nT nH) τ' b' F n) : spX10_build [.ref 42] τ' (fun w σ2 => w = some (.int (nI n)) ∧ Inv σ2) := by
  have hno : ∀ h, h < nH → ∀ v : Int32, v < 0 → ¬ gI σ 5 h = v := fun h hh v hv z => by
    obtain ⟨-, ⟨j, j1, j2⟩, -⟩ := hA.2.1.2.2.2 h hh
    have := hA.1.1
    rw [j2] at z
    rw [← z] at hv
    exact nI_pos (by omega) hv
  obtain ⟨ok, -, -⟩ := datO_ok (lo := -1) hA hR
  obtain ⟨rm, dm⟩ := datO_M (lo := -1) (lo' := -9) hA hR (fun h hh => ⟨fun z => absurd z (hno h hh _ (by decide)), fun z => absurd z (hno h hh _ (by decide))⟩)
  have rm0 : RM (datO σ (-1) nT nH) (sP (sQ σ b) b') := rm
  have dm0 : DXM (datO σ (-1) nT nH) (sP (sQ σ b) b') (-9) := dm
  have offT : ∀ k j, ¬ ST b' k j → gI τ' k j = gI σ k j := fun k j hk => f.1 k j hk
  have big : ∀ k j, 42 ≤ k → gI τ' k j = gI σ k j := fun k j hk => offT k j (fun z => by unfold ST SKb S2 at z; omega)
  have rm' := rm0.fr f (fun k j z => by unfold ST SKb S2 at z; omega)
  have dm' := dm0.fr f (fun k j z => by unfold ST SKb S2 at z; omega)
  refine And.intro rfl ⟨datO σ (-1) nT nH, nE, st, mh, rfl, ok, rm', dm', ⟨(big _ _ (by omega)).trans hm.1, hc.1, (big _ _ (by omega)).trans hm.2.1, hc.2.2.2.2.1, fun e he => (big _ _ (by omega)).trans (hm.2.2.1 e he), fun p hp => (big _ _ (by omega)).trans (hm.2.2.2.1 p hp).1⟩, fun τ2 F' n' ev' hn' hO hK fB e22 => ?_⟩
  obtain ⟨en, eF⟩ := ev.uniq ev'
  subst en
  have off : ∀ k j, ¬ (ST b' k j ∨ SB k j) → gI τ2 k j = gI σ k j := fun k j hk => by
    rw [fB.1 k j (fun z => hk (Or.inr z))]
    exact offT k j (fun z => hk (Or.inl z))
  have off2 : ∀ k j, ¬ ((30 ≤ k ∧ k ≤ 41) ∨ (k = 0 ∧ j = 10) ∨ (21 ≤ k ∧ k ≤ 27) ∨ (59 ≤ k ∧ k ≤ 70) ∨ (k = 42 ∧ (j = 22 ∨ j = 26 ∨ j = 30 ∨ j = 31 ∨ j = 36))) → gI τ2 k j = gI σ k j := fun k j hk => off k j (fun z => hk (by unfold ST SKb S2 SB at z; omega))
  have bd' : BD (datO σ (-1) nT nH) τ2 b' F' n := (bd.fr fB (fun k j z => by unfold SB at z; omega)).congr eF
  have evc := (bd'.evc ok ev' hn).1
  have evm := KN.evm ok bd' hK ev' hn
  have hcb : EvC τ2 b nE st mh nH := hc.cg (fun c j hc5 => off _ _ (fun z => by unfold ST SKb S2 SB at z; omega))
  obtain ⟨hT, hH, hC, hD⟩ := hA
  refine ⟨rfl, nT, nH, nC, nD, ⟨?_, ?_, ?_, ?_⟩, ⟨?_, ?_, ?_⟩, b', b, n, nE, stF (datO σ (-1) nT nH) F', _, st, mh, by omega, fB.2.2.1.trans f.2.2.1, fB.2.2.2.trans f.2.2.2, evc, evm, hcb, hO⟩
  · simpa [IT, off2] using hT
  · simpa [IH, off2] using hH
  · simpa [IC, off2] using hC
  · simpa [ID, off2] using hD
  · simpa [IS, off2] using hS
  · simpa [IR, off2] using hR
  · refine ⟨?_, ?_, ?_⟩
    · rw [e22, big _ _ (by omega), hX.1, fB.1 0 10 (fun z => by unfold SB at z; omega), e10]
    · rw [off2 _ _ (by omega), off2 _ _ (by omega)]; exact hX.2.1
    · rw [off2 _ _ (by omega), off2 _ _ (by omega)]; exact hX.2.2
/-- the class's own part -/
theorem bldC {σ : Mem} {nT nH nC nD b b' nE nE' : Nat} {st mh st' mh' : Nat → Nat} (hA : IT σ nT ∧ IH σ nT nH ∧ IC σ nC ∧ ID σ nD) (hS : IS σ) (hR : IR σ) (hX : IX σ) (hbb : (b = 30 ∧ b' = 36) ∨ (b = 36 ∧ b' = 30)) (hc : EvC σ b nE st mh nH) (hm : EvM σ b nE st mh) (hc' : EvC σ b' nE' st' mh' nH) (ho : EvO σ nE' st' mh') : spX9_findEvents [.ref 0, .int (-1), .int 1] (sI (fillM (sI (sP (sQ σ b) b') b' 0 0) (b' + 5) 0 240 (-9)) 0 10 (gI σ 0 10 + 1)) (fun v σ1 => ∃ r : Int32, v = some (.int r) ∧ spX10_build [.ref 42] σ1 (fun w σ2 => w = some (.int r) ∧ Inv σ2)) := by
  obtain ⟨ok, dx, rl⟩ := datO_ok (lo := -1) hA hR
  have dx0 : DX (datO σ (-1) nT nH) (sP (sQ σ b) b') (-1) := dx
  have rl0 : RLD (datO σ (-1) nT nH) (sP (sQ σ b) b') := rl
  have f0 : Fr (ST b') (sP (sQ σ b) b') (fillM (sI (sP (sQ σ b) b') b' 0 0) (b' + 5) 0 240 (-9)) := by
    refine ⟨fun k j hn => ?_, fun _ _ => rfl, rfl, rfl⟩
    rw [gI_fillM, if_neg (fun z => hn (Or.inl (by unfold SKb; omega))), gI_off (fun z => hn (Or.inl (by unfold SKb; omega)))]
  have f1 : Fr (ST b') (sP (sQ σ b) b') (sI (fillM (sI (sP (sQ σ b) b') b' 0 0) (b' + 5) 0 240 (-9)) 0 10 (gI σ 0 10 + 1)) := f0.put (Or.inr (Or.inl ⟨rfl, rfl⟩))
  have bd : BD (datO σ (-1) nT nH) (sI (fillM (sI (sP (sQ σ b) b') b' 0 0) (b' + 5) 0 240 (-9)) 0 10 (gI σ 0 10 + 1)) b' (fun _ => 0) 0 := by
    refine ⟨?_, fun i hi => ?_, fun i hi => absurd hi (Nat.not_lt_zero i), fun i t h hi => absurd hi (Nat.not_lt_zero i), fun h hh _ => ?_⟩
    · rw [gI_off (by omega), gI_fillM, if_neg (by omega), gI_on ⟨rfl, rfl⟩]
      exact nI_0.symm
    · have e : i = 0 := by omega
      subst e
      rw [gI_off (by omega), gI_fillM, if_neg (by omega), gI_off (by omega)]
      have := hc'.2.2.2.2.2.1 0 (Nat.zero_le _)
      rw [hc'.2.2.1] at this
      exact this
    · rw [gI_off (by omega), gI_fillM, if_pos ⟨rfl, by omega, by omega⟩]
  refine And.intro rfl ⟨datO σ (-1) nT nH, -1, 1, b', rfl, by omega, rfl, ok, dx0.fr f1 (fun k j z => by unfold ST SKb S2 at z; omega), rl0.fr f1 (fun k j z => by unfold ST SKb S2 at z; omega), Or.inr rfl, fun _ => bd, fun τ' F n hn ev hF _ hB => ⟨nI n, rfl, ?_⟩⟩
  refine bldM hA hS hR hX hbb hc hm hc' ho (f1.trans (hF.mono (fun k j z => z.elim (fun y => Or.inr (Or.inr y)) (fun y => Or.inl y)))) ?_ ev hn (hB rfl)
  rw [hF.1 _ _ (fun z => by unfold SE S2 SKb at z; omega), gI_on ⟨rfl, rfl⟩]
set_option maxHeartbeats 8000000 in
theorem prBuild {σ : Mem} (h : Inv σ) : PRi spX9_build spX10_build [] σ := by
  obtain ⟨nT, nH, nC, nD, hA, ⟨hS, hR, hX⟩, b, b', nE, nE', st, mh, st', mh', hbb, hP, hQ, hc, hm, hc', ho⟩ := h
  have c := bldC hA hS hR hX hbb hc hm hc' ho
  clear hA hS hR hX hc hm hc' ho
  refine And.intro rfl ?_
  obtain ⟨s1, s2, s3, s4⟩ := σ
  have hP : s3 = b := hP
  have hQ : s4 = b' := hQ
  subst hP hQ
  rcases hbb with ⟨hb, hb'⟩ | ⟨hb, hb'⟩
  · subst hb hb'
    exact c3 (Nat.le_of_ble_eq_true rfl) rfl (c5 (Nat.le_of_ble_eq_true rfl) (Nat.le_of_ble_eq_true rfl) rfl ⟨240, rfl, by decide⟩ (And.intro (Nat.le_of_ble_eq_true rfl) c))
  · subst hb hb'
    exact c3 (Nat.le_of_ble_eq_true rfl) rfl (c5 (Nat.le_of_ble_eq_true rfl) (Nat.le_of_ble_eq_true rfl) rfl ⟨240, rfl, by decide⟩ (And.intro (Nat.le_of_ble_eq_true rfl) c))
