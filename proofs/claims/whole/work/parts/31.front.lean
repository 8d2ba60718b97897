def csX9_front : Cs := [(74, 3, false, spX9_isWithin), (208, 1, true, spX0_has), (258, 1, true, spX9_fitFront)]
def spX9_front : SP := G [(2, [0]), (0, []), (0, [])] (slf 3 pgX9_front csX9_front lcX9 false 48)
theorem bdX9_front : Body 3 pgX9_front roM csX9_front lcX9 false spX9_front := Body.slf
theorem mnX9_front : Mono spX9_front := Mono.slf (csM_cons mnX9_isWithin (csM_cons mnX0_has (csM_cons mnX9_fitFront csM_nil)))
def csX10_front : Cs := [(110, 3, false, spX10_within), (195, 1, true, spX10_isEvent), (208, 1, true, spX10_makeFront)]
def spX10_front : SP := G [(2, [42]), (0, []), (0, [])] (slf 3 pgX10_front csX10_front lcX10 false 31)
theorem bdX10_front : Body 3 pgX10_front roM csX10_front lcX10 false spX10_front := Body.slf
theorem mnX10_front : Mono spX10_front := Mono.slf (csM_cons mnX10_within (csM_cons mnX10_isEvent (csM_cons mnX10_makeFront csM_nil)))
def csX9_errorOfMember : Cs := [(295, 3, true, spX3_errorAt)]
def plT (σ : Mem) (e i : Int32) : Int32 := gI σ (gP σ + 1) (rI e) + i
def okT (σ : Mem) (e i : Int32) : Prop := (gP σ = 30 ∨ gP σ = 36) ∧ vp_in e 241 ∧ vp_in (plT σ e i) 240 ∧ vp_in (gI σ (gP σ + 3) (rI (plT σ e i))) 240 ∧ vp_in (gI σ 5 (rI (gI σ (gP σ + 3) (rI (plT σ e i))))) 30
def erT (σ : Mem) (e i : Int32) : Int64 := (gI σ (gP σ + 4) (rI (plT σ e i)) - gI σ 28 0).toInt64 * gL σ 28 10 - (gL σ 28 11 + gL σ 28 12 * xT σ (rI (plT σ e i)) + gL σ 28 13 * yT σ (rI (plT σ e i)))
def spX9_errorOfMember : SP := G [(2, [0]), (0, []), (0, [])] (spV (fun vs σ => match vs with
  | [_, .int a1, .int a2] => okT σ (a1) (a2)
  | _ => True) (fun vs σ => match vs with
  | [_, .int a1, .int a2] => (some (.long (erT σ (a1) (a2))), σ)
  | _ => (none, σ)))
theorem mnX9_errorOfMember : Mono spX9_errorOfMember := Mono.spV
set_option maxRecDepth 20000 in
set_option maxHeartbeats 4000000 in
theorem bdX9_errorOfMember : Body 5 pgX9_errorOfMember roM csX9_errorOfMember lcX9 false spX9_errorOfMember := by
  intro vs σ K h Ok hst
  obtain ⟨hs, hp9, hk⟩ := h
  obtain ⟨vs, rfl, hs1⟩ := shpR1 hs
  obtain ⟨e, vs, rfl, hs2⟩ := shpI hs1
  obtain ⟨i, vs, rfl, hs3⟩ := shpI hs2
  cases shpN hs3
  obtain ⟨hb, o1, o2, o3, o4⟩ := hp9
  have hk : K (some (.long (erT σ e i))) σ := hk
  refine hst [] 60 _ _ _ _ ?_
  obtain ⟨s1, s2, s3, s4⟩ := σ
  rcases hb with hb | hb
  · have hb : s3 = 30 := hb
    subst hb
    exact And.intro o1 (And.intro o2 (And.intro o3 (And.intro o4 (And.intro o4 (And.intro o2 (c3 (Nat.le_of_ble_eq_true rfl) rfl hk))))))
  · have hb : s3 = 36 := hb
    subst hb
    exact And.intro o1 (And.intro o2 (And.intro o3 (And.intro o4 (And.intro o4 (And.intro o2 (c3 (Nat.le_of_ble_eq_true rfl) rfl hk))))))
def csX10_errorOf : Cs := [(198, 1, true, spX10_leastTime)]
def plM (σ : Mem) (e i : Int32) : Int32 := gI σ 65 (rI e) + i
def okN (σ : Mem) (e i : Int32) : Prop := okB σ 65 e ∧ vp_in (plM σ e i) 240 ∧ vp_in (gI σ 66 (rI (plM σ e i))) 240 ∧ vp_in (gI σ 45 (rI (gI σ 66 (rI (plM σ e i))))) 30
def erM (σ : Mem) (e i : Int32) : Int64 := (gI σ 67 (rI (plM σ e i)) - lsM σ e).toInt64 * gL σ 71 0 - (gL σ 71 1 + gL σ 71 2 * xM σ (rI (plM σ e i)) + gL σ 71 3 * yM σ (rI (plM σ e i)))
def spX10_errorOf : SP := G [(2, [42]), (0, []), (0, [])] (spV (fun vs σ => match vs with
  | [_, .int a1, .int a2] => okN σ (a1) (a2)
  | _ => True) (fun vs σ => match vs with
  | [_, .int a1, .int a2] => (some (.long (erM σ (a1) (a2))), σ)
  | _ => (none, σ)))
theorem mnX10_errorOf : Mono spX10_errorOf := Mono.spV
set_option maxRecDepth 20000 in
set_option maxHeartbeats 4000000 in
theorem bdX10_errorOf : Body 5 pgX10_errorOf roM csX10_errorOf lcX10 false spX10_errorOf := by
  intro vs σ K h Ok hst
  obtain ⟨hs, hp9, hk⟩ := h
  obtain ⟨vs, rfl, hs1⟩ := shpR1 hs
  obtain ⟨e, vs, rfl, hs2⟩ := shpI hs1
  obtain ⟨i, vs, rfl, hs3⟩ := shpI hs2
  cases shpN hs3
  obtain ⟨o1, o2, o3, o4⟩ := hp9
  have hk : K (some (.long (erM σ e i))) σ := hk
  have v0 : vp_in (nI 0) 4 := inI (by decide) (by decide)
  have v1 : vp_in (nI 1) 4 := inI (by decide) (by decide)
  have v2 : vp_in (nI 2) 4 := inI (by decide) (by decide)
  have v3 : vp_in (nI 3) 4 := inI (by decide) (by decide)
  refine hst [] 80 _ _ _ _ ?_
  refine And.intro o1.2.1 (And.intro o2 (And.intro o3 (And.intro o2 (c4 (Nat.le_of_ble_eq_true rfl) rfl o1 ?_))))
  exact And.intro v0 (And.intro v1 (And.intro v2 (And.intro o4 (And.intro v3 (And.intro o4 hk)))))
def csX9_error : Cs := [(224, 2, true, spX0_hasMember), (258, 1, true, spX9_fitFront), (274, 2, true, spX9_errorOfMember)]
def spX9_error : SP := G [(2, [0]), (0, []), (0, [])] (slf 3 pgX9_error csX9_error lcX9 false 25)
theorem bdX9_error : Body 3 pgX9_error roM csX9_error lcX9 false spX9_error := Body.slf
theorem mnX9_error : Mono spX9_error := Mono.slf (csM_cons mnX0_hasMember (csM_cons mnX9_fitFront (csM_cons mnX9_errorOfMember csM_nil)))
def csX10_error : Cs := [(201, 2, true, spX10_isMember), (208, 1, true, spX10_makeFront), (211, 2, true, spX10_errorOf)]
def spX10_error : SP := G [(2, [42]), (0, []), (0, [])] (slf 3 pgX10_error csX10_error lcX10 false 25)
theorem bdX10_error : Body 3 pgX10_error roM csX10_error lcX10 false spX10_error := Body.slf
theorem mnX10_error : Mono spX10_error := Mono.slf (csM_cons mnX10_isMember (csM_cons mnX10_makeFront (csM_cons mnX10_errorOf csM_nil)))
theorem Inv.congr28 {σ σ' : Mem} (hg : ∀ k j, k ≠ 28 → gI σ' k j = gI σ k j) (hp : gP σ' = gP σ) (hq : gQ σ' = gQ σ) (h : Inv σ) : Inv σ' := by
  obtain ⟨nT, nH, nC, nD, ⟨hT, hH, hC, hD⟩, ⟨hS, hR, hX⟩, hE⟩ := h
  refine ⟨nT, nH, nC, nD, ⟨?_, ?_, ?_, ?_⟩, ⟨?_, ?_, ?_⟩, IE.congr (σ := σ) (fun k j hk => hg k j (by unfold Ek at hk; omega)) hp hq hE⟩
  · simpa [IT, hg] using hT
  · simpa [IH, hg] using hH
  · simpa [IC, hg] using hC
  · simpa [ID, hg] using hD
  · simpa [IS, hg] using hS
  · simpa [IR, hg] using hR
  · simpa [IX, hg] using hX
theorem ft_gI (σ : Mem) (e : Int32) {k j : Nat} (h : k ≠ 28) : gI (ftT σ e) k j = gI σ k j := by
  show (if k = 28 ∧ j = 0 then _ else gI σ k j) = gI σ k j
  rw [if_neg (fun z => h z.1)]
theorem ft_gP (σ : Mem) (e : Int32) : gP (ftT σ e) = gP σ := by
  unfold ftT slvF frI frM
  rw [gP_sL, gP_sL, gP_sL, gP_sL, gP_sL, gP_sL, gP_sL, gP_sL, gP_sL, gP_sL, gP_sL, gP_sL, gP_sL, gP_sI]
theorem ft_gQ (σ : Mem) (e : Int32) : gQ (ftT σ e) = gQ σ := by
  unfold ftT slvF frI frM
  rw [gQ_sL, gQ_sL, gQ_sL, gQ_sL, gQ_sL, gQ_sL, gQ_sL, gQ_sL, gQ_sL, gQ_sL, gQ_sL, gQ_sL, gQ_sL, gQ_sI]
theorem fi_gI (σ : Mem) (l : Int32) (s n k j : Nat) : gI (ftI σ l s n) k j = gI σ k j := by
  unfold ftI ftD
  rw [gI_sL, gI_sL, gI_sL, gI_sL]
theorem fi_gP (σ : Mem) (l : Int32) (s n : Nat) : gP (ftI σ l s n) = gP σ := by
  unfold ftI ftD
  rw [gP_sL, gP_sL, gP_sL, gP_sL]
theorem fi_gQ (σ : Mem) (l : Int32) (s n : Nat) : gQ (ftI σ l s n) = gQ σ := by
  unfold ftI ftD
  rw [gQ_sL, gQ_sL, gQ_sL, gQ_sL]
theorem Inv.ft {σ τ : Mem} (h : Inv σ) (h1 : ∀ k j, k ≠ 28 → gI τ k j = gI σ k j) (h2 : gP τ = gP σ) (h3 : gQ τ = gQ σ) (l : Int32) (s n : Nat) : Inv (ftI τ l s n) :=
  Inv.congr28 (σ := σ) (fun k j hk => (fi_gI τ l s n k j).trans (h1 k j hk)) ((fi_gP τ l s n).trans h2) ((fi_gQ τ l s n).trans h3) h
theorem lg_cmp_0 (x : Int64) : lg_cmp x 0 = 0 ↔ x = 0 := by
  unfold lg_cmp
  by_cases h : x > 0
  · rw [if_pos h]
    refine ⟨fun z => absurd z (by decide), fun z => ?_⟩
    rw [z] at h
    exact absurd h (by decide)
  · rw [if_neg h]
    by_cases h2 : x = 0
    · simp [h2]
    · rw [if_neg h2]
      exact ⟨fun z => absurd z (by decide), fun z => absurd z h2⟩
theorem fr_eq {σ : Mem} {nT nH b nE : Nat} {st mh : Nat → Nat} (hT : IT σ nT) (hH : IH σ nT nH) (hb : b = 30 ∨ b = 36) (hgp : gP σ = b) (hc : EvC σ b nE st mh nH) (hm : EvM σ b nE st mh) {e : Int32} {k : Nat} (hk : k < nE) (hw : e = nI k) : okF σ e ∧ okG σ e ∧ lsM σ e = lsT σ e ∧ gL (ftI σ (lsM σ e) (sB σ 65 e) (nB σ 65 e)) 71 0 = gL (ftT σ e) 28 10 ∧ gL (ftI σ (lsM σ e) (sB σ 65 e) (nB σ 65 e)) 71 1 = gL (ftT σ e) 28 11 ∧ gL (ftI σ (lsM σ e) (sB σ 65 e) (nB σ 65 e)) 71 2 = gL (ftT σ e) 28 12 ∧ gL (ftI σ (lsM σ e) (sB σ 65 e) (nB σ 65 e)) 71 3 = gL (ftT σ e) 28 13 := by
  have hn := hH.1
  have ht30 := hT.1
  have hlen := hc.2.2.2.1 k hk
  obtain ⟨B1, B2, B3⟩ := hc.okB hk
  obtain ⟨M1, M2, M3⟩ := EvM.okB hc hm hk
  rw [← hw] at B1 B2 B3 M1 M2 M3
  have okf : okF σ e := by
    refine ⟨by rw [hgp]; exact hb, by rw [hgp]; exact B1, fun i hi => ?_⟩
    rw [hgp] at hi ⊢
    rw [B3] at hi
    obtain ⟨x, t, g1, g2, g3, -, g5, -, g7, -, -, -, -⟩ := memAt hT hH hc hm hk i hi
    rw [B2, g7, g3, g5]
    exact ⟨inI (by omega) (by decide), inI (by omega) (by decide)⟩
  have okg : okG σ e := by
    refine ⟨M1, fun i hi => ?_⟩
    rw [M3] at hi
    obtain ⟨x, t, g1, g2, -, g4, -, g6, -, g8, -, -, -⟩ := memAt hT hH hc hm hk i hi
    rw [M2, g8, g4, g6]
    exact ⟨inI (by omega) (by decide), inI (by omega) (by decide)⟩
  have hl : lsM σ e = lsT σ e := by
    unfold lsM lsT
    rw [hgp, M2, M3, B2, B3]
    exact leastF_congr (by omega) (fun i hi => (memAt hT hH hc hm hk i hi).choose_spec.choose_spec.2.2.2.2.2.2.2.2.2.2)
  have hx : ∀ i, i < st (k + 1) - st k → xM σ (st k + i) = xT σ (st k + i) ∧ yM σ (st k + i) = yT σ (st k + i) ∧ tmM σ (lsM σ e) (st k + i) = tmT σ (lsT σ e) (st k + i) := by
    intro i hi
    obtain ⟨x, t, g1, g2, g3, g4, g5, g6, g7, g8, g9, g10, g11⟩ := memAt hT hH hc hm hk i hi
    unfold xM xT yM yT tmM tmT
    rw [hgp, g7, g8, g9, g10, (hT.2.2.2 t g2).1, (hT.2.2.2 t g2).2.1, g11, hl]
    exact ⟨rfl, rfl, rfl⟩
  refine ⟨okf, okg, hl, ?_⟩
  have q2 := smF_congr (f := xM σ) (g := xT σ) (s := st k) (n := st (k + 1) - st k) (fun i hi => (hx i hi).1)
  have q3 := smF_congr (f := yM σ) (g := yT σ) (s := st k) (n := st (k + 1) - st k) (fun i hi => (hx i hi).2.1)
  have q4 := smF_congr (f := fun p => xM σ p * xM σ p) (g := fun p => xT σ p * xT σ p) (s := st k) (n := st (k + 1) - st k) (fun i hi => by show _ * _ = _ * _; rw [(hx i hi).1])
  have q5 := smF_congr (f := fun p => xM σ p * yM σ p) (g := fun p => xT σ p * yT σ p) (s := st k) (n := st (k + 1) - st k) (fun i hi => by show _ * _ = _ * _; rw [(hx i hi).1, (hx i hi).2.1])
  have q6 := smF_congr (f := fun p => yM σ p * yM σ p) (g := fun p => yT σ p * yT σ p) (s := st k) (n := st (k + 1) - st k) (fun i hi => by show _ * _ = _ * _; rw [(hx i hi).2.1])
  have q7 := smF_congr (f := tmM σ (lsM σ e)) (g := tmT σ (lsT σ e)) (s := st k) (n := st (k + 1) - st k) (fun i hi => (hx i hi).2.2)
  have q8 := smF_congr (f := fun p => tmM σ (lsM σ e) p * xM σ p) (g := fun p => tmT σ (lsT σ e) p * xT σ p) (s := st k) (n := st (k + 1) - st k) (fun i hi => by show _ * _ = _ * _; rw [(hx i hi).1, (hx i hi).2.2])
  have q9 := smF_congr (f := fun p => tmM σ (lsM σ e) p * yM σ p) (g := fun p => tmT σ (lsT σ e) p * yT σ p) (s := st k) (n := st (k + 1) - st k) (fun i hi => by show _ * _ = _ * _; rw [(hx i hi).2.1, (hx i hi).2.2])
  unfold ftT
  rw [hgp, M2, M3, B2, B3]
  refine ⟨?_, ?_, ?_, ?_⟩
  · refine Eq.trans ?_ (det_d (smF (fun _ => 1) (st k) (st (k + 1) - st k)) (smF (xT σ) (st k) (st (k + 1) - st k)) (smF (yT σ) (st k) (st (k + 1) - st k)) (smF (fun p => xT σ p * xT σ p) (st k) (st (k + 1) - st k)) (smF (fun p => xT σ p * yT σ p) (st k) (st (k + 1) - st k)) (smF (fun p => yT σ p * yT σ p) (st k) (st (k + 1) - st k)))
    rw [← q2, ← q3, ← q4, ← q5, ← q6]
    rfl
  · refine Eq.trans ?_ (det_c (smF (xT σ) (st k) (st (k + 1) - st k)) (smF (yT σ) (st k) (st (k + 1) - st k)) (smF (fun p => xT σ p * xT σ p) (st k) (st (k + 1) - st k)) (smF (fun p => xT σ p * yT σ p) (st k) (st (k + 1) - st k)) (smF (fun p => yT σ p * yT σ p) (st k) (st (k + 1) - st k)) (smF (tmT σ (lsT σ e)) (st k) (st (k + 1) - st k)) (smF (fun p => tmT σ (lsT σ e) p * xT σ p) (st k) (st (k + 1) - st k)) (smF (fun p => tmT σ (lsT σ e) p * yT σ p) (st k) (st (k + 1) - st k)))
    rw [← q2, ← q3, ← q4, ← q5, ← q6, ← q7, ← q8, ← q9]
    rfl
  · refine Eq.trans ?_ (det_u (smF (fun _ => 1) (st k) (st (k + 1) - st k)) (smF (xT σ) (st k) (st (k + 1) - st k)) (smF (yT σ) (st k) (st (k + 1) - st k)) (smF (fun p => xT σ p * yT σ p) (st k) (st (k + 1) - st k)) (smF (fun p => yT σ p * yT σ p) (st k) (st (k + 1) - st k)) (smF (tmT σ (lsT σ e)) (st k) (st (k + 1) - st k)) (smF (fun p => tmT σ (lsT σ e) p * xT σ p) (st k) (st (k + 1) - st k)) (smF (fun p => tmT σ (lsT σ e) p * yT σ p) (st k) (st (k + 1) - st k)))
    rw [← q2, ← q3, ← q5, ← q6, ← q7, ← q8, ← q9]
    rfl
  · refine Eq.trans ?_ (det_v (smF (fun _ => 1) (st k) (st (k + 1) - st k)) (smF (xT σ) (st k) (st (k + 1) - st k)) (smF (yT σ) (st k) (st (k + 1) - st k)) (smF (fun p => xT σ p * xT σ p) (st k) (st (k + 1) - st k)) (smF (fun p => xT σ p * yT σ p) (st k) (st (k + 1) - st k)) (smF (tmT σ (lsT σ e)) (st k) (st (k + 1) - st k)) (smF (fun p => tmT σ (lsT σ e) p * xT σ p) (st k) (st (k + 1) - st k)) (smF (fun p => tmT σ (lsT σ e) p * yT σ p) (st k) (st (k + 1) - st k)))
    rw [← q2, ← q3, ← q4, ← q5, ← q7, ← q8, ← q9]
    rfl
theorem okB_congr {σ τ : Mem} (h : ∀ k j, k ≠ 28 → gI τ k j = gI σ k j) {a : Nat} (ha : a ≠ 28) (e : Int32) : okB τ a e = okB σ a e ∧ sB τ a e = sB σ a e ∧ nB τ a e = nB σ a e := by
  have e1 : sB τ a e = sB σ a e := by unfold sB; rw [h _ _ ha]
  have e2 : nB τ a e = nB σ a e := by unfold nB; rw [h _ _ ha, h _ _ ha]
  refine ⟨?_, e1, e2⟩
  unfold okB
  rw [e1, e2, h _ _ ha, h _ _ ha]
theorem fr_congr {σ τ : Mem} (h : ∀ k j, k ≠ 28 → gI τ k j = gI σ k j) (e : Int32) : okG τ e = okG σ e ∧ lsM τ e = lsM σ e ∧ xM τ = xM σ ∧ yM τ = yM σ ∧ tmM τ = tmM σ ∧ sB τ 65 e = sB σ 65 e ∧ nB τ 65 e = nB σ 65 e := by
  obtain ⟨e1, e2, e3⟩ := okB_congr h (a := 65) (by decide) e
  refine ⟨?_, ?_, ?_, ?_, ?_, e2, e3⟩
  · unfold okG
    rw [e1, e2, e3]
    simp only [h 66 _ (by decide), h 45 _ (by decide)]
  · unfold lsM
    rw [e2, e3]
    congr 1
    funext p
    exact h _ _ (by decide)
  · funext p
    unfold xM
    rw [h 66 _ (by decide), h 45 _ (by decide), h 43 _ (by decide)]
  · funext p
    unfold yM
    rw [h 66 _ (by decide), h 45 _ (by decide), h 44 _ (by decide)]
  · funext l p
    unfold tmM
    rw [h 67 _ (by decide)]
theorem fi_gL {σ : Mem} (l : Int32) (s n : Nat) : gL (ftI σ l s n) 71 0 = det (smF (fun _ => 1) s n) (smF (xM σ) s n) (smF (yM σ) s n) (smF (xM σ) s n) (smF (fun p => xM σ p * xM σ p) s n) (smF (fun p => xM σ p * yM σ p) s n) (smF (yM σ) s n) (smF (fun p => xM σ p * yM σ p) s n) (smF (fun p => yM σ p * yM σ p) s n) := rfl
theorem fi_congr {σ τ : Mem} (h : ∀ k j, k ≠ 28 → gI τ k j = gI σ k j) (l : Int32) (s n : Nat) : gL (ftI τ l s n) 71 0 = gL (ftI σ l s n) 71 0 ∧ gL (ftI τ l s n) 71 1 = gL (ftI σ l s n) 71 1 ∧ gL (ftI τ l s n) 71 2 = gL (ftI σ l s n) 71 2 ∧ gL (ftI τ l s n) 71 3 = gL (ftI σ l s n) 71 3 := by
  obtain ⟨-, -, e1, e2, e3, -, -⟩ := fr_congr h 0
  have A : ∀ (ρ : Mem) (x y t : Nat → Int64) (n : Int64) (s i : Nat), gL (ftD ρ n (smF x s i) (smF y s i) (smF (fun p => x p * x p) s i) (smF (fun p => x p * y p) s i) (smF (fun p => y p * y p) s i) (smF t s i) (smF (fun p => t p * x p) s i) (smF (fun p => t p * y p) s i)) 71 0 = gL (ftD σ n (smF x s i) (smF y s i) (smF (fun p => x p * x p) s i) (smF (fun p => x p * y p) s i) (smF (fun p => y p * y p) s i) (smF t s i) (smF (fun p => t p * x p) s i) (smF (fun p => t p * y p) s i)) 71 0 ∧ gL (ftD ρ n (smF x s i) (smF y s i) (smF (fun p => x p * x p) s i) (smF (fun p => x p * y p) s i) (smF (fun p => y p * y p) s i) (smF t s i) (smF (fun p => t p * x p) s i) (smF (fun p => t p * y p) s i)) 71 1 = gL (ftD σ n (smF x s i) (smF y s i) (smF (fun p => x p * x p) s i) (smF (fun p => x p * y p) s i) (smF (fun p => y p * y p) s i) (smF t s i) (smF (fun p => t p * x p) s i) (smF (fun p => t p * y p) s i)) 71 1 ∧ gL (ftD ρ n (smF x s i) (smF y s i) (smF (fun p => x p * x p) s i) (smF (fun p => x p * y p) s i) (smF (fun p => y p * y p) s i) (smF t s i) (smF (fun p => t p * x p) s i) (smF (fun p => t p * y p) s i)) 71 2 = gL (ftD σ n (smF x s i) (smF y s i) (smF (fun p => x p * x p) s i) (smF (fun p => x p * y p) s i) (smF (fun p => y p * y p) s i) (smF t s i) (smF (fun p => t p * x p) s i) (smF (fun p => t p * y p) s i)) 71 2 ∧ gL (ftD ρ n (smF x s i) (smF y s i) (smF (fun p => x p * x p) s i) (smF (fun p => x p * y p) s i) (smF (fun p => y p * y p) s i) (smF t s i) (smF (fun p => t p * x p) s i) (smF (fun p => t p * y p) s i)) 71 3 = gL (ftD σ n (smF x s i) (smF y s i) (smF (fun p => x p * x p) s i) (smF (fun p => x p * y p) s i) (smF (fun p => y p * y p) s i) (smF t s i) (smF (fun p => t p * x p) s i) (smF (fun p => t p * y p) s i)) 71 3 := by
    intro ρ x y t n s i
    unfold ftD
    generalize smF x s i = a1
    generalize smF y s i = a2
    generalize smF (fun p => x p * x p) s i = a3
    generalize smF (fun p => x p * y p) s i = a4
    generalize smF (fun p => y p * y p) s i = a5
    generalize smF t s i = a6
    generalize smF (fun p => t p * x p) s i = a7
    generalize smF (fun p => t p * y p) s i = a8
    exact ⟨rfl, rfl, rfl, rfl⟩
  unfold ftI
  rw [e1, e2, e3]
  exact A τ (xM σ) (yM σ) (tmM σ l) _ s n
/-- the front of event e by both, the reference's behind the class's -/
theorem fr_eq2 {σ : Mem} {nT nH b nE : Nat} {st mh : Nat → Nat} (hT : IT σ nT) (hH : IH σ nT nH) (hb : b = 30 ∨ b = 36) (hgp : gP σ = b) (hc : EvC σ b nE st mh nH) (hm : EvM σ b nE st mh) {e : Int32} {k : Nat} (hk : k < nE) (hw : e = nI k) : okF σ e ∧ ∀ τ : Mem, (∀ k j, k ≠ 28 → gI τ k j = gI σ k j) → okG τ e ∧ lsM τ e = lsT σ e ∧ ∀ ρ, ftI τ (lsM τ e) (sB τ 65 e) (nB τ 65 e) = ρ → gL ρ 71 0 = gL (ftT σ e) 28 10 ∧ gL ρ 71 1 = gL (ftT σ e) 28 11 ∧ gL ρ 71 2 = gL (ftT σ e) 28 12 ∧ gL ρ 71 3 = gL (ftT σ e) 28 13 := by
  obtain ⟨f1, f2, f3, f4, f5, f6, f7⟩ := fr_eq hT hH hb hgp hc hm hk hw
  refine ⟨f1, fun τ h => ?_⟩
  obtain ⟨g1, g2, g3, g4, g5, g6, g7⟩ := fr_congr h e
  refine ⟨by rw [g1]; exact f2, g2.trans f3, fun ρ hρ => ?_⟩
  obtain ⟨k1, k2, k3, k4⟩ := fi_congr h (lsM τ e) (sB τ 65 e) (nB τ 65 e)
  rw [← hρ, k1, k2, k3, k4, g2, g6, g7]
  exact ⟨f4, f5, f6, f7⟩
