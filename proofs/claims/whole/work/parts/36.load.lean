/-! a contract that is the method's own body up to the heads of its loops -/
theorem wps_mono2 {pg : List Ent} {ro : Ro} {cs : Cs} {lcs : List (Nat × Int64)} {zr : Bool} {Q1 Q2 : Option Value → Mem → Prop} {Ok1 Ok2 : Nat → Lv → List Value → Mem → Prop} (hc : csM cs) (hQ : ∀ v σ, Q1 v σ → Q2 v σ) (hO : ∀ k lv st σ, Ok1 k lv st σ → Ok2 k lv st σ) {cut : List Nat} : ∀ (n k : Nat) (lv : Lv) (st : List Value) (σ : Mem), wps pg ro cs lcs zr cut Ok1 Q1 n k lv st σ → wps pg ro cs lcs zr cut Ok2 Q2 n k lv st σ := by
  intro n
  induction n with
  | zero => intro k lv st σ h; exact h
  | succ n ih =>
    intro k lv st σ h
    refine wstep_mono hc hQ (fun k lv st σ h => ?_) h
    cases hi : inC cut k with
    | true => rw [hi] at h; exact hO _ _ _ _ h
    | false => rw [hi] at h; exact ih k lv st σ h
abbrev LSp : Type := Nat → Lv → Mem → (Option Value → Mem → Prop) → Prop
def slc (nL : Nat) (pg : List Ent) (cs : Cs) (lcs : List (Nat × Int64)) (zr : Bool) (cut : List Nat) (N : Nat) (L : LSp) : SP := fun vs σ K => wps pg roM cs lcs zr cut (fun k lv st τ => st = [] ∧ L k lv τ K) K N 0 (padL nL (entL vs)) [] σ
theorem Mono.slc {nL : Nat} {pg : List Ent} {cs : Cs} {lcs : List (Nat × Int64)} {zr : Bool} {cut : List Nat} {N : Nat} {L : LSp} {sg : List (Nat × List Nat)} (hc : csM cs) (hL : ∀ k lv σ K1 K2, (∀ v σ', K1 v σ' → K2 v σ') → L k lv σ K1 → L k lv σ K2) : Mono (G sg (slc nL pg cs lcs zr cut N L)) := fun _ _ _ _ hK h => ⟨h.1, wps_mono2 hc hK (fun _ _ _ _ q => ⟨q.1, hL _ _ _ _ _ hK q.2⟩) _ _ _ _ _ h.2⟩
theorem Body.slc {nL : Nat} {pg : List Ent} {cs : Cs} {lcs : List (Nat × Int64)} {zr : Bool} {cut : List Nat} {N : Nat} {L : LSp} {sg : List (Nat × List Nat)} (hc : csM cs) (hL : ∀ (K : Option Value → Mem → Prop) (Ok : Nat → Lv → List Value → Mem → Prop), (∀ (cut : List Nat) (n k : Nat) (lv : Lv) (st : List Value) (σ : Mem), wps pg roM cs lcs zr cut Ok K n k lv st σ → Ok k lv st σ) → ∀ k lv σ, L k lv σ K → Ok k lv [] σ) : Body nL pg roM cs lcs zr (G sg (slc nL pg cs lcs zr cut N L)) := by
  intro vs σ K h Ok hst
  refine hst cut N 0 _ _ _ ?_
  refine wps_mono2 hc (fun _ _ q => q) (fun k lv st τ q => ?_) _ _ _ _ _ h.2
  obtain ⟨h1, h2⟩ := q
  subst h1
  exact hL K Ok hst k lv τ h2
/-! rows of a sheet -/
/-- the first that is not 0 of g i, g (i + 1) .., else z -/
def rfF (g : Nat → Int32) (z : Int32) : Nat → Nat → Int32
  | 0, _ => z
  | d + 1, i => if g i = 0 then rfF g z d (i + 1) else g i
theorem rfF_congr {g g' : Nat → Int32} {z : Int32} : ∀ {d i : Nat}, (∀ j, i ≤ j → j < i + d → g j = g' j) → rfF g z d i = rfF g' z d i
  | 0, _, _ => rfl
  | d + 1, i, h => by
    show (if g i = 0 then rfF g z d (i + 1) else g i) = (if g' i = 0 then rfF g' z d (i + 1) else g' i)
    rw [h i (Nat.le_refl _) (by omega), rfF_congr (d := d) (fun j h1 h2 => h j (by omega) (by omega))]
theorem rfF_0 {g : Nat → Int32} {z : Int32} : ∀ {d i : Nat}, rfF g z d i = 0 → z = 0 ∧ ∀ j, i ≤ j → j < i + d → g j = 0
  | 0, _, h => ⟨h, fun j h1 h2 => by omega⟩
  | d + 1, i, h => by
    have h : (if g i = 0 then rfF g z d (i + 1) else g i) = 0 := h
    by_cases c : g i = 0
    · rw [if_pos c] at h
      obtain ⟨h1, h2⟩ := rfF_0 h
      refine ⟨h1, fun j a b => ?_⟩
      rcases Nat.lt_or_ge i j with q | q
      · exact h2 j (by omega) (by omega)
      · have : j = i := by omega
        rw [this]; exact c
    · rw [if_neg c] at h
      exact absurd h c
def rowF (σ : Mem) (a p : Nat) (c : Int32) : Int32 := hitR c (gI σ a p) (gI σ a (p + 1)) (gI σ a (p + 2)) (gI σ a (p + 3))
def okLd (s i n : Int32) : Prop := s = nI (rI s) ∧ i = nI (rI i) ∧ n = nI (rI n) ∧ rI s ≤ 3 ∧ rI i + 4 * rI n ≤ 40
def pLd (s i : Int32) (j : Nat) : Nat := 40 * rI s + rI i + 4 * j
theorem okLd.at {s i n : Int32} (h : okLd s i n) {j : Nat} (hj : j < rI n) : (s * 40 + (i + 4 * nI j) = nI (pLd s i j) ∧ s * 40 + (i + 4 * nI j + 1) = nI (pLd s i j + 1) ∧ s * 40 + (i + 4 * nI j + 2) = nI (pLd s i j + 2) ∧ s * 40 + (i + 4 * nI j + 3) = nI (pLd s i j + 3)) ∧ (40 * s + i + 4 * nI j = nI (pLd s i j) ∧ 40 * s + i + 4 * nI j + 1 = nI (pLd s i j + 1) ∧ 40 * s + i + 4 * nI j + 2 = nI (pLd s i j + 2) ∧ 40 * s + i + 4 * nI j + 3 = nI (pLd s i j + 3)) ∧ pLd s i j + 3 < 160 := by
  obtain ⟨h1, h2, h3, h4, h5⟩ := h
  unfold pLd
  generalize rI s = k at *
  generalize rI i = l at *
  generalize rI n = m at *
  subst h1; subst h2
  have e : (40 : Int32) = nI 40 := rfl
  have e4 : (4 : Int32) = nI 4 := rfl
  have e1 : (1 : Int32) = nI 1 := rfl
  have e2 : (2 : Int32) = nI 2 := rfl
  have e3 : (3 : Int32) = nI 3 := rfl
  rw [e, e4, e1, e2, e3]
  simp only [pk_mul, nI_add]
  refine ⟨⟨?_, ?_, ?_, ?_⟩, ⟨?_, ?_, ?_, ?_⟩, ?_⟩ <;> first | exact trivial | omega | exact congrArg nI (by omega)
/-- HITS of rows, added by the class and by the reference: h there were -/
def adT (σ : Mem) (p : Nat → Nat) (h : Nat) : Nat → Mem := foldN (fun j τ => addT τ (h + j) (gI σ 20 (p j)) (gI σ 20 (p j + 1)) (gI σ 20 (p j + 2)) (gI σ 20 (p j + 3))) σ
def adM (σ : Mem) (p : Nat → Nat) (h : Nat) : Nat → Mem := foldN (fun j τ => addM τ (h + j) (gI σ 57 (p j)) (gI σ 57 (p j + 1)) (gI σ 57 (p j + 2)) (gI σ 57 (p j + 3))) σ
theorem adT_off {σ : Mem} {p : Nat → Nat} {h : Nat} {k i : Nat} (hk : ¬ ((5 ≤ k ∧ k ≤ 8) ∨ (k = 4 ∧ i = 4))) : ∀ j, gI (adT σ p h j) k i = gI σ k i
  | 0 => rfl
  | j + 1 => by
    show gI (addT (adT σ p h j) (h + j) _ _ _ _) k i = _
    unfold addT
    rw [gI_off (by omega), gI_off (by omega), gI_off (by omega), gI_off (by omega), gI_off (by omega), adT_off hk j]
theorem adM_off {σ : Mem} {p : Nat → Nat} {h : Nat} {k i : Nat} (hk : ¬ ((45 ≤ k ∧ k ≤ 48) ∨ (k = 42 ∧ i = 5))) : ∀ j, gI (adM σ p h j) k i = gI σ k i
  | 0 => rfl
  | j + 1 => by
    show gI (addM (adM σ p h j) (h + j) _ _ _ _) k i = _
    unfold addM
    rw [gI_off (by omega), gI_off (by omega), gI_off (by omega), gI_off (by omega), gI_off (by omega), adM_off hk j]
theorem adT_n {σ : Mem} {p : Nat → Nat} {h : Nat} (h0 : gI σ 4 4 = nI h) : ∀ j, gI (adT σ p h j) 4 4 = nI (h + j)
  | 0 => h0
  | j + 1 => gI_on ⟨rfl, rfl⟩
theorem adM_n {σ : Mem} {p : Nat → Nat} {h : Nat} (h0 : gI σ 42 5 = nI h) : ∀ j, gI (adM σ p h j) 42 5 = nI (h + j)
  | 0 => h0
  | j + 1 => gI_on ⟨rfl, rfl⟩
def csX9_refusalOfLoad : Cs := [(86, 4, true, spX9_refusalOfHit), (178, 2, true, spX7_cellAt)]
def spX9_refusalOfLoad : SP := G [(2, [0]), (0, []), (0, []), (0, [])] (spV (fun vs σ => match vs with
  | [_, .int a1, .int a2, .int a3] => cn (gI σ 1 2) 30 ∧ okLd (a1) (a2) (a3)
  | _ => True) (fun vs σ => match vs with
  | [_, .int a1, .int a2, .int a3] => (some (.int (rfF (fun j => rowF σ 20 (pLd (a1) (a2) j) (gI σ 1 2)) (if gI σ 4 4 + a3 ≤ 240 then 0 else -4) (rI (a3)) 0)), σ)
  | _ => (none, σ)))
theorem mnX9_refusalOfLoad : Mono spX9_refusalOfLoad := Mono.spV
set_option maxRecDepth 20000 in
set_option maxHeartbeats 4000000 in
theorem bdX9_refusalOfLoad : Body 7 pgX9_refusalOfLoad roM csX9_refusalOfLoad lcX9 false spX9_refusalOfLoad := by
  intro vs σ K h Ok hst
  obtain ⟨hs, hp9, hk⟩ := h
  obtain ⟨vs, rfl, hs1⟩ := shpR1 hs
  obtain ⟨s, vs, rfl, hs2⟩ := shpI hs1
  obtain ⟨i, vs, rfl, hs3⟩ := shpI hs2
  obtain ⟨n, vs, rfl, hs4⟩ := shpI hs3
  cases shpN hs4
  obtain ⟨hc, ok⟩ := hp9
  have ok : okLd s i n := ok
  have hk : K (some (.int (rfF (fun j => rowF σ 20 (pLd s i j) (gI σ 1 2)) (if gI σ 4 4 + n ≤ 240 then 0 else -4) (rI n) 0))) σ := hk
  have hn := ok.2.2.1
  have hm := ok.2.2.2.2
  have loop : ∀ d j, j + d = rI n → K (some (.int (rfF (fun j => rowF σ 20 (pLd s i j) (gI σ 1 2)) (if gI σ 4 4 + n ≤ 240 then 0 else -4) d j))) σ → ∀ x5 x6, Ok 2 [some (.ref 0), some (.int s), some (.int i), some (.int n), some (.int (nI j)), x5, x6] [] σ := by
    intro d
    induction d with
    | zero =>
      intro j hj hk x5 x6
      have hj : j = rI n := by omega
      have lt : n ≤ nI j := by rw [hj, ← hn]; exact Int32.le_refl _
      have hk : K (some (.int (if gI σ 4 4 + n ≤ 240 then 0 else -4))) σ := hk
      refine hst [2] 60 _ _ _ _ ?_
      refine br_t lt (And.intro (fun c => ?_) (fun c => ?_))
      · rw [if_pos c] at hk
        exact hk
      · rw [if_neg c] at hk
        exact hk
    | succ d ih =>
      intro j hj hk x5 x6
      have nlt : ¬ n ≤ nI j := by rw [hn]; exact nI_ge (by omega) (by omega)
      obtain ⟨⟨p0, p1, p2, p3⟩, -, hb⟩ := ok.at (j := j) (by omega)
      have v0 : vp_in (s * 40 + (i + 4 * nI j)) 160 := by rw [p0]; exact inI (by omega) (by decide)
      have v1 : vp_in (s * 40 + (i + 4 * nI j + 1)) 160 := by rw [p1]; exact inI (by omega) (by decide)
      have v2 : vp_in (s * 40 + (i + 4 * nI j + 2)) 160 := by rw [p2]; exact inI (by omega) (by decide)
      have v3 : vp_in (s * 40 + (i + 4 * nI j + 3)) 160 := by rw [p3]; exact inI (by omega) (by decide)
      have e0 : rI (s * 40 + (i + 4 * nI j)) = pLd s i j := by rw [p0]; exact rI_nI (by omega)
      have e1 : rI (s * 40 + (i + 4 * nI j + 1)) = pLd s i j + 1 := by rw [p1]; exact rI_nI (by omega)
      have e2 : rI (s * 40 + (i + 4 * nI j + 2)) = pLd s i j + 2 := by rw [p2]; exact rI_nI (by omega)
      have e3 : rI (s * 40 + (i + 4 * nI j + 3)) = pLd s i j + 3 := by rw [p3]; exact rI_nI (by omega)
      have hk : K (some (.int (if rowF σ 20 (pLd s i j) (gI σ 1 2) = 0 then rfF (fun j => rowF σ 20 (pLd s i j) (gI σ 1 2)) (if gI σ 4 4 + n ≤ 240 then 0 else -4) d (j + 1) else rowF σ 20 (pLd s i j) (gI σ 1 2)))) σ := hk
      have y : ∀ z : Int32, z = rowF σ 20 (pLd s i j) (gI σ 1 2) → (z = 0 → Ok 2 [some (.ref 0), some (.int s), some (.int i), some (.int n), some (.int (nI j + 1)), some (.int (i + 4 * nI j)), some (.int z)] [] σ) ∧ (¬ z = 0 → K (some (.int z)) σ) := by
        intro z hz
        refine ⟨fun c => ?_, fun c => ?_⟩
        · rw [nI_1]
          rw [hz] at c
          rw [if_pos c] at hk
          exact ih (j + 1) (by omega) hk _ _
        · rw [hz] at c ⊢
          rw [if_neg c] at hk
          exact hk
      refine hst [2] 60 _ _ _ _ ?_
      refine br_f nlt (c3 (Nat.le_of_ble_eq_true rfl) rfl (And.intro v0 (c3 (Nat.le_of_ble_eq_true rfl) rfl (And.intro v1 (c3 (Nat.le_of_ble_eq_true rfl) rfl (And.intro v2 (c3 (Nat.le_of_ble_eq_true rfl) rfl (And.intro v3 (c4 (Nat.le_of_ble_eq_true rfl) rfl hc ?_)))))))))
      refine y _ ?_
      show hitR (gI σ 1 2) (gI σ 20 (rI (s * 40 + (i + 4 * nI j)))) (gI σ 20 (rI (s * 40 + (i + 4 * nI j + 1)))) (gI σ 20 (rI (s * 40 + (i + 4 * nI j + 2)))) (gI σ 20 (rI (s * 40 + (i + 4 * nI j + 3)))) = _
      rw [e0, e1, e2, e3]
      rfl
  refine hst [2] 60 _ _ _ _ ?_
  exact loop _ 0 (Nat.zero_add _) hk none none
def csX9_load : Cs := [(100, 1, false, spX9_isLane), (96, 1, true, spX7_has), (103, 4, true, spX9_faultOfLoad), (106, 1, true, spX9_answerFault), (110, 3, true, spX9_refusalOfLoad), (114, 2, true, spX9_addHitOfSheet)]
def lsX9_load : LSp := fun k lv τ K => k = 40 ∧ ∃ (s i n : Int32) (x2 x5 x6 : Option Value), lv = [some (.ref 0), some (.int s), x2, some (.int i), some (.int n), x5, x6, some (.int 0)] ∧ okLd s i n ∧ gI τ 4 4 = nI (rI (gI τ 4 4)) ∧ rI (gI τ 4 4) + rI n ≤ 240 ∧ K (some (.int (nI (rI (gI τ 4 4) + rI n)))) (adT τ (pLd s i) (rI (gI τ 4 4)) (rI n))
def spX9_load : SP := G [(2, [0]), (0, []), (0, []), (0, []), (0, [])] (slc 8 pgX9_load csX9_load lcX9 false [40] 80 lsX9_load)
theorem csmX9_load : csM csX9_load := csM_cons mnX9_isLane (csM_cons mnX7_has (csM_cons mnX9_faultOfLoad (csM_cons mnX9_answerFault (csM_cons mnX9_refusalOfLoad (csM_cons mnX9_addHitOfSheet csM_nil)))))
theorem mnX9_load : Mono spX9_load := Mono.slc csmX9_load (fun k lv σ K1 K2 hK h => by
  obtain ⟨h0, s, i, n, x2, x5, x6, h1, h2, h3, h4, h5⟩ := h
  exact ⟨h0, s, i, n, x2, x5, x6, h1, h2, h3, h4, hK _ _ h5⟩)
set_option maxRecDepth 20000 in
set_option maxHeartbeats 4000000 in
theorem bdX9_load : Body 8 pgX9_load roM csX9_load lcX9 false spX9_load := Body.slc csmX9_load (fun K Ok hst k lv σ h => by
  obtain ⟨rfl, s, i, n, x2, x5, x6, rfl, ok, h3, h4, hk⟩ := h
  have hn := ok.2.2.1
  have hm := ok.2.2.2.2
  have loop : ∀ d j, j + d = rI n → ∀ x6, Ok 40 [some (.ref 0), some (.int s), x2, some (.int i), some (.int n), x5, x6, some (.int (nI j))] [] (adT σ (pLd s i) (rI (gI σ 4 4)) j) := by
    intro d
    induction d with
    | zero =>
      intro j hj x6
      have hj : j = rI n := by omega
      have lt : n ≤ nI j := by rw [hj, ← hn]; exact Int32.le_refl _
      refine hst [40] 60 _ _ _ _ ?_
      refine br_t lt ?_
      show K (some (.int (gI (adT σ (pLd s i) (rI (gI σ 4 4)) j) 4 4))) _
      rw [adT_n h3, hj]
      exact hk
    | succ d ih =>
      intro j hj x6
      have ih := ih (j + 1) (by omega) (clr x6)
      have nlt : ¬ n ≤ nI j := by rw [hn]; exact nI_ge (by omega) (by omega)
      obtain ⟨⟨p0, p1, p2, p3⟩, -, hb⟩ := ok.at (j := j) (by omega)
      have v0 : vp_in (s * 40 + (i + 4 * nI j)) 160 := by rw [p0]; exact inI (by omega) (by decide)
      have v1 : vp_in (s * 40 + (i + 4 * nI j + 1)) 160 := by rw [p1]; exact inI (by omega) (by decide)
      have v2 : vp_in (s * 40 + (i + 4 * nI j + 2)) 160 := by rw [p2]; exact inI (by omega) (by decide)
      have v3 : vp_in (s * 40 + (i + 4 * nI j + 3)) 160 := by rw [p3]; exact inI (by omega) (by decide)
      have e0 : rI (s * 40 + (i + 4 * nI j)) = pLd s i j := by rw [p0]; exact rI_nI (by omega)
      have e1 : rI (s * 40 + (i + 4 * nI j + 1)) = pLd s i j + 1 := by rw [p1]; exact rI_nI (by omega)
      have e2 : rI (s * 40 + (i + 4 * nI j + 2)) = pLd s i j + 2 := by rw [p2]; exact rI_nI (by omega)
      have e3 : rI (s * 40 + (i + 4 * nI j + 3)) = pLd s i j + 3 := by rw [p3]; exact rI_nI (by omega)
      refine hst [40] 60 _ _ _ _ ?_
      have c0 : ∀ p, gI (adT σ (pLd s i) (rI (gI σ 4 4)) j) 20 p = gI σ 20 p := fun p => adT_off (by omega) j
      have cn4 : gI (adT σ (pLd s i) (rI (gI σ 4 4)) j) 4 4 = nI (rI (gI σ 4 4) + j) := adT_n h3 j
      have ih : Ok 40 [some (.ref 0), some (.int s), x2, some (.int i), some (.int n), x5, clr x6, some (.int (nI (j + 1)))] [] (addT (adT σ (pLd s i) (rI (gI σ 4 4)) j) (rI (gI σ 4 4) + j) (gI σ 20 (pLd s i j)) (gI σ 20 (pLd s i j + 1)) (gI σ 20 (pLd s i j + 2)) (gI σ 20 (pLd s i j + 3))) := ih
      rw [← c0, ← c0, ← c0, ← c0, ← e3, ← e2, ← e1, ← e0, ← nI_1] at ih
      unfold addT at ih
      rw [← nI_1, ← cn4] at ih
      have hin : vp_in (gI (adT σ (pLd s i) (rI (gI σ 4 4)) j) 4 4) 240 := by rw [cn4]; exact inI (by omega) (by decide)
      have er : rI (gI (adT σ (pLd s i) (rI (gI σ 4 4)) j) 4 4) = rI (gI σ 4 4) + j := by rw [cn4]; exact rI_nI (by omega)
      rw [← er] at ih
      clear er c0 cn4 e0 e1 e2 e3
      generalize adT σ (pLd s i) (rI (gI σ 4 4)) j = τ at ih hin
      refine br_f nlt (c3 (Nat.le_of_ble_eq_true rfl) rfl ?_)
      refine c3 (Nat.le_of_ble_eq_true rfl) rfl (And.intro v0 (c3 (Nat.le_of_ble_eq_true rfl) rfl (And.intro v1 (c3 (Nat.le_of_ble_eq_true rfl) rfl (And.intro v2 (c3 (Nat.le_of_ble_eq_true rfl) rfl (And.intro v3 (c3 (Nat.le_of_ble_eq_true rfl) rfl (And.intro hin (And.intro hin (And.intro hin (And.intro hin ?_))))))))))))
      exact ih
  exact loop _ 0 (Nat.zero_add _) x6)
def csX10_load : Cs := [(110, 3, false, spX10_within), (118, 4, true, spX10_against), (122, 4, true, spX10_addHit), (126, 1, true, spX10_fails)]
def lsX10_load : LSp := fun k lv τ K => k = 76 ∧ ∃ (s i n : Int32) (x2 x6 x7 : Option Value), lv = [some (.ref 42), some (.int s), x2, some (.int i), some (.int n), some (.int 0), x6, x7] ∧ okLd s i n ∧ gI τ 42 5 = nI (rI (gI τ 42 5)) ∧ (rfF (fun j => rowF τ 57 (pLd s i j) (gI τ 42 2)) (if gI τ 42 5 + n ≤ 240 then 0 else -4) (rI n) 0 = 0 → rI (gI τ 42 5) + rI n ≤ 240 ∧ K (some (.int (nI (rI (gI τ 42 5) + rI n)))) (adM τ (pLd s i) (rI (gI τ 42 5)) (rI n))) ∧ (¬ rfF (fun j => rowF τ 57 (pLd s i j) (gI τ 42 2)) (if gI τ 42 5 + n ≤ 240 then 0 else -4) (rI n) 0 = 0 → K (some (.int (rfF (fun j => rowF τ 57 (pLd s i j) (gI τ 42 2)) (if gI τ 42 5 + n ≤ 240 then 0 else -4) (rI n) 0))) τ)
def spX10_load : SP := G [(2, [42]), (0, []), (0, []), (0, []), (0, [])] (slc 8 pgX10_load csX10_load lcX10 false [76] 80 lsX10_load)
theorem csmX10_load : csM csX10_load := csM_cons mnX10_within (csM_cons mnX10_against (csM_cons mnX10_addHit (csM_cons mnX10_fails csM_nil)))
theorem mnX10_load : Mono spX10_load := Mono.slc csmX10_load (fun k lv σ K1 K2 hK h => by
  obtain ⟨h0, s, i, n, x2, x5, x6, h1, h2, h3, h4, h5⟩ := h
  exact ⟨h0, s, i, n, x2, x5, x6, h1, h2, h3, fun q => ⟨(h4 q).1, hK _ _ (h4 q).2⟩, fun q => hK _ _ (h5 q)⟩)
set_option maxRecDepth 20000 in
set_option maxHeartbeats 4000000 in
theorem bdX10_load : Body 8 pgX10_load roM csX10_load lcX10 false spX10_load := Body.slc csmX10_load (fun K Ok hst k lv σ h => by
  obtain ⟨rfl, s, i, n, x2, x6, x7, rfl, ok, h3, h4, hk⟩ := h
  have hn := ok.2.2.1
  have hm := ok.2.2.2.2
  have loop : rI (gI σ 42 5) + rI n ≤ 240 → K (some (.int (nI (rI (gI σ 42 5) + rI n)))) (adM σ (pLd s i) (rI (gI σ 42 5)) (rI n)) → ∀ d j, j + d = rI n → ∀ x6 x7, Ok 130 [some (.ref 42), some (.int s), x2, some (.int i), some (.int n), some (.int (nI j)), x6, x7] [] (adM σ (pLd s i) (rI (gI σ 42 5)) j) := by
    intro h240 hk d
    induction d with
    | zero =>
      intro j hj x6 x7
      have hj : j = rI n := by omega
      have lt : n ≤ nI j := by rw [hj, ← hn]; exact Int32.le_refl _
      refine hst [130] 60 _ _ _ _ ?_
      refine br_t lt ?_
      show K (some (.int (gI (adM σ (pLd s i) (rI (gI σ 42 5)) j) 42 5))) _
      rw [adM_n h3, hj]
      exact hk
    | succ d ih =>
      intro j hj x6 x7
      have ih := fun x6 => ih (j + 1) (by omega) x6 x7
      have nlt : ¬ n ≤ nI j := by rw [hn]; exact nI_ge (by omega) (by omega)
      obtain ⟨-, ⟨p0, p1, p2, p3⟩, hb⟩ := ok.at (j := j) (by omega)
      have v0 : vp_in (40 * s + i + 4 * nI j) 160 := by rw [p0]; exact inI (by omega) (by decide)
      have v1 : vp_in (40 * s + i + 4 * nI j + 1) 160 := by rw [p1]; exact inI (by omega) (by decide)
      have v2 : vp_in (40 * s + i + 4 * nI j + 2) 160 := by rw [p2]; exact inI (by omega) (by decide)
      have v3 : vp_in (40 * s + i + 4 * nI j + 3) 160 := by rw [p3]; exact inI (by omega) (by decide)
      have e0 : rI (40 * s + i + 4 * nI j) = pLd s i j := by rw [p0]; exact rI_nI (by omega)
      have e1 : rI (40 * s + i + 4 * nI j + 1) = pLd s i j + 1 := by rw [p1]; exact rI_nI (by omega)
      have e2 : rI (40 * s + i + 4 * nI j + 2) = pLd s i j + 2 := by rw [p2]; exact rI_nI (by omega)
      have e3 : rI (40 * s + i + 4 * nI j + 3) = pLd s i j + 3 := by rw [p3]; exact rI_nI (by omega)
      refine hst [130] 60 _ _ _ _ ?_
      have c0 : ∀ p, gI (adM σ (pLd s i) (rI (gI σ 42 5)) j) 57 p = gI σ 57 p := fun p => adM_off (by omega) j
      have cn4 : gI (adM σ (pLd s i) (rI (gI σ 42 5)) j) 42 5 = nI (rI (gI σ 42 5) + j) := adM_n h3 j
      have ih : ∀ x6, Ok 130 [some (.ref 42), some (.int s), x2, some (.int i), some (.int n), some (.int (nI (j + 1))), x6, x7] [] (addM (adM σ (pLd s i) (rI (gI σ 42 5)) j) (rI (gI σ 42 5) + j) (gI σ 57 (pLd s i j)) (gI σ 57 (pLd s i j + 1)) (gI σ 57 (pLd s i j + 2)) (gI σ 57 (pLd s i j + 3))) := ih
      have ih := ih (some (.int (40 * s + i + 4 * nI j)))
      rw [← c0, ← c0, ← c0, ← c0, ← e3, ← e2, ← e1, ← e0, ← nI_1] at ih
      unfold addM at ih
      rw [← nI_1, ← cn4] at ih
      have hin : vp_in (gI (adM σ (pLd s i) (rI (gI σ 42 5)) j) 42 5) 240 := by rw [cn4]; exact inI (by omega) (by decide)
      have er : rI (gI (adM σ (pLd s i) (rI (gI σ 42 5)) j) 42 5) = rI (gI σ 42 5) + j := by rw [cn4]; exact rI_nI (by omega)
      rw [← er] at ih
      clear er c0 cn4 e0 e1 e2 e3
      generalize adM σ (pLd s i) (rI (gI σ 42 5)) j = τ at ih hin
      exact br_f nlt (And.intro v0 (And.intro v1 (And.intro v2 (And.intro v3 (c3 (Nat.le_of_ble_eq_true rfl) rfl (And.intro hin (And.intro hin (And.intro hin (And.intro hin ih)))))))))
  have first : ∀ d j, j + d = rI n → (rfF (fun j => rowF σ 57 (pLd s i j) (gI σ 42 2)) (if gI σ 42 5 + n ≤ 240 then 0 else -4) d j = 0 → rI (gI σ 42 5) + rI n ≤ 240 ∧ K (some (.int (nI (rI (gI σ 42 5) + rI n)))) (adM σ (pLd s i) (rI (gI σ 42 5)) (rI n))) → (¬ rfF (fun j => rowF σ 57 (pLd s i j) (gI σ 42 2)) (if gI σ 42 5 + n ≤ 240 then 0 else -4) d j = 0 → K (some (.int (rfF (fun j => rowF σ 57 (pLd s i j) (gI σ 42 2)) (if gI σ 42 5 + n ≤ 240 then 0 else -4) d j))) σ) → ∀ x6 x7, Ok 76 [some (.ref 42), some (.int s), x2, some (.int i), some (.int n), some (.int (nI j)), x6, x7] [] σ := by
    intro d
    induction d with
    | zero =>
      intro j hj h4 hk x6 x7
      have hj : j = rI n := by omega
      have lt : n ≤ nI j := by rw [hj, ← hn]; exact Int32.le_refl _
      have h4 : (if gI σ 42 5 + n ≤ 240 then 0 else -4) = (0 : Int32) → rI (gI σ 42 5) + rI n ≤ 240 ∧ K (some (.int (nI (rI (gI σ 42 5) + rI n)))) (adM σ (pLd s i) (rI (gI σ 42 5)) (rI n)) := h4
      have hk : ¬ (if gI σ 42 5 + n ≤ 240 then 0 else -4) = (0 : Int32) → K (some (.int (if gI σ 42 5 + n ≤ 240 then 0 else -4))) σ := hk
      refine hst [130] 60 _ _ _ _ ?_
      refine br_t lt (And.intro (fun c => ?_) (fun c => ?_))
      · rw [if_pos c] at h4
        obtain ⟨h5, h6⟩ := h4 rfl
        exact loop h5 h6 _ 0 (Nat.zero_add _) x6 x7
      · rw [if_neg c] at hk
        exact hk (by decide)
    | succ d ih =>
      intro j hj h4 hk x6 x7
      have nlt : ¬ n ≤ nI j := by rw [hn]; exact nI_ge (by omega) (by omega)
      obtain ⟨-, ⟨p0, p1, p2, p3⟩, hb⟩ := ok.at (j := j) (by omega)
      have v0 : vp_in (40 * s + i + 4 * nI j) 160 := by rw [p0]; exact inI (by omega) (by decide)
      have v1 : vp_in (40 * s + i + 4 * nI j + 1) 160 := by rw [p1]; exact inI (by omega) (by decide)
      have v2 : vp_in (40 * s + i + 4 * nI j + 2) 160 := by rw [p2]; exact inI (by omega) (by decide)
      have v3 : vp_in (40 * s + i + 4 * nI j + 3) 160 := by rw [p3]; exact inI (by omega) (by decide)
      have e0 : rI (40 * s + i + 4 * nI j) = pLd s i j := by rw [p0]; exact rI_nI (by omega)
      have e1 : rI (40 * s + i + 4 * nI j + 1) = pLd s i j + 1 := by rw [p1]; exact rI_nI (by omega)
      have e2 : rI (40 * s + i + 4 * nI j + 2) = pLd s i j + 2 := by rw [p2]; exact rI_nI (by omega)
      have e3 : rI (40 * s + i + 4 * nI j + 3) = pLd s i j + 3 := by rw [p3]; exact rI_nI (by omega)
      have y : ∀ z : Int32, z = rowF σ 57 (pLd s i j) (gI σ 42 2) → (z = 0 → Ok 76 [some (.ref 42), some (.int s), x2, some (.int i), some (.int n), some (.int (nI j + 1)), some (.int (40 * s + i + 4 * nI j)), some (.int z)] [] σ) ∧ (¬ z = 0 → K (some (.int z)) σ) := by
        intro z hz
        have st : rfF (fun j => rowF σ 57 (pLd s i j) (gI σ 42 2)) (if gI σ 42 5 + n ≤ 240 then 0 else -4) (d + 1) j = if rowF σ 57 (pLd s i j) (gI σ 42 2) = 0 then rfF (fun j => rowF σ 57 (pLd s i j) (gI σ 42 2)) (if gI σ 42 5 + n ≤ 240 then 0 else -4) d (j + 1) else rowF σ 57 (pLd s i j) (gI σ 42 2) := rfl
        rw [st] at h4 hk
        refine ⟨fun c => ?_, fun c => ?_⟩
        · rw [nI_1]
          rw [hz] at c
          rw [if_pos c] at hk h4
          exact ih (j + 1) (by omega) h4 hk _ _
        · rw [hz] at c ⊢
          rw [if_neg c] at hk
          exact hk c
      refine hst [76] 60 _ _ _ _ ?_
      refine br_f nlt (And.intro v0 (And.intro v1 (And.intro v2 (And.intro v3 (c4 (Nat.le_of_ble_eq_true rfl) rfl trivial ?_)))))
      refine y _ ?_
      show hitR (gI σ 42 2) (gI σ 57 (rI (40 * s + i + 4 * nI j))) (gI σ 57 (rI (40 * s + i + 4 * nI j + 1))) (gI σ 57 (rI (40 * s + i + 4 * nI j + 2))) (gI σ 57 (rI (40 * s + i + 4 * nI j + 3))) = _
      rw [e0, e1, e2, e3]
      rfl
  exact first _ 0 (Nat.zero_add _) h4 hk x6 x7)
