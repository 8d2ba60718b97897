def abL (x : Int64) : Int64 := if 0 ≤ x then x else - x
def wsF (f : Nat → Int64) (m : Int64) (n : Nat) : Int32 × Int64 := foldN (fun i a => if a.2 < f i then (nI i, f i) else a) (0, m) n
def csX9_worst : Cs := [(278, 1, false, spJ9_abs_067f4), (208, 1, true, spX0_has), (209, 1, true, spX0_sizeOf), (258, 1, true, spX9_fitFront), (274, 2, true, spX9_errorOfMember)]
def spX9_worst : SP := G [(2, [0]), (0, [])] (spF (fun vs σ => match vs with
  | [_, .int a1] => (gP σ = 30 ∨ gP σ = 36) ∧ (0 ≤ a1 ∧ a1 ≤ gI σ (gP σ) 0 - 1 → okF σ (a1) ∧ ∀ τ, ftT σ (a1) = τ → gP τ = gP σ ∧ gI τ (gP σ + 1) (rI (a1)) = gI σ (gP σ + 1) (rI (a1)) ∧ gI τ (gP σ + 1) (rI (a1 + 1)) = gI σ (gP σ + 1) (rI (a1 + 1)) ∧ ∀ i, i < nB σ (gP σ + 1) (a1) → okT τ (a1) (nI i))
  | _ => True) (fun vs σ r σ' => match vs with
  | [_, .int a1] => (¬ (0 ≤ a1 ∧ a1 ≤ gI σ (gP σ) 0 - 1) ∧ r = some (.int (-1)) ∧ σ' = σ) ∨ ((0 ≤ a1 ∧ a1 ≤ gI σ (gP σ) 0 - 1) ∧ ftT σ (a1) = σ' ∧ r = some (.int (if gL σ' 28 10 = 0 then -9 else (wsF (fun i => abL (erT σ' (a1) (nI i))) 0 (nB σ (gP σ + 1) (a1))).1)))
  | _ => True))
theorem mnX9_worst : Mono spX9_worst := Mono.spF
set_option maxRecDepth 20000 in
set_option maxHeartbeats 4000000 in
theorem bdX9_worst : Body 8 pgX9_worst roM csX9_worst lcX9 false spX9_worst := by
  intro vs σ K h Ok hst
  obtain ⟨hs, hp9, hk⟩ := h
  obtain ⟨vs, rfl, hs1⟩ := shpR1 hs
  obtain ⟨e, vs, rfl, hs2⟩ := shpI hs1
  cases shpN hs2
  obtain ⟨hb, hp⟩ := hp9
  have hk : ∀ (r : Option Value) (σ' : Mem), (¬ (0 ≤ e ∧ e ≤ gI σ (gP σ) 0 - 1) ∧ r = some (.int (-1)) ∧ σ' = σ) ∨ ((0 ≤ e ∧ e ≤ gI σ (gP σ) 0 - 1) ∧ ftT σ e = σ' ∧ r = some (.int (if gL σ' 28 10 = 0 then -9 else (wsF (fun i => abL (erT σ' e (nI i))) 0 (nB σ (gP σ + 1) e)).1))) → K r σ' := hk
  have hp : 0 ≤ e ∧ e ≤ gI σ (gP σ) 0 - 1 → okF σ e ∧ ∀ τ, ftT σ e = τ → gP τ = gP σ ∧ gI τ (gP σ + 1) (rI e) = gI σ (gP σ + 1) (rI e) ∧ gI τ (gP σ + 1) (rI (e + 1)) = gI σ (gP σ + 1) (rI (e + 1)) ∧ ∀ i, i < nB σ (gP σ + 1) e → okT τ e (nI i) := hp
  have loop : ∀ (τ : Mem) (n : Nat), (gP τ = 30 ∨ gP τ = 36) → gI τ (gP τ + 1) (rI (e + 1)) - gI τ (gP τ + 1) (rI e) = nI n → n ≤ 240 → vp_in (e + 1) 241 → vp_in e 241 → (∀ i, i < n → okT τ e (nI i)) → K (some (.int (wsF (fun i => abL (erT τ e (nI i))) 0 n).1)) τ → ∀ d i, i + d = n → ∀ x6 x7, Ok 24 [some (.ref 0), some (.int e), some (.int (wsF (fun i => abL (erT τ e (nI i))) 0 i).1), some (.long (wsF (fun i => abL (erT τ e (nI i))) 0 i).2), none, some (.int (nI i)), x6, x7] [] τ := by
    intro τ n hb o4 o5 v1 v2 hv hk d
    induction d with
    | zero =>
      intro i hi x6 x7
      have : i = n := by omega
      subst this
      have lt : gI τ (gP τ + 1) (rI (e + 1)) - gI τ (gP τ + 1) (rI e) ≤ nI i := by rw [o4]; exact nI_le (by omega) (by omega)
      refine hst [24] 60 _ _ _ _ ?_
      obtain ⟨s1, s2, s3, s4⟩ := τ
      rcases hb with hb | hb
      · have hb : s3 = 30 := hb
        subst hb
        exact c4 (Nat.le_of_ble_eq_true rfl) rfl ⟨v1, v2⟩ (br_t lt hk)
      · have hb : s3 = 36 := hb
        subst hb
        exact c4 (Nat.le_of_ble_eq_true rfl) rfl ⟨v1, v2⟩ (br_t lt hk)
    | succ d ih =>
      intro i hi x6 x7
      have ih := ih (i + 1) (by omega)
      rw [← nI_1] at ih
      have nlt : ¬ gI τ (gP τ + 1) (rI (e + 1)) - gI τ (gP τ + 1) (rI e) ≤ nI i := by rw [o4]; exact nI_ge (by omega) (by omega)
      have hin := hv i (by omega)
      have y1 : lg_cmp (abL (erT τ e (nI i))) (wsF (fun i => abL (erT τ e (nI i))) 0 i).2 ≤ 0 → Ok 24 [some (.ref 0), some (.int e), some (.int (wsF (fun i => abL (erT τ e (nI i))) 0 i).1), some (.long (wsF (fun i => abL (erT τ e (nI i))) 0 i).2), none, some (.int (nI i + 1)), some (.long (abL (erT τ e (nI i)))), none] [] τ := by
        intro c
        have e9 : wsF (fun i => abL (erT τ e (nI i))) 0 (i + 1) = wsF (fun i => abL (erT τ e (nI i))) 0 i := if_neg (Int64.not_lt.mpr ((lg_cmp_le _ _).mp c))
        rw [e9] at ih
        exact ih _ _
      have y2 : ¬ lg_cmp (abL (erT τ e (nI i))) (wsF (fun i => abL (erT τ e (nI i))) 0 i).2 ≤ 0 → Ok 24 [some (.ref 0), some (.int e), some (.int (nI i)), some (.long (abL (erT τ e (nI i)))), none, some (.int (nI i + 1)), some (.long (abL (erT τ e (nI i)))), none] [] τ := by
        intro c
        have e9 : wsF (fun i => abL (erT τ e (nI i))) 0 (i + 1) = (nI i, abL (erT τ e (nI i))) := if_pos (Int64.not_le.mp (fun z => c ((lg_cmp_le _ _).mpr z)))
        rw [e9] at ih
        exact ih _ _
      refine hst [24] 60 _ _ _ _ ?_
      obtain ⟨s1, s2, s3, s4⟩ := τ
      rcases hb with hb | hb
      · have hb : s3 = 30 := hb
        subst hb
        exact c4 (Nat.le_of_ble_eq_true rfl) rfl ⟨v1, v2⟩ (br_f nlt (c4 (Nat.le_of_ble_eq_true rfl) rfl hin (c5 (Nat.le_of_ble_eq_true rfl) (Nat.le_of_ble_eq_true rfl) rfl trivial (And.intro y1 y2))))
      · have hb : s3 = 36 := hb
        subst hb
        exact c4 (Nat.le_of_ble_eq_true rfl) rfl ⟨v1, v2⟩ (br_f nlt (c4 (Nat.le_of_ble_eq_true rfl) rfl hin (c5 (Nat.le_of_ble_eq_true rfl) (Nat.le_of_ble_eq_true rfl) rfl trivial (And.intro y1 y2))))
  by_cases q1 : 0 ≤ e ∧ e ≤ gI σ (gP σ) 0 - 1
  · obtain ⟨okf, FS⟩ := hp q1
    have okb := okf.2.1
    have l0 : ∀ τ : Mem, ftT σ e = τ → (lg_cmp (gL τ 28 10) (Int64.ofNat 0) = 0 → K (some (.int (-9))) τ) ∧ (¬ lg_cmp (gL τ 28 10) (Int64.ofNat 0) = 0 → Ok 24 [some (.ref 0), some (.int e), some (.int 0), some (.long 0), none, some (.int 0), none, none] [] τ) := by
      intro τ hτ
      obtain ⟨h1, h2, h3, h4⟩ := FS τ hτ
      refine ⟨fun c => hk _ _ (Or.inr ⟨q1, hτ, ?_⟩), fun c => ?_⟩
      · have c : gL τ 28 10 = 0 := (lg_cmp_eq _ _).mp c
        rw [if_pos c]
      · have hk := hk _ τ (Or.inr ⟨q1, hτ, rfl⟩)
        have c : ¬ gL τ 28 10 = 0 := fun z => c ((lg_cmp_eq _ _).mpr z)
        rw [if_neg c] at hk
        refine loop τ _ (by rw [h1]; exact hb) ?_ ?_ okb.2.2.1 okb.2.1 h4 hk _ 0 (Nat.zero_add _) none none
        · rw [h1, h2, h3, okb.2.2.2.1, okb.2.2.2.2.1, pk_sub (by have := okb.2.2.2.2.2.1; omega)]
          congr 1
          omega
        · have := okb.2.2.2.2.2.1; omega
    refine hst [24] 60 _ _ _ _ ?_
    clear hp FS loop hk
    obtain ⟨s1, s2, s3, s4⟩ := σ
    rcases hb with hb | hb
    · have hb : s3 = 30 := hb
      subst hb
      refine c4 (Nat.le_of_ble_eq_true rfl) rfl trivial (brbT q1 (c3 (Nat.le_of_ble_eq_true rfl) rfl (spVi okf (fun r τ hz => ?_))))
      obtain ⟨hr, hτ⟩ := pinj hz
      subst hr
      exact l0 τ hτ
    · have hb : s3 = 36 := hb
      subst hb
      refine c4 (Nat.le_of_ble_eq_true rfl) rfl trivial (brbT q1 (c3 (Nat.le_of_ble_eq_true rfl) rfl (spVi okf (fun r τ hz => ?_))))
      obtain ⟨hr, hτ⟩ := pinj hz
      subst hr
      exact l0 τ hτ
  · have hk := hk _ σ (Or.inl ⟨q1, rfl, rfl⟩)
    refine hst [24] 60 _ _ _ _ ?_
    obtain ⟨s1, s2, s3, s4⟩ := σ
    rcases hb with hb | hb
    · have hb : s3 = 30 := hb
      subst hb
      exact c4 (Nat.le_of_ble_eq_true rfl) rfl trivial (brbF q1 hk)
    · have hb : s3 = 36 := hb
      subst hb
      exact c4 (Nat.le_of_ble_eq_true rfl) rfl trivial (brbF q1 hk)
def csX10_worst : Cs := [(195, 1, true, spX10_isEvent), (208, 1, true, spX10_makeFront), (211, 2, true, spX10_errorOf)]
def spX10_worst : SP := G [(2, [42]), (0, [])] (spF (fun vs σ => match vs with
  | [_, .int a1] => (0 ≤ a1 ∧ a1 < gI σ 42 30 → okG σ (a1) ∧ ∀ τ, ftI σ (lsM σ (a1)) (sB σ 65 (a1)) (nB σ 65 (a1)) = τ → gI τ 65 (rI (a1)) = gI σ 65 (rI (a1)) ∧ gI τ 65 (rI (a1 + 1)) = gI σ 65 (rI (a1 + 1)) ∧ ∀ i, i < nB σ 65 (a1) → okN τ (a1) (nI i))
  | _ => True) (fun vs σ r σ' => match vs with
  | [_, .int a1] => (¬ (0 ≤ a1 ∧ a1 < gI σ 42 30) ∧ r = some (.int (-1)) ∧ σ' = σ) ∨ ((0 ≤ a1 ∧ a1 < gI σ 42 30) ∧ ftI σ (lsM σ (a1)) (sB σ 65 (a1)) (nB σ 65 (a1)) = σ' ∧ r = some (.int (if gL σ' 71 0 = 0 then -9 else (wsF (fun i => abL (erM σ' (a1) (nI i))) (-1) (nB σ 65 (a1))).1)))
  | _ => True))
theorem mnX10_worst : Mono spX10_worst := Mono.spF
theorem abL_lt {x : Int64} (h : x < 0) : abL x = - x := if_neg (Int64.not_le.mpr h)
theorem abL_ge {x : Int64} (h : ¬ x < 0) : abL x = x := if_pos (Int64.not_lt.mp h)
set_option maxRecDepth 20000 in
set_option maxHeartbeats 4000000 in
theorem bdX10_worst : Body 8 pgX10_worst roM csX10_worst lcX10 false spX10_worst := by
  intro vs σ K h Ok hst
  obtain ⟨hs, hp, hk⟩ := h
  obtain ⟨vs, rfl, hs1⟩ := shpR1 hs
  obtain ⟨e, vs, rfl, hs2⟩ := shpI hs1
  cases shpN hs2
  have hk : ∀ (r : Option Value) (σ' : Mem), (¬ (0 ≤ e ∧ e < gI σ 42 30) ∧ r = some (.int (-1)) ∧ σ' = σ) ∨ ((0 ≤ e ∧ e < gI σ 42 30) ∧ ftI σ (lsM σ e) (sB σ 65 e) (nB σ 65 e) = σ' ∧ r = some (.int (if gL σ' 71 0 = 0 then -9 else (wsF (fun i => abL (erM σ' e (nI i))) (-1) (nB σ 65 e)).1))) → K r σ' := hk
  have hp : 0 ≤ e ∧ e < gI σ 42 30 → okG σ e ∧ ∀ τ, ftI σ (lsM σ e) (sB σ 65 e) (nB σ 65 e) = τ → gI τ 65 (rI e) = gI σ 65 (rI e) ∧ gI τ 65 (rI (e + 1)) = gI σ 65 (rI (e + 1)) ∧ ∀ i, i < nB σ 65 e → okN τ e (nI i) := hp
  have loop : ∀ (τ : Mem) (n : Nat), gI τ 65 (rI (e + 1)) - gI τ 65 (rI e) = nI n → n ≤ 240 → vp_in (e + 1) 241 → vp_in e 241 → (∀ i, i < n → okN τ e (nI i)) → K (some (.int (wsF (fun i => abL (erM τ e (nI i))) (-1) n).1)) τ → ∀ d i, i + d = n → ∀ x6 x7, Ok 24 [some (.ref 42), some (.int e), some (.int (wsF (fun i => abL (erM τ e (nI i))) (-1) i).1), some (.long (wsF (fun i => abL (erM τ e (nI i))) (-1) i).2), none, some (.int (nI i)), x6, x7] [] τ := by
    intro τ n o4 o5 v1 v2 hv hk d
    induction d with
    | zero =>
      intro i hi x6 x7
      have : i = n := by omega
      subst this
      have lt : gI τ 65 (rI (e + 1)) - gI τ 65 (rI e) ≤ nI i := by rw [o4]; exact nI_le (by omega) (by omega)
      refine hst [24] 60 _ _ _ _ ?_
      exact And.intro v1 (And.intro v2 (br_t lt hk))
    | succ d ih =>
      intro i hi x6 x7
      have ih := ih (i + 1) (by omega)
      rw [← nI_1] at ih
      have nlt : ¬ gI τ 65 (rI (e + 1)) - gI τ 65 (rI e) ≤ nI i := by rw [o4]; exact nI_ge (by omega) (by omega)
      have hin := hv i (by omega)
      have y0 : ∀ z : Int64, z = abL (erM τ e (nI i)) → (lg_cmp z (wsF (fun i => abL (erM τ e (nI i))) (-1) i).2 ≤ 0 → Ok 24 [some (.ref 42), some (.int e), some (.int (wsF (fun i => abL (erM τ e (nI i))) (-1) i).1), some (.long (wsF (fun i => abL (erM τ e (nI i))) (-1) i).2), none, some (.int (nI i + 1)), some (.long z), none] [] τ) ∧ (¬ lg_cmp z (wsF (fun i => abL (erM τ e (nI i))) (-1) i).2 ≤ 0 → Ok 24 [some (.ref 42), some (.int e), some (.int (nI i)), some (.long z), none, some (.int (nI i + 1)), some (.long z), none] [] τ) := by
        intro z hz
        subst hz
        refine ⟨fun c => ?_, fun c => ?_⟩
        · have e9 : wsF (fun i => abL (erM τ e (nI i))) (-1) (i + 1) = wsF (fun i => abL (erM τ e (nI i))) (-1) i := if_neg (Int64.not_lt.mpr ((lg_cmp_le _ _).mp c))
          rw [e9] at ih
          exact ih _ _
        · have e9 : wsF (fun i => abL (erM τ e (nI i))) (-1) (i + 1) = (nI i, abL (erM τ e (nI i))) := if_pos (Int64.not_le.mp (fun z => c ((lg_cmp_le _ _).mpr z)))
          rw [e9] at ih
          exact ih _ _
      refine hst [24] 60 _ _ _ _ ?_
      refine And.intro v1 (And.intro v2 (br_f nlt (c4 (Nat.le_of_ble_eq_true rfl) rfl hin (And.intro (fun c => ?_) (fun c => ?_)))))
      · exact y0 _ (abL_ge (Int64.not_lt.mpr ((lg_cmp_ge _ _).mp c))).symm
      · exact y0 _ (abL_lt (Int64.not_le.mp (fun z => c ((lg_cmp_ge _ _).mpr z)))).symm
  by_cases q1 : 0 ≤ e ∧ e < gI σ 42 30
  · obtain ⟨okf, FS⟩ := hp q1
    have okb := okf.1
    have l0 : ∀ τ : Mem, ftI σ (lsM σ e) (sB σ 65 e) (nB σ 65 e) = τ → (lg_cmp (gL τ 71 0) (Int64.ofNat 0) = 0 → K (some (.int (-9))) τ) ∧ (¬ lg_cmp (gL τ 71 0) (Int64.ofNat 0) = 0 → Ok 24 [some (.ref 42), some (.int e), some (.int 0), some (.long (-1)), none, some (.int 0), none, none] [] τ) := by
      intro τ hτ
      obtain ⟨h2, h3, h4⟩ := FS τ hτ
      refine ⟨fun c => hk _ _ (Or.inr ⟨q1, hτ, ?_⟩), fun c => ?_⟩
      · have c : gL τ 71 0 = 0 := (lg_cmp_eq _ _).mp c
        rw [if_pos c]
      · have hk := hk _ τ (Or.inr ⟨q1, hτ, rfl⟩)
        have c : ¬ gL τ 71 0 = 0 := fun z => c ((lg_cmp_eq _ _).mpr z)
        rw [if_neg c] at hk
        refine loop τ _ ?_ ?_ okb.2.2.1 okb.2.1 h4 hk _ 0 (Nat.zero_add _) none none
        · rw [h2, h3, okb.2.2.2.1, okb.2.2.2.2.1, pk_sub (by have := okb.2.2.2.2.2.1; omega)]
          congr 1
          omega
        · have := okb.2.2.2.2.2.1; omega
    have v0 : vp_in (nI 0) 4 := inI (by decide) (by decide)
    refine hst [24] 60 _ _ _ _ ?_
    clear hp FS loop hk
    refine c4 (Nat.le_of_ble_eq_true rfl) rfl trivial (brbT q1 (c3 (Nat.le_of_ble_eq_true rfl) rfl (spVi okf (fun r τ hz => ?_))))
    obtain ⟨hr, hτ⟩ := pinj hz
    subst hr
    exact And.intro v0 (l0 τ hτ)
  · have hk := hk _ σ (Or.inl ⟨q1, rfl, rfl⟩)
    refine hst [24] 60 _ _ _ _ ?_
    exact c4 (Nat.le_of_ble_eq_true rfl) rfl trivial (brbF q1 hk)
