/-! counting -/
def cntF (p : Nat → Bool) (n : Nat) : Int32 := foldN (fun i a => bif p i then a + 1 else a) 0 n
theorem cntF_T {p : Nat → Bool} {n : Nat} (h : p n = true) : cntF p n + 1 = cntF p (n + 1) := by
  show _ = (bif p n then cntF p n + 1 else cntF p n)
  rw [h]; rfl
theorem cntF_F {p : Nat → Bool} {n : Nat} (h : p n = false) : cntF p n = cntF p (n + 1) := by
  show _ = (bif p n then cntF p n + 1 else cntF p n)
  rw [h]; rfl
theorem cntF_congr {p q : Nat → Bool} {n : Nat} (h : ∀ i, i < n → p i = q i) : cntF p n = cntF q n := foldN_congr rfl (fun i hi x => by rw [h i hi])
def ctN (p : Nat → Bool) : Nat → Nat
  | 0 => 0
  | n + 1 => ctN p n + (bif p n then 1 else 0)
theorem cntF_nat (p : Nat → Bool) : ∀ n, cntF p n = nI (ctN p n)
  | 0 => rfl
  | n + 1 => by
    show (bif p n then cntF p n + 1 else cntF p n) = nI (ctN p n + (bif p n then 1 else 0))
    rw [cntF_nat p n]
    cases p n
    · rfl
    · exact nI_1 _
theorem ctN_le (p : Nat → Bool) : ∀ n, ctN p n ≤ n
  | 0 => Nat.le_refl 0
  | n + 1 => by
    have := ctN_le p n
    show ctN p n + (bif p n then 1 else 0) ≤ n + 1
    cases p n <;> simp <;> omega
theorem ctN_congr {p q : Nat → Bool} : ∀ {n : Nat}, (∀ i, i < n → p i = q i) → ctN p n = ctN q n
  | 0, _ => rfl
  | n + 1, h => by
    show ctN p n + _ = ctN q n + _
    rw [ctN_congr (fun i hi => h i (Nat.lt_succ_of_lt hi)), h n (Nat.lt_succ_self n)]
theorem ctN_zero {p : Nat → Bool} : ∀ {n : Nat}, (∀ i, i < n → p i = false) → ctN p n = 0
  | 0, _ => rfl
  | n + 1, h => by
    show ctN p n + _ = 0
    rw [ctN_zero (fun i hi => h i (Nat.lt_succ_of_lt hi)), h n (Nat.lt_succ_self n)]
    rfl
/-- one place more -/
theorem ctN_one {p q : Nat → Bool} {a : Nat} : ∀ {n : Nat}, a < n → p a = false → q a = true → (∀ i, i < n → i ≠ a → q i = p i) → ctN q n = ctN p n + 1
  | 0, h, _, _, _ => absurd h (Nat.not_lt_zero a)
  | n + 1, h, hp, hq, ho => by
    show ctN q n + _ = ctN p n + _ + 1
    rcases Nat.lt_or_ge a n with g | g
    · rw [ctN_one g hp hq (fun i hi => ho i (Nat.lt_succ_of_lt hi)), ho n (Nat.lt_succ_self n) (by omega)]
      omega
    · have : a = n := by omega
      subst this
      rw [ctN_congr (p := q) (q := p) (fun i hi => ho i (Nat.lt_succ_of_lt hi) (by omega)), hp, hq]
      rfl
/-- counting the places of a list of different numbers is counting the numbers -/
theorem ctN_map {f : Nat → Nat} {N : Nat} (P : Nat → Bool) : ∀ {m : Nat}, (∀ i, i < m → f i < N) → (∀ i j, i < m → j < m → f i = f j → i = j) → ctN (fun i => P (f i)) m = ctN (fun h => P h && (List.range m).any (fun i => f i == h)) N
  | 0, _, _ => by
    rw [ctN_zero (n := N)]
    · rfl
    · intro i _; simp
  | m + 1, h1, h2 => by
    have ih := ctN_map (f := f) (N := N) P (m := m) (fun i hi => h1 i (Nat.lt_succ_of_lt hi)) (fun i j hi hj => h2 i j (Nat.lt_succ_of_lt hi) (Nat.lt_succ_of_lt hj))
    show ctN (fun i => P (f i)) m + (bif P (f m) then 1 else 0) = _
    rw [ih]
    have nin : (List.range m).any (fun i => f i == f m) = false := by
      rw [List.any_eq_false]
      intro i hi
      simp
      intro z
      have := h2 i m (Nat.lt_succ_of_lt (List.mem_range.mp hi)) (Nat.lt_succ_self m) z
      have := List.mem_range.mp hi
      omega
    cases hP : P (f m) with
    | false =>
      show _ + 0 = _
      rw [Nat.add_zero]
      refine ctN_congr (fun x hx => ?_)
      rw [List.range_succ, List.any_append]
      by_cases e : f m = x
      · rw [← e, hP]; rfl
      · have e9 : (f m == x) = false := by simpa using e
        simp [e9]
    | true =>
      show _ + 1 = _
      refine (ctN_one (a := f m) (h1 m (Nat.lt_succ_self m)) ?_ ?_ ?_).symm
      · show (P (f m) && _) = false
        rw [nin, Bool.and_false]
      · show (P (f m) && _) = true
        rw [hP, List.range_succ, List.any_append]
        simp
      · intro x hx hne
        show (P x && _) = (P x && _)
        rw [List.range_succ, List.any_append]
        have e9 : (f m == x) = false := by simpa using Ne.symm hne
        simp [e9]
def csX9_countHits : Cs := []
def spX9_countHits : SP := G [(2, [0]), (0, [])] (spV (fun _ σ => cn (gI σ 4 4) 240) (fun vs σ => match vs with
  | [_, .int a1] => (some (.int (cntF (fun i => decide (gI σ 5 i = a1)) (rI (gI σ 4 4)))), σ)
  | _ => (none, σ)))
theorem mnX9_countHits : Mono spX9_countHits := Mono.spV
theorem bdX9_countHits : Body 4 pgX9_countHits roM csX9_countHits lcX9 false spX9_countHits := by
  intro vs σ K h Ok hst
  obtain ⟨hs, hp9, hk⟩ := h
  obtain ⟨vs, rfl, hs1⟩ := shpR1 hs
  obtain ⟨t, vs, rfl, hs2⟩ := shpI hs1
  cases shpN hs2
  obtain ⟨hc, hn⟩ := hp9
  have hk : K (some (.int (cntF (fun i => decide (gI σ 5 i = t)) (rI (gI σ 4 4))))) σ := hk
  generalize rI (gI σ 4 4) = n at hc hn hk
  have loop : ∀ d i, i + d = n → Ok 4 [some (.ref 0), some (.int t), some (.int (cntF (fun i => decide (gI σ 5 i = t)) i)), some (.int (nI i))] [] σ := by
    intro d
    induction d with
    | zero =>
      intro i hi
      refine hst [4] 40 _ _ _ _ ?_
      refine And.intro (fun c => ?_) (fun c => absurd (by rw [hc]; exact nI_le (by omega) (by omega)) c)
      have : i = n := by omega
      subst this
      exact hk
    | succ d ih =>
      intro i hi
      have ih := ih (i + 1) (by omega)
      rw [← nI_1] at ih
      have hr : rI (nI i) = i := rI_nI (by omega)
      refine hst [4] 40 _ _ _ _ ?_
      refine And.intro (fun c => absurd (by rw [← hc]; exact c) (nI_ge (b := n) (a := i) (by omega) (by omega))) (fun c => ?_)
      refine And.intro (inI (by omega) (by decide)) ?_
      refine And.intro (fun d1 => ?_) (fun d1 => ?_)
      · rw [hr] at d1
        rw [← cntF_T (by simpa using d1)] at ih
        exact ih
      · rw [hr] at d1
        rw [← cntF_F (by simpa using d1)] at ih
        exact ih
  refine hst [4] 40 _ _ _ _ ?_
  exact loop n 0 (by omega)
def csX9_countHitsWhenDown : Cs := [(159, 1, true, spX9_isLookedAt)]
def dwB (σ : Mem) (h : Nat) : Bool := decide (gI σ 6 h < endF (gI σ 14) (gI σ 15) (gI σ 16) (gI σ 5 h) (gI σ 6 h) (rI (gI σ 13 3)))
def spX9_countHitsWhenDown : SP := G [(2, [0]), (0, [])] (spV (fun _ σ => cn (gI σ 4 4) 240 ∧ cn (gI σ 13 3) 20) (fun vs σ => match vs with
  | [_, .int a1] => (some (.int (cntF (fun i => decide (gI σ 5 i = a1) && dwB σ i) (rI (gI σ 4 4)))), σ)
  | _ => (none, σ)))
theorem mnX9_countHitsWhenDown : Mono spX9_countHitsWhenDown := Mono.spV
theorem bdX9_countHitsWhenDown : Body 4 pgX9_countHitsWhenDown roM csX9_countHitsWhenDown lcX9 false spX9_countHitsWhenDown := by
  intro vs σ K h Ok hst
  obtain ⟨hs, hp9, hk⟩ := h
  obtain ⟨vs, rfl, hs1⟩ := shpR1 hs
  obtain ⟨t, vs, rfl, hs2⟩ := shpI hs1
  cases shpN hs2
  obtain ⟨⟨hc, hn⟩, hd⟩ := hp9
  have hk : K (some (.int (cntF (fun i => decide (gI σ 5 i = t) && dwB σ i) (rI (gI σ 4 4))))) σ := hk
  generalize rI (gI σ 4 4) = n at hc hn hk
  have loop : ∀ d i, i + d = n → Ok 4 [some (.ref 0), some (.int t), some (.int (cntF (fun i => decide (gI σ 5 i = t) && dwB σ i) i)), some (.int (nI i))] [] σ := by
    intro d
    induction d with
    | zero =>
      intro i hi
      refine hst [4] 40 _ _ _ _ ?_
      refine And.intro (fun c => ?_) (fun c => absurd (by rw [hc]; exact nI_le (by omega) (by omega)) c)
      have : i = n := by omega
      subst this
      exact hk
    | succ d ih =>
      intro i hi
      have ih := ih (i + 1) (by omega)
      rw [← nI_1] at ih
      have hr : rI (nI i) = i := rI_nI (by omega)
      refine hst [4] 40 _ _ _ _ ?_
      refine And.intro (fun c => absurd (by rw [← hc]; exact c) (nI_ge (b := n) (a := i) (by omega) (by omega))) (fun c => ?_)
      refine And.intro (inI (by omega) (by decide)) ?_
      refine And.intro (fun d1 => ?_) (fun d1 => ?_)
      · rw [hr] at d1
        refine c4 (Nat.le_of_ble_eq_true rfl) rfl ⟨inI (by omega) (by decide), hd⟩ (And.intro (fun q => ?_) (fun q => ?_))
        · have e : dwB σ i = true := by
            rw [hr] at q
            unfold dwB
            by_cases z : gI σ 6 i < endF (gI σ 14) (gI σ 15) (gI σ 16) (gI σ 5 i) (gI σ 6 i) (rI (gI σ 13 3))
            · exact decide_eq_true z
            · rw [if_neg z] at q; exact absurd q (by decide)
          rw [← cntF_T (by simp [d1, e])] at ih
          exact ih
        · have e : dwB σ i = false := by
            rw [hr] at q
            unfold dwB
            by_cases z : gI σ 6 i < endF (gI σ 14) (gI σ 15) (gI σ 16) (gI σ 5 i) (gI σ 6 i) (rI (gI σ 13 3))
            · rw [if_pos z] at q; exact absurd rfl q
            · exact decide_eq_false z
          rw [← cntF_F (by simp [e])] at ih
          exact ih
      · rw [hr] at d1
        rw [← cntF_F (by simp [d1])] at ih
        exact ih
  refine hst [4] 40 _ _ _ _ ?_
  exact loop n 0 (by omega)
def csX9_countMembers : Cs := []
def spX9_countMembers : SP := G [(2, [0]), (0, [])] (spV (fun _ σ => cn (gI σ 4 4) 240 ∧ (gP σ = 30 ∨ gP σ = 36)) (fun vs σ => match vs with
  | [_, .int a1] => (some (.int (cntF (fun i => decide (gI σ 5 i = a1) && !decide (gI σ (gP σ + 5) i = -9)) (rI (gI σ 4 4)))), σ)
  | _ => (none, σ)))
theorem mnX9_countMembers : Mono spX9_countMembers := Mono.spV
theorem bdX9_countMembers : Body 4 pgX9_countMembers roM csX9_countMembers lcX9 false spX9_countMembers := by
  intro vs σ K h Ok hst
  obtain ⟨hs, hp9, hk⟩ := h
  obtain ⟨vs, rfl, hs1⟩ := shpR1 hs
  obtain ⟨t, vs, rfl, hs2⟩ := shpI hs1
  cases shpN hs2
  obtain ⟨⟨hc, hn⟩, hb⟩ := hp9
  have hk : K (some (.int (cntF (fun i => decide (gI σ 5 i = t) && !decide (gI σ (gP σ + 5) i = -9)) (rI (gI σ 4 4))))) σ := hk
  generalize rI (gI σ 4 4) = n at hc hn hk
  have loop : ∀ d i, i + d = n → Ok 4 [some (.ref 0), some (.int t), some (.int (cntF (fun i => decide (gI σ 5 i = t) && !decide (gI σ (gP σ + 5) i = -9)) i)), some (.int (nI i))] [] σ := by
    intro d
    induction d with
    | zero =>
      intro i hi
      refine hst [4] 40 _ _ _ _ ?_
      refine And.intro (fun c => ?_) (fun c => absurd (by rw [hc]; exact nI_le (by omega) (by omega)) c)
      have : i = n := by omega
      subst this
      exact hk
    | succ d ih =>
      intro i hi
      have ih := ih (i + 1) (by omega)
      rw [← nI_1] at ih
      have hr : rI (nI i) = i := rI_nI (by omega)
      refine hst [4] 40 _ _ _ _ ?_
      refine And.intro (fun c => absurd (by rw [← hc]; exact c) (nI_ge (b := n) (a := i) (by omega) (by omega))) (fun c => ?_)
      refine And.intro (inI (by omega) (by decide)) ?_
      refine And.intro (fun d1 => ?_) (fun d1 => ?_)
      · rw [hr] at d1
        have key : vp_in (nI i) 240 ∧ ((gI σ (gP σ + 5) (rI (nI i)) = -9 → Ok 4 [some (.ref 0), some (.int t), some (.int (cntF (fun i => decide (gI σ 5 i = t) && !decide (gI σ (gP σ + 5) i = -9)) i)), some (.int (nI i + 1))] [] σ) ∧ (¬ gI σ (gP σ + 5) (rI (nI i)) = -9 → Ok 4 [some (.ref 0), some (.int t), some (.int (cntF (fun i => decide (gI σ 5 i = t) && !decide (gI σ (gP σ + 5) i = -9)) i + 1)), some (.int (nI i + 1))] [] σ)) := by
          refine ⟨inI (by omega) (by decide), fun q => ?_, fun q => ?_⟩
          · rw [hr] at q
            rw [← cntF_F (by simp [q])] at ih
            exact ih
          · rw [hr] at q
            rw [← cntF_T (by simp [q, d1])] at ih
            exact ih
        obtain ⟨s1, s2, s3, s4⟩ := σ
        rcases hb with hb | hb
        · have hb : s3 = 30 := hb
          subst hb
          exact key
        · have hb : s3 = 36 := hb
          subst hb
          exact key
      · rw [hr] at d1
        rw [← cntF_F (by simp [d1])] at ih
        exact ih
  refine hst [4] 40 _ _ _ _ ?_
  exact loop n 0 (by omega)
def csX9_about : Cs := [(118, 1, true, spX8_has), (134, 1, true, spX9_countHits), (137, 1, true, spX9_countHitsWhenDown), (140, 1, true, spX9_countMembers)]
def spX9_about : SP := G [(2, [0]), (0, []), (0, [])] (slf 3 pgX9_about csX9_about lcX9 false 36)
theorem bdX9_about : Body 3 pgX9_about roM csX9_about lcX9 false spX9_about := Body.slf
theorem mnX9_about : Mono spX9_about := Mono.slf (csM_cons mnX8_has (csM_cons mnX9_countHits (csM_cons mnX9_countHitsWhenDown (csM_cons mnX9_countMembers csM_nil))))
def csX10_about : Cs := [(114, 1, true, spX10_isTank), (145, 1, true, spX10_isLooked)]
def lkB (σ : Mem) (h : Nat) : Bool := decide (dutF (gI σ 52) (gI σ 53) (gI σ 54) (gI σ 45 h) (gI σ 46 h) (rI (gI σ 42 14)) = -9)
def abM (σ : Mem) (t w : Int32) : Int32 := if ¬ (0 ≤ t ∧ t < gI σ 42 2) then -1 else if w = 0 then gI σ 43 (rI t) else if w = 1 then gI σ 44 (rI t) else if w = 2 then cntF (fun i => decide (gI σ 45 i = t)) (rI (gI σ 42 5)) else if w = 3 then cntF (fun i => decide (gI σ 45 i = t) && !lkB σ i) (rI (gI σ 42 5)) else if w = 4 then cntF (fun i => decide (gI σ 45 (rI (gI σ 66 i)) = t)) (rI (gI σ 42 31)) else -2
def spX10_about : SP := G [(2, [42]), (0, []), (0, [])] (spV (fun _ σ => cn (gI σ 42 2) 30 ∧ cn (gI σ 42 5) 240 ∧ cn (gI σ 42 14) 20 ∧ cn (gI σ 42 31) 240 ∧ ∀ k, k < rI (gI σ 42 31) → vp_in (gI σ 66 k) 240) (fun vs σ => match vs with
  | [_, .int a1, .int a2] => (some (.int (abM σ (a1) (a2))), σ)
  | _ => (none, σ)))
theorem mnX10_about : Mono spX10_about := Mono.spV
set_option maxHeartbeats 4000000 in
theorem bdX10_about : Body 5 pgX10_about roM csX10_about lcX10 false spX10_about := by
  intro vs σ K h Ok hst
  obtain ⟨hs, hp9, hk⟩ := h
  obtain ⟨vs, rfl, hs1⟩ := shpR1 hs
  obtain ⟨t, vs, rfl, hs2⟩ := shpI hs1
  obtain ⟨w, vs, rfl, hs3⟩ := shpI hs2
  cases shpN hs3
  obtain ⟨hT, ⟨hc, hn⟩, hd, ⟨hm, hmn⟩, h66⟩ := hp9
  have hk : K (some (.int (abM σ t w))) σ := hk
  refine hst [22, 44, 70] 80 _ _ _ _ ?_
  refine c4 (Nat.le_of_ble_eq_true rfl) rfl trivial (brb (fun q1 => ?_) (fun q1 => ?_))
  · have hin : vp_in t 30 := by
      have q2 := q1
      rw [hT.1] at q2
      obtain ⟨j, hj, e⟩ := idx_of q2 (by have := hT.2; omega)
      rw [e]; exact inI (by have := hT.2; omega) (by decide)
    refine And.intro (fun w0 => ?_) (fun w0 => And.intro (fun w1 => ?_) (fun w1 => And.intro (fun w2 => ?_) (fun w2 => And.intro (fun w3 => ?_) (fun w3 => And.intro (fun w4 => ?_) (fun w4 => ?_)))))
    · exact And.intro hin (K_int (by rw [abM, if_neg (fun z => z q1), if_pos w0]) hk)
    · exact And.intro hin (K_int (by rw [abM, if_neg (fun z => z q1), if_neg w0, if_pos w1]) hk)
    · rw [abM, if_neg (fun z => z q1), if_neg w0, if_neg w1, if_pos w2] at hk
      generalize rI (gI σ 42 5) = n at hc hn hk
      have loop : ∀ d i, i + d = n → Ok 22 [some (.ref 42), some (.int t), some (.int w), some (.int (cntF (fun i => decide (gI σ 45 i = t)) i)), some (.int (nI i))] [] σ := by
        intro d
        induction d with
        | zero =>
          intro i hi
          refine hst [22] 40 _ _ _ _ ?_
          refine And.intro (fun c => ?_) (fun c => absurd (by rw [hc]; exact nI_le (by omega) (by omega)) c)
          have : i = n := by omega
          subst this
          exact hk
        | succ d ih =>
          intro i hi
          have ih := ih (i + 1) (by omega)
          rw [← nI_1] at ih
          have hr : rI (nI i) = i := rI_nI (by omega)
          refine hst [22] 40 _ _ _ _ ?_
          refine And.intro (fun c => absurd (by rw [← hc]; exact c) (nI_ge (b := n) (a := i) (by omega) (by omega))) (fun c => ?_)
          refine And.intro (inI (by omega) (by decide)) ?_
          refine And.intro (fun d1 => ?_) (fun d1 => ?_)
          · rw [hr] at d1
            rw [← cntF_T (by simp [d1])] at ih
            exact ih
          · rw [hr] at d1
            rw [← cntF_F (by simp [d1]), ← Int32.add_zero (cntF _ _)] at ih
            exact ih
      exact loop n 0 (by omega)
    · rw [abM, if_neg (fun z => z q1), if_neg w0, if_neg w1, if_neg w2, if_pos w3] at hk
      generalize rI (gI σ 42 5) = n at hc hn hk
      have loop : ∀ d i, i + d = n → Ok 44 [some (.ref 42), some (.int t), some (.int w), some (.int (cntF (fun i => decide (gI σ 45 i = t) && !lkB σ i) i)), some (.int (nI i))] [] σ := by
        intro d
        induction d with
        | zero =>
          intro i hi
          refine hst [44] 40 _ _ _ _ ?_
          refine And.intro (fun c => ?_) (fun c => absurd (by rw [hc]; exact nI_le (by omega) (by omega)) c)
          have : i = n := by omega
          subst this
          exact hk
        | succ d ih =>
          intro i hi
          have ih := ih (i + 1) (by omega)
          rw [← nI_1] at ih
          have hr : rI (nI i) = i := rI_nI (by omega)
          refine hst [44] 40 _ _ _ _ ?_
          refine And.intro (fun c => absurd (by rw [← hc]; exact c) (nI_ge (b := n) (a := i) (by omega) (by omega))) (fun c => ?_)
          refine And.intro (inI (by omega) (by decide)) ?_
          refine And.intro (fun d1 => ?_) (fun d1 => ?_)
          · rw [hr] at d1
            refine c4 (Nat.le_of_ble_eq_true rfl) rfl ⟨inI (by omega) (by decide), hd⟩ (brb (fun q => ?_) (fun q => ?_))
            · rw [hr] at q
              have e9 : lkB σ i = true := decide_eq_true q
              rw [← cntF_F (by simp [e9]), ← Int32.add_zero (cntF _ _)] at ih
              exact ih
            · rw [hr] at q
              have e9 : lkB σ i = false := decide_eq_false q
              rw [← cntF_T (by simp [e9, d1])] at ih
              exact ih
          · rw [hr] at d1
            rw [← cntF_F (by simp [d1]), ← Int32.add_zero (cntF _ _)] at ih
            exact ih
      exact loop n 0 (by omega)
    · rw [abM, if_neg (fun z => z q1), if_neg w0, if_neg w1, if_neg w2, if_neg w3, if_pos w4] at hk
      generalize rI (gI σ 42 31) = n at hm hmn hk h66
      have loop : ∀ d i, i + d = n → Ok 70 [some (.ref 42), some (.int t), some (.int w), some (.int (cntF (fun i => decide (gI σ 45 (rI (gI σ 66 i)) = t)) i)), some (.int (nI i))] [] σ := by
        intro d
        induction d with
        | zero =>
          intro i hi
          refine hst [70] 40 _ _ _ _ ?_
          refine And.intro (fun c => ?_) (fun c => absurd (by rw [hm]; exact nI_le (by omega) (by omega)) c)
          have : i = n := by omega
          subst this
          exact hk
        | succ d ih =>
          intro i hi
          have ih := ih (i + 1) (by omega)
          rw [← nI_1] at ih
          have hr : rI (nI i) = i := rI_nI (by omega)
          refine hst [70] 40 _ _ _ _ ?_
          refine And.intro (fun c => absurd (by rw [← hm]; exact c) (nI_ge (b := n) (a := i) (by omega) (by omega))) (fun c => ?_)
          refine And.intro (inI (by omega) (by decide)) (And.intro (by rw [hr]; exact h66 i (by omega)) ?_)
          refine And.intro (fun d1 => ?_) (fun d1 => ?_)
          · rw [hr] at d1
            rw [← cntF_T (by simp [d1])] at ih
            exact ih
          · rw [hr] at d1
            rw [← cntF_F (by simp [d1]), ← Int32.add_zero (cntF _ _)] at ih
            exact ih
      exact loop n 0 (by omega)
    · exact K_int (by rw [abM, if_neg (fun z => z q1), if_neg w0, if_neg w1, if_neg w2, if_neg w3, if_neg w4]) hk
  · exact K_int (by rw [abM, if_pos q1]) hk
