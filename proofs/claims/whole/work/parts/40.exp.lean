def exF (c : Nat → Nat → Bool) (a d n : Nat) : Int64 := foldN (fun t s => s + (nI (upN (c t) a d)).toInt64) 0 n
theorem exF_congr {c c' : Nat → Nat → Bool} {a d n : Nat} (h : ∀ t, t < n → ∀ T, c t T = c' t T) : exF c a d n = exF c' a d n := foldN_congr rfl (fun t ht s => by rw [upN_congr (h t ht)])
theorem cvB_congr {tk fr vl tk' fr' vl' : Nat → Int32} {t : Int32} {n T : Nat} (h : ∀ i, i < n → tk i = tk' i ∧ fr i = fr' i ∧ vl i = vl' i) : cvB tk fr vl t n T = cvB tk' fr' vl' t n T := by
  rw [Bool.eq_iff_iff, cvB_T, cvB_T]
  unfold dwnP
  constructor
  · rintro ⟨i, h1, h2⟩
    obtain ⟨e1, e2, e3⟩ := h i h1
    rw [e1, e2, e3] at h2
    exact ⟨i, h1, h2⟩
  · rintro ⟨i, h1, h2⟩
    obtain ⟨e1, e2, e3⟩ := h i h1
    rw [← e1, ← e2, ← e3] at h2
    exact ⟨i, h1, h2⟩
theorem l_add {u v : Nat} (h : u + v < 2 ^ 31) : (nI u).toInt64 + (nI v).toInt64 = (nI (u + v)).toInt64 := by
  rw [nI_l (by omega), nI_l (by omega), nI_l (by omega), lN_add]
theorem spanN {a b : Int32} (h : (0 ≤ a ∧ a ≤ 20000) ∧ a ≤ b ∧ b ≤ 20001) : cn a 20001 ∧ cn b 20001 := by
  obtain ⟨⟨h1, h2⟩, h3, h4⟩ := h
  obtain ⟨i, hi, ei⟩ := nI_of2 (n := 20000) (by decide) (Int32.not_lt.mpr h1) h2
  obtain ⟨j, hj, ej⟩ := nI_of2 (n := 20001) (by decide) (Int32.not_lt.mpr (Int32.le_trans h1 h3)) h4
  exact ⟨(cn_of ei (by omega) (by decide)).1, (cn_of ej (by omega) (by decide)).1⟩
def csX9_exposure : Cs := [(122, 2, false, spX9_isSpan), (167, 3, true, spX2_countTimesUp)]
def spX9_exposure : SP := G [(2, [0]), (0, []), (0, [])] (spV (fun _ σ => cn (gI σ 1 2) 30 ∧ cn (gI σ 13 3) 20 ∧ dnOK (gI σ 15) (gI σ 16) (rI (gI σ 13 3))) (fun vs σ => match vs with
  | [_, .int a1, .int a2] => (some (.long (if (0 ≤ a1 ∧ a1 ≤ 20000) ∧ a1 ≤ a2 ∧ a2 ≤ 20001 then exF (fun t => cvB (gI σ 14) (gI σ 15) (gI σ 16) (nI t) (rI (gI σ 13 3))) (rI (a1)) (rI (a2) - rI (a1)) (rI (gI σ 1 2)) else -9223372036854775808)), σ)
  | _ => (none, σ)))
theorem mnX9_exposure : Mono spX9_exposure := Mono.spV
set_option maxHeartbeats 4000000 in
theorem bdX9_exposure : Body 6 pgX9_exposure roM csX9_exposure lcX9 false spX9_exposure := by
  intro vs σ K h Ok hst
  obtain ⟨hs, hp9, hk⟩ := h
  obtain ⟨vs, rfl, hs1⟩ := shpR1 hs
  obtain ⟨a, vs, rfl, hs2⟩ := shpI hs1
  obtain ⟨b, vs, rfl, hs3⟩ := shpI hs2
  cases shpN hs3
  obtain ⟨hT, hd, hok⟩ := hp9
  have hk : K (some (.long (if (0 ≤ a ∧ a ≤ 20000) ∧ a ≤ b ∧ b ≤ 20001 then exF (fun t => cvB (gI σ 14) (gI σ 15) (gI σ 16) (nI t) (rI (gI σ 13 3))) (rI a) (rI b - rI a) (rI (gI σ 1 2)) else -9223372036854775808))) σ := hk
  refine hst [10] 40 _ _ _ _ ?_
  refine c5 (Nat.le_of_ble_eq_true rfl) (Nat.le_of_ble_eq_true rfl) rfl trivial (brb (fun q1 => ?_) (fun q1 => ?_))
  · rw [if_pos q1] at hk
    have hab := spanN q1
    have loop : ∀ d i, i + d = rI (gI σ 1 2) → Ok 10 [some (.ref 0), some (.int a), some (.int b), some (.long (exF (fun t => cvB (gI σ 14) (gI σ 15) (gI σ 16) (nI t) (rI (gI σ 13 3))) (rI a) (rI b - rI a) i)), none, some (.int (nI i))] [] σ := by
      intro d
      induction d with
      | zero =>
        intro i hi
        refine hst [10] 40 _ _ _ _ ?_
        have e : i = rI (gI σ 1 2) := by omega
        refine br_t (by rw [e, ← hT.1]; exact Int32.le_refl _) ?_
        rw [e]
        exact hk
      | succ d ih =>
        intro i hi
        have h30 := hT.2
        have ih := ih (i + 1) (by omega)
        rw [← nI_1] at ih
        refine hst [10] 40 _ _ _ _ ?_
        refine br_f (by rw [hT.1]; exact nI_ge (by omega) (by omega)) ?_
        exact c4 (Nat.le_of_ble_eq_true rfl) rfl ⟨hd, hok, hab.1, hab.2⟩ ih
    exact loop _ 0 (Nat.zero_add _)
  · rw [if_neg q1] at hk
    exact hk
def csX10_exposure : Cs := [(110, 3, false, spX10_within), (141, 2, true, spX10_downUpTo)]
def exP (σ : Mem) (t : Nat) (i : Nat) : Bool := decide (gI σ 52 i = nI t) && decide (gI σ 53 i < gI σ 54 i)
def spX10_exposure : SP := G [(2, [42]), (0, []), (0, [])] (spV (fun _ σ => cn (gI σ 42 2) 30 ∧ cn (gI σ 42 14) 20 ∧ dnOK (gI σ 53) (gI σ 54) (rI (gI σ 42 14))) (fun vs σ => match vs with
  | [_, .int a1, .int a2] => (some (.long (if (0 ≤ a1 ∧ a1 ≤ 20000) ∧ a1 ≤ a2 ∧ a2 ≤ 20001 then exF (fun t => cvB (gI σ 52) (gI σ 53) (gI σ 54) (nI t) (rI (gI σ 42 14))) (rI (a1)) (rI (a2) - rI (a1)) (rI (gI σ 42 2)) else -9223372036854775808)), σ)
  | _ => (none, σ)))
theorem mnX10_exposure : Mono spX10_exposure := Mono.spV
set_option maxHeartbeats 4000000 in
theorem bdX10_exposure : Body 10 pgX10_exposure roM csX10_exposure lcX10 false spX10_exposure := by
  intro vs σ K h Ok hst
  obtain ⟨hs, hp9, hk⟩ := h
  obtain ⟨vs, rfl, hs1⟩ := shpR1 hs
  obtain ⟨a, vs, rfl, hs2⟩ := shpI hs1
  obtain ⟨b, vs, rfl, hs3⟩ := shpI hs2
  cases shpN hs3
  obtain ⟨hT, hd, hok⟩ := hp9
  have hk : K (some (.long (if (0 ≤ a ∧ a ≤ 20000) ∧ a ≤ b ∧ b ≤ 20001 then exF (fun t => cvB (gI σ 52) (gI σ 53) (gI σ 54) (nI t) (rI (gI σ 42 14))) (rI a) (rI b - rI a) (rI (gI σ 42 2)) else -9223372036854775808))) σ := hk
  have hdc := hd.1
  have hd20 := hd.2
  refine hst [16] 60 _ _ _ _ ?_
  refine c5 (Nat.le_of_ble_eq_true rfl) (Nat.le_of_ble_eq_true rfl) rfl trivial (brb (fun q1 => ?_) (fun q1 => ?_))
  · refine c5 (Nat.le_of_ble_eq_true rfl) (Nat.le_of_ble_eq_true rfl) rfl trivial (brb (fun q2 => ?_) (fun q2 => ?_))
    · rw [if_pos ⟨q1, q2⟩] at hk
      obtain ⟨⟨ha, ha'⟩, hb, hb'⟩ := spanN ⟨q1, q2⟩
      have mid : ∀ (t : Nat) (S : Int64), (∀ x6 x7 x8 x9, Ok 16 [some (.ref 42), some (.int a), some (.int b), some (.long (S + (nI (upN (cvB (gI σ 52) (gI σ 53) (gI σ 54) (nI t) (rI (gI σ 42 14))) (rI a) (rI b - rI a))).toInt64)), none, some (.int (nI t + 1)), x6, x7, x8, x9] [] σ) → ∀ f x u, rI b - x ≤ f → x ≤ 20001 → u + upN (cvB (gI σ 52) (gI σ 53) (gI σ 54) (nI t) (rI (gI σ 42 14))) x (rI b - x) = upN (cvB (gI σ 52) (gI σ 53) (gI σ 54) (nI t) (rI (gI σ 42 14))) (rI a) (rI b - rI a) → ∀ x7 x8 x9, Ok 22 [some (.ref 42), some (.int a), some (.int b), some (.long (S + (nI u).toInt64)), none, some (.int (nI t)), some (.int (nI x)), x7, x8, x9] [] σ := by
        intro t S nxt f
        have utot := upN_le (cvB (gI σ 52) (gI σ 53) (gI σ 54) (nI t) (rI (gI σ 42 14))) (rI b - rI a) (rI a)
        induction f with
        | zero =>
          intro x u hf hx hu x7 x8 x9
          rw [show rI b - x = 0 by omega] at hu
          have hu : u = upN (cvB (gI σ 52) (gI σ 53) (gI σ 54) (nI t) (rI (gI σ 42 14))) (rI a) (rI b - rI a) := hu
          refine hst [16, 22] 60 _ _ _ _ ?_
          refine br_t (by rw [hb]; exact nI_le (by omega) (by omega)) ?_
          rw [hu]
          exact nxt _ _ _ _
        | succ f ih =>
          intro x u hf hx hu x7 x8 x9
          by_cases q : rI b ≤ x
          · rw [show rI b - x = 0 by omega] at hu
            have hu : u = upN (cvB (gI σ 52) (gI σ 53) (gI σ 54) (nI t) (rI (gI σ 42 14))) (rI a) (rI b - rI a) := hu
            refine hst [16, 22] 60 _ _ _ _ ?_
            refine br_t (by rw [hb]; exact nI_le (by omega) (by omega)) ?_
            rw [hu]
            exact nxt _ _ _ _
          · have nle : ¬ b ≤ nI x := by rw [hb]; exact nI_ge (by omega) (by omega)
            rcases dutF_iff (gI σ 52) (gI σ 53) (gI σ 54) (nI t) (nI x) (nI_pos' (by omega)) (rI (gI σ 42 14)) with ⟨e, hno⟩ | ⟨e, i, i1, i2, i3⟩
            · obtain ⟨y, y1, y2, y3, y4, -⟩ := gap (exP σ t) (fun i _ z1 z2 => by unfold exP; simp [z1, z2]) (show x < rI b by omega) hb' hno
              rw [← hb] at y1
              rw [upN_take (Nat.le_of_lt y2) y3 y4, ← Nat.add_assoc] at hu
              have fin : ∀ x7 x8 x9, Ok 22 [some (.ref 42), some (.int a), some (.int b), some (.long (S + (nI u).toInt64 + (nI y - nI x).toInt64)), none, some (.int (nI t)), some (.int (nI y)), x7, x8, x9] [] σ := by
                intro x7 x8 x9
                have := ih y (u + (y - x)) (by omega) (by omega) hu x7 x8 x9
                rw [← l_add (by omega), ← Int64.add_assoc, ← pk_sub (Nat.le_of_lt y2)] at this
                exact this
              have inner : ∀ d k, k + d = rI (gI σ 42 14) → ∀ e7 : Int32, Ok 40 [some (.ref 42), some (.int a), some (.int b), some (.long (S + (nI u).toInt64)), none, some (.int (nI t)), some (.int (nI x)), some (.int e7), some (.int (nxP (gI σ 53) (exP σ t) (nI x) b k)), some (.int (nI k))] [] σ := by
                intro d
                induction d with
                | zero =>
                  intro k hk' e7
                  have ek : k = rI (gI σ 42 14) := by omega
                  refine hst [22, 40] 60 _ _ _ _ ?_
                  refine br_t (by rw [ek, ← hdc]; exact Int32.le_refl _) ?_
                  rw [ek, y1]
                  exact fin _ _ _
                | succ d ihd =>
                  intro k hk' e7
                  have ihd := ihd (k + 1) (by omega) e7
                  rw [← nI_1] at ihd
                  have nx : ∀ v, v = nxP (gI σ 53) (exP σ t) (nI x) b (k + 1) → Ok 40 [some (.ref 42), some (.int a), some (.int b), some (.long (S + (nI u).toInt64)), none, some (.int (nI t)), some (.int (nI x)), some (.int e7), some (.int v), some (.int (nI k + 1))] [] σ := fun v hv => by rw [hv]; exact ihd
                  have hr : rI (nI k) = k := rI_nI (by omega)
                  have hin : vp_in (nI k) 20 := inI (by omega) (by decide)
                  refine hst [40] 60 _ _ _ _ ?_
                  refine br_f (by rw [hdc]; exact nI_ge (by omega) (by omega)) ?_
                  refine And.intro hin ?_
                  refine And.intro (fun c1 => ?_) (fun c1 => ?_)
                  · rw [hr] at c1
                    refine And.intro hin ?_
                    refine And.intro (fun c2 => ?_) (fun c2 => ?_)
                    · rw [hr] at c2
                      exact nx _ (if_neg (fun q => Int32.not_le.mpr q.2.1 c2)).symm
                    · rw [hr] at c2
                      refine And.intro hin (And.intro hin ?_)
                      refine And.intro (fun c3 => ?_) (fun c3 => ?_)
                      · rw [hr] at c3
                        refine nx _ (if_neg (fun q => ?_)).symm
                        have := q.1
                        unfold exP at this
                        simp at this
                        exact Int32.not_le.mpr this.2 c3
                      · rw [hr] at c3
                        refine And.intro hin ?_
                        refine And.intro (fun c4 => ?_) (fun c4 => ?_)
                        · rw [hr] at c4
                          exact nx _ (if_neg (fun q => Int32.not_le.mpr q.2.2 c4)).symm
                        · rw [hr] at c4
                          refine And.intro hin ?_
                          refine nx _ ?_
                          rw [hr]
                          have pp : exP σ t k = true := by unfold exP; simp [c1, Int32.not_le.mp c3]
                          exact (if_pos ⟨pp, Int32.not_le.mp c2, Int32.not_le.mp c4⟩).symm
                  · rw [hr] at c1
                    refine nx _ (if_neg (fun q => ?_)).symm
                    have := q.1
                    unfold exP at this
                    simp at this
                    exact c1 this.1
              refine hst [40] 60 _ _ _ _ ?_
              exact br_f nle (c4 (Nat.le_of_ble_eq_true rfl) rfl hd (br_t e (inner _ 0 (Nat.zero_add _) _)))
            · obtain ⟨f0, v0, -, w2, -, w4⟩ := hok.nat i1
              have w5 := cov i1 i2 w2 w4 hx
              rw [upN_skip (Nat.le_of_lt w5.1) w5.2] at hu
              have ih := ih v0 u (by omega) w4 hu (some (.int (nI v0))) x8 x9
              rw [← w2, ← i3] at ih
              have ne : ¬ dutF (gI σ 52) (gI σ 53) (gI σ 54) (nI t) (nI x) (rI (gI σ 42 14)) = -9 := fun z => by
                rw [z] at e
                exact absurd (Int32.lt_of_le_of_lt (nI_pos' (by omega)) e) (by decide)
              refine hst [22] 60 _ _ _ _ ?_
              exact br_f nle (c4 (Nat.le_of_ble_eq_true rfl) rfl hd (br_f ne ih))
      have loop : ∀ d i, i + d = rI (gI σ 42 2) → ∀ x6 x7 x8 x9, Ok 16 [some (.ref 42), some (.int a), some (.int b), some (.long (exF (fun t => cvB (gI σ 52) (gI σ 53) (gI σ 54) (nI t) (rI (gI σ 42 14))) (rI a) (rI b - rI a) i)), none, some (.int (nI i)), x6, x7, x8, x9] [] σ := by
        intro d
        induction d with
        | zero =>
          intro i hi x6 x7 x8 x9
          refine hst [16] 40 _ _ _ _ ?_
          have e : i = rI (gI σ 42 2) := by omega
          refine br_t (by rw [e, ← hT.1]; exact Int32.le_refl _) ?_
          rw [e]
          exact hk
        | succ d ih =>
          intro i hi x6 x7 x8 x9
          have h30 := hT.2
          have ih := ih (i + 1) (by omega)
          rw [← nI_1] at ih
          have m := mid i (exF (fun t => cvB (gI σ 52) (gI σ 53) (gI σ 54) (nI t) (rI (gI σ 42 14))) (rI a) (rI b - rI a) i) ih _ (rI a) 0 (Nat.le_refl _) ha' (Nat.zero_add _) x7 x8 x9
          rw [← ha, show (nI 0).toInt64 = 0 by decide, Int64.add_zero] at m
          refine hst [22] 40 _ _ _ _ ?_
          exact br_f (by rw [hT.1]; exact nI_ge (by omega) (by omega)) m
      exact loop _ 0 (Nat.zero_add _) _ _ _ _
    · rw [if_neg (fun z => q2 z.2)] at hk
      exact hk
  · rw [if_neg (fun z => q1 z.1)] at hk
    exact hk
theorem prExposure {σ : Mem} (h : Inv σ) (a b : Int32) : PRl spX9_exposure spX10_exposure [.int a, .int b] σ := by
  have h0 := h
  obtain ⟨nT, nH, nC, nD, ⟨hT, hH, hC, hD⟩, ⟨hS, hR, hX⟩, hE⟩ := h
  obtain ⟨pd1, pd2, e1, e2⟩ := cnD hD
  have t1 := cn_of hT.2.1 hT.1 (by decide)
  have t2 := cn_of hT.2.2.1 hT.1 (by decide)
  have k1 : dnOK (gI σ 15) (gI σ 16) (rI (gI σ 13 3)) := by
    rw [e1]
    exact fun i hi => (hD.2.2.2 i hi).2.2.2
  have k2 : dnOK (gI σ 53) (gI σ 54) (rI (gI σ 42 14)) := by
    rw [e2]
    intro i hi
    obtain ⟨g1, g2, g3, g4⟩ := hD.2.2.2 i hi
    rw [g2, g3]
    exact g4
  refine And.intro rfl (And.intro ⟨t1.1, pd1, k1⟩ ?_)
  refine ⟨_, rfl, And.intro rfl (And.intro ⟨t2.1, pd2, k2⟩ ?_)⟩
  refine ⟨?_, h0⟩
  show some (Value.long _) = some (Value.long _)
  congr 2
  by_cases q : (0 ≤ a ∧ a ≤ 20000) ∧ a ≤ b ∧ b ≤ 20001
  · rw [if_pos q, if_pos q, t1.2, t2.2, e1, e2]
    exact exF_congr (fun t ht T => cvB_congr (fun i hi => ⟨(hD.2.2.2 i hi).1, (hD.2.2.2 i hi).2.1, (hD.2.2.2 i hi).2.2.1⟩))
  · rw [if_neg q, if_neg q]
