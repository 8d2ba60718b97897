/-! exposure: TIMES that no DOWN covers -/
def upN (c : Nat → Bool) : Nat → Nat → Nat
  | _, 0 => 0
  | a, d + 1 => (bif c a then 0 else 1) + upN c (a + 1) d
theorem upN_le (c : Nat → Bool) : ∀ d a, upN c a d ≤ d
  | 0, _ => Nat.le_refl 0
  | d + 1, a => by
    have := upN_le c d (a + 1)
    show (bif c a then 0 else 1) + upN c (a + 1) d ≤ d + 1
    cases c a <;> simp <;> omega
theorem upN_split (c : Nat → Bool) : ∀ d1 a d2, upN c a (d1 + d2) = upN c a d1 + upN c (a + d1) d2
  | 0, a, d2 => by simp [upN]
  | d1 + 1, a, d2 => by
    rw [show d1 + 1 + d2 = (d1 + d2) + 1 by omega]
    show (bif c a then 0 else 1) + upN c (a + 1) (d1 + d2) = (bif c a then 0 else 1) + upN c (a + 1) d1 + upN c (a + (d1 + 1)) d2
    rw [upN_split c d1 (a + 1) d2, show a + 1 + d1 = a + (d1 + 1) by omega]
    omega
theorem upN_T (c : Nat → Bool) : ∀ d a, (∀ T, a ≤ T → T < a + d → c T = true) → upN c a d = 0
  | 0, _, _ => rfl
  | d + 1, a, h => by
    show (bif c a then 0 else 1) + upN c (a + 1) d = 0
    rw [h a (Nat.le_refl _) (by omega), upN_T c d (a + 1) (fun T h1 h2 => h T (by omega) (by omega))]
    rfl
theorem upN_F (c : Nat → Bool) : ∀ d a, (∀ T, a ≤ T → T < a + d → c T = false) → upN c a d = d
  | 0, _, _ => rfl
  | d + 1, a, h => by
    show (bif c a then 0 else 1) + upN c (a + 1) d = d + 1
    rw [h a (Nat.le_refl _) (by omega), upN_F c d (a + 1) (fun T h1 h2 => h T (by omega) (by omega))]
    show 1 + d = d + 1
    omega
theorem upN_congr {c c' : Nat → Bool} (h : ∀ T, c T = c' T) (a d : Nat) : upN c a d = upN c' a d := by
  have : c = c' := funext h
  rw [this]
theorem upN_skip {c : Nat → Bool} {a e b : Nat} (h1 : a ≤ e) (h : ∀ T, a ≤ T → T < e → c T = true) : upN c a (b - a) = upN c e (b - e) := by
  rcases Nat.lt_or_ge b e with q | q
  · rw [show b - e = 0 by omega]
    exact upN_T c _ _ (fun T g1 g2 => h T g1 (by omega))
  · rw [show b - a = (e - a) + (b - e) by omega, upN_split, upN_T c (e - a) a (fun T g1 g2 => h T g1 (by omega)), show a + (e - a) = e by omega]
    omega
theorem upN_take {c : Nat → Bool} {a x b : Nat} (h1 : a ≤ x) (h2 : x ≤ b) (h : ∀ T, a ≤ T → T < x → c T = false) : upN c a (b - a) = (x - a) + upN c x (b - x) := by
  rw [show b - a = (x - a) + (b - x) by omega, upN_split, upN_F c (x - a) a (fun T g1 g2 => h T g1 (by omega)), show a + (x - a) = x by omega]
def cvB (tk fr vl : Nat → Int32) (t : Int32) (n : Nat) (T : Nat) : Bool := (List.range n).any (fun i => decide (tk i = t) && decide (fr i ≤ nI T) && decide (nI T < vl i))
theorem cvB_T {tk fr vl : Nat → Int32} {t : Int32} {n T : Nat} : cvB tk fr vl t n T = true ↔ ∃ i, i < n ∧ dwnP tk fr vl t (nI T) i := by
  unfold cvB dwnP
  rw [List.any_eq_true]
  constructor
  · rintro ⟨i, h1, h2⟩
    simp at h2
    exact ⟨i, List.mem_range.mp h1, h2.1.1, h2.1.2, h2.2⟩
  · rintro ⟨i, h1, h2, h3, h4⟩
    refine ⟨i, List.mem_range.mpr h1, ?_⟩
    simp [h2, h3, h4]
theorem cvB_F {tk fr vl : Nat → Int32} {t : Int32} {n T : Nat} (h : ¬ ∃ i, i < n ∧ dwnP tk fr vl t (nI T) i) : cvB tk fr vl t n T = false := by
  cases e : cvB tk fr vl t n T with
  | false => rfl
  | true => exact absurd (cvB_T.mp e) h
def dnOK (fr vl : Nat → Int32) (n : Nat) : Prop := ∀ i, i < n → (0 ≤ fr i ∧ fr i ≤ 20000) ∧ (fr i ≤ vl i ∧ vl i ≤ 20001)
theorem dnOK.nat {fr vl : Nat → Int32} {n : Nat} (h : dnOK fr vl n) {i : Nat} (hi : i < n) : ∃ f v, fr i = nI f ∧ vl i = nI v ∧ f ≤ v ∧ v ≤ 20001 := by
  obtain ⟨⟨h1, h2⟩, h3, h4⟩ := h i hi
  obtain ⟨f, hf, ef⟩ := nI_of (Int32.not_lt.mpr h1)
  obtain ⟨v, hv, ev⟩ := nI_of (Int32.not_lt.mpr (Int32.le_trans h1 h3))
  refine ⟨f, v, ef, ev, ?_, ?_⟩
  · rw [ef, ev] at h3; exact (nI_leI hf hv).mp h3
  · rw [ev] at h4; exact (nI_leI (b := 20001) hv (by decide)).mp h4
/-- the end of a DOWN at time a -/
theorem endF_is (tk fr vl : Nat → Int32) (t tm : Int32) : ∀ n, endF tk fr vl t tm n = tm ∨ ∃ i, i < n ∧ dwnP tk fr vl t tm i ∧ endF tk fr vl t tm n = vl i
  | 0 => Or.inl rfl
  | n + 1 => by
    have ih := endF_is tk fr vl t tm n
    have hg := endF_ge tk fr vl t tm n
    have e : endF tk fr vl t tm (n + 1) = (if tk n = t ∧ fr n ≤ tm ∧ endF tk fr vl t tm n < vl n then vl n else endF tk fr vl t tm n) := rfl
    rw [e]
    split
    · rename_i h
      exact Or.inr ⟨n, Nat.lt_succ_self n, ⟨h.1, h.2.1, Int32.lt_of_le_of_lt hg h.2.2⟩, rfl⟩
    · rcases ih with h1 | ⟨i, h1, h2, h3⟩
      · exact Or.inl h1
      · exact Or.inr ⟨i, Nat.lt_succ_of_lt h1, h2, h3⟩
/-- the next beginning behind a; P: which DOWNS are looked at -/
def nxP (fr : Nat → Int32) (P : Nat → Bool) (tm en : Int32) (n : Nat) : Int32 := foldN (fun i e => if P i = true ∧ tm < fr i ∧ fr i < e then fr i else e) en n
theorem nxP_is (fr : Nat → Int32) (P : Nat → Bool) (tm en : Int32) : ∀ n, (nxP fr P tm en n = en ∨ ∃ i, i < n ∧ P i = true ∧ tm < fr i ∧ fr i < en ∧ nxP fr P tm en n = fr i) ∧ nxP fr P tm en n ≤ en ∧ ∀ i, i < n → P i = true → tm < fr i → nxP fr P tm en n ≤ fr i
  | 0 => ⟨Or.inl rfl, Int32.le_refl _, fun i h => absurd h (Nat.not_lt_zero i)⟩
  | n + 1 => by
    obtain ⟨h1, h2, h3⟩ := nxP_is fr P tm en n
    have e : nxP fr P tm en (n + 1) = (if P n = true ∧ tm < fr n ∧ fr n < nxP fr P tm en n then fr n else nxP fr P tm en n) := rfl
    rw [e]
    split
    · rename_i h
      refine ⟨Or.inr ⟨n, Nat.lt_succ_self n, h.1, h.2.1, Int32.lt_of_lt_of_le h.2.2 h2, rfl⟩, Int32.le_trans (Int32.le_of_lt h.2.2) h2, fun i hi p q => ?_⟩
      rcases Nat.lt_or_ge i n with g | g
      · exact Int32.le_trans (Int32.le_of_lt h.2.2) (h3 i g p q)
      · have : i = n := by omega
        rw [this]; exact Int32.le_refl _
    · rename_i h
      refine ⟨?_, h2, fun i hi p q => ?_⟩
      · rcases h1 with g | ⟨i, g1, g2⟩
        · exact Or.inl g
        · exact Or.inr ⟨i, Nat.lt_succ_of_lt g1, g2⟩
      · rcases Nat.lt_or_ge i n with g | g
        · exact h3 i g p q
        · have : i = n := by omega
          subst this
          exact Int32.not_lt.mp (fun z => h ⟨p, q, z⟩)
theorem nxt_P (tk fr : Nat → Int32) (t tm en : Int32) (n : Nat) : nxtF tk fr t tm en n = nxP fr (fun i => decide (tk i = t)) tm en n := by
  unfold nxtF nxP
  refine foldN_congr rfl (fun i hi x => ?_)
  simp
/-- a gap: nothing covers a, so nothing covers up to the next beginning -/
theorem gap {tk fr vl : Nat → Int32} {t : Int32} {n : Nat} (P : Nat → Bool) (hP : ∀ i, i < n → tk i = t → fr i < vl i → P i = true) {a b : Nat} (ha : a < b) (hb : b ≤ 20001) (hno : ¬ ∃ i, i < n ∧ dwnP tk fr vl t (nI a) i) : ∃ x, nxP fr P (nI a) (nI b) n = nI x ∧ a < x ∧ x ≤ b ∧ (∀ T, a ≤ T → T < x → cvB tk fr vl t n T = false) ∧ (x = b ∨ ∃ i, i < n ∧ fr i = nI x) := by
  obtain ⟨h1, h2, h3⟩ := nxP_is fr P (nI a) (nI b) n
  have key : ∃ x, nxP fr P (nI a) (nI b) n = nI x ∧ a < x ∧ x ≤ b ∧ (x = b ∨ ∃ i, i < n ∧ fr i = nI x) := by
    rcases h1 with g | ⟨i, g1, g2, g3, g4, g5⟩
    · exact ⟨b, g, ha, Nat.le_refl _, Or.inl rfl⟩
    · have g0 : ¬ fr i < 0 := Int32.not_lt.mpr (Int32.le_trans (by have := nI_le (a := 0) (b := a) (by omega) (by omega); exact this) (Int32.le_of_lt g3))
      obtain ⟨x, hx, ex⟩ := nI_of g0
      rw [ex] at g3 g4
      have g3 := (nI_ltI (by omega) hx).mp g3
      have g4 := (nI_ltI hx (by omega)).mp g4
      exact ⟨x, g5.trans ex, g3, by omega, Or.inr ⟨i, g1, ex⟩⟩
  obtain ⟨x, e, k1, k2, k3⟩ := key
  refine ⟨x, e, k1, k2, fun T t1 t2 => cvB_F ?_, k3⟩
  rintro ⟨i, i1, i2, i3, i4⟩
  by_cases c : fr i ≤ nI a
  · exact hno ⟨i, i1, i2, c, Int32.lt_of_le_of_lt (nI_le t1 (by omega)) i4⟩
  · have c := Int32.not_le.mp c
    have hle := h3 i i1 (hP i i1 i2 (Int32.lt_of_le_of_lt i3 i4)) c
    rw [e] at hle
    have : nI x ≤ nI T := Int32.le_trans hle i3
    have := (nI_leI (by omega) (by omega)).mp this
    omega
theorem cov {tk fr vl : Nat → Int32} {t : Int32} {n : Nat} {a e i : Nat} (hi : i < n) (h : dwnP tk fr vl t (nI a) i) (he : vl i = nI e) (hb : e ≤ 20001) (haa : a ≤ 20001) : a < e ∧ ∀ T, a ≤ T → T < e → cvB tk fr vl t n T = true := by
  obtain ⟨h1, h2, h3⟩ := h
  rw [he] at h3
  refine ⟨(nI_ltI (by omega) (by omega)).mp h3, fun T t1 t2 => cvB_T.mpr ⟨i, hi, h1, Int32.le_trans h2 (nI_le t1 (by omega)), ?_⟩⟩
  rw [he]
  exact nI_lt t2 (by omega)
/-- beginnings and ends behind a -/
def gtN (fr vl : Nat → Int32) (n a : Nat) : Nat := ctN (fun i => decide (nI a < fr i)) n + ctN (fun i => decide (nI a < vl i)) n
theorem ctN_mono {p q : Nat → Bool} : ∀ {n : Nat}, (∀ i, i < n → p i = true → q i = true) → ctN p n ≤ ctN q n
  | 0, _ => Nat.le_refl 0
  | n + 1, h => by
    have ih := ctN_mono (n := n) (fun i hi => h i (Nat.lt_succ_of_lt hi))
    have := h n (Nat.lt_succ_self n)
    show ctN p n + _ ≤ ctN q n + _
    cases hp : p n with
    | false => simp; omega
    | true => rw [this hp]; simp; omega
theorem ctN_lt {p q : Nat → Bool} : ∀ {n a : Nat}, (∀ i, i < n → p i = true → q i = true) → a < n → p a = false → q a = true → ctN p n < ctN q n
  | 0, a, _, h, _, _ => absurd h (Nat.not_lt_zero a)
  | n + 1, a, h, ha, hp, hq => by
    show ctN p n + _ < ctN q n + _
    rcases Nat.lt_or_ge a n with g | g
    · have ih := ctN_lt (n := n) (fun i hi => h i (Nat.lt_succ_of_lt hi)) g hp hq
      have := h n (Nat.lt_succ_self n)
      cases hp : p n with
      | false => simp; omega
      | true => rw [this hp]; simp; omega
    · have : a = n := by omega
      subst this
      have ih := ctN_mono (n := a) (fun i hi => h i (Nat.lt_succ_of_lt hi))
      rw [hp, hq]
      simp; omega
theorem gtN_vl {fr vl : Nat → Int32} {n a e : Nat} (hae : a < e) (he : e ≤ 20001) {i : Nat} (hi : i < n) (hv : vl i = nI e) : gtN fr vl n e < gtN fr vl n a := by
  have lt : nI a < nI e := nI_lt hae (by omega)
  have m1 : ctN (fun i => decide (nI e < fr i)) n ≤ ctN (fun i => decide (nI a < fr i)) n := ctN_mono (fun j _ h => by
    simp at h ⊢
    exact Int32.lt_trans lt h)
  have m2 : ctN (fun i => decide (nI e < vl i)) n < ctN (fun i => decide (nI a < vl i)) n := ctN_lt (a := i) (fun j _ h => by
    simp at h ⊢
    exact Int32.lt_trans lt h) hi (by simp [hv]) (by simp [hv]; exact lt)
  unfold gtN
  omega
theorem gtN_fr {fr vl : Nat → Int32} {n a e : Nat} (hae : a < e) (he : e ≤ 20001) {i : Nat} (hi : i < n) (hv : fr i = nI e) : gtN fr vl n e < gtN fr vl n a := by
  have lt : nI a < nI e := nI_lt hae (by omega)
  have m1 : ctN (fun i => decide (nI e < vl i)) n ≤ ctN (fun i => decide (nI a < vl i)) n := ctN_mono (fun j _ h => by
    simp at h ⊢
    exact Int32.lt_trans lt h)
  have m2 : ctN (fun i => decide (nI e < fr i)) n < ctN (fun i => decide (nI a < fr i)) n := ctN_lt (a := i) (fun j _ h => by
    simp at h ⊢
    exact Int32.lt_trans lt h) hi (by simp [hv]) (by simp [hv]; exact lt)
  unfold gtN
  omega
theorem gtN_le (fr vl : Nat → Int32) (n a : Nat) : gtN fr vl n a ≤ 2 * n := by
  have h1 := ctN_le (fun i => decide (nI a < fr i)) n
  have h2 := ctN_le (fun i => decide (nI a < vl i)) n
  unfold gtN
  omega
def csX2_countTimesUp : Cs := [(9, 2, true, spX2_endOfDown), (15, 3, true, spX2_nextDown)]
def spX2_countTimesUp : SP := G [(2, [13]), (0, []), (0, []), (0, [])] (spV (fun vs σ => match vs with
  | [_, .int a1, .int a2, .int a3] => cn (gI σ 13 3) 20 ∧ dnOK (gI σ 15) (gI σ 16) (rI (gI σ 13 3)) ∧ cn (a2) 20001 ∧ cn (a3) 20001
  | _ => True) (fun vs σ => match vs with
  | [_, .int a1, .int a2, .int a3] => (some (.int (nI (upN (cvB (gI σ 14) (gI σ 15) (gI σ 16) (a1) (rI (gI σ 13 3))) (rI (a2)) (rI (a3) - rI (a2))))), σ)
  | _ => (none, σ)))
theorem mnX2_countTimesUp : Mono spX2_countTimesUp := Mono.spV
set_option maxHeartbeats 4000000 in
theorem bdX2_countTimesUp : Body 8 pgX2_countTimesUp roM csX2_countTimesUp lcX2 false spX2_countTimesUp := by
  intro vs σ K h Ok hst
  obtain ⟨hs, hp9, hk⟩ := h
  obtain ⟨vs, rfl, hs1⟩ := shpR1 hs
  obtain ⟨t, vs, rfl, hs2⟩ := shpI hs1
  obtain ⟨fs, vs, rfl, hs3⟩ := shpI hs2
  obtain ⟨en, vs, rfl, hs4⟩ := shpI hs3
  cases shpN hs4
  obtain ⟨hc, hd, ⟨ha, ha'⟩, hb, hb'⟩ := hp9
  have hk : K (some (.int (nI (upN (cvB (gI σ 14) (gI σ 15) (gI σ 16) t (rI (gI σ 13 3))) (rI fs) (rI en - rI fs))))) σ := hk
  have ha : fs = nI (rI fs) := ha
  have hb : en = nI (rI en) := hb
  have ha' : rI fs ≤ 20001 := ha'
  have hb' : rI en ≤ 20001 := hb'
  have hc20 := hc.2
  have loop : ∀ f j, j + f = 41 → ∀ (a u : Nat), a ≤ 20001 → rI en ≤ a ∨ gtN (gI σ 15) (gI σ 16) (rI (gI σ 13 3)) a < f → K (some (.int (nI (u + upN (cvB (gI σ 14) (gI σ 15) (gI σ 16) t (rI (gI σ 13 3))) a (rI en - a))))) σ → ∀ x7, Ok 6 [some (.ref 13), some (.int t), some (.int fs), some (.int en), some (.int (nI u)), some (.int (nI a)), some (.int (nI j)), x7] [] σ := by
    intro f
    induction f with
    | zero =>
      intro j hj a u h1 h2 hk x7
      have h2 : rI en ≤ a := by omega
      rw [show rI en - a = 0 by omega] at hk
      have hj : j = 41 := by omega
      subst hj
      refine hst [6] 60 _ _ _ _ ?_
      exact br_t (by decide) hk
    | succ f ih =>
      intro j hj a u h1 h2 hk x7
      have c40 : ¬ (40 : Int32) < nI j := by
        have : ¬ nI 40 < nI j := fun z => absurd ((nI_ltI (by omega) (by omega)).mp z) (by omega)
        exact this
      by_cases q : rI en ≤ a
      · rw [show rI en - a = 0 by omega] at hk
        have le : en ≤ nI a := by rw [hb]; exact nI_le q (by omega)
        refine hst [6] 60 _ _ _ _ ?_
        exact br_f c40 (br_t le hk)
      · have nle : ¬ en ≤ nI a := by rw [hb]; exact nI_ge (by omega) (by omega)
        have h2 : gtN (gI σ 15) (gI σ 16) (rI (gI σ 13 3)) a < f + 1 := by omega
        rcases endF_is (gI σ 14) (gI σ 15) (gI σ 16) t (nI a) (rI (gI σ 13 3)) with e | ⟨i, i1, i2, i3⟩
        · have hno : ¬ ∃ i, i < rI (gI σ 13 3) ∧ dwnP (gI σ 14) (gI σ 15) (gI σ 16) t (nI a) i := by
            rw [← endF_iff, e]; exact Int32.lt_irrefl
          obtain ⟨x, x1, x2, x3, x4, x5⟩ := gap (fun i => decide (gI σ 14 i = t)) (fun i _ z _ => by simpa using z) (show a < rI en by omega) hb' hno
          rw [← nxt_P, ← hb] at x1
          have hx : rI en ≤ x ∨ gtN (gI σ 15) (gI σ 16) (rI (gI σ 13 3)) x < f := by
            rcases x5 with z | ⟨i, z1, z2⟩
            · exact Or.inl (by omega)
            · exact Or.inr (by have := gtN_fr (vl := gI σ 16) x2 (by omega) z1 z2; omega)
          rw [upN_take (Nat.le_of_lt x2) x3 x4, ← Nat.add_assoc] at hk
          have ih := ih (j + 1) (by omega) x (u + (x - a)) (by omega) hx hk (some (.int (nI x)))
          have nx : Ok 6 [some (.ref 13), some (.int t), some (.int fs), some (.int en), some (.int (nI u + (nxtF (gI σ 14) (gI σ 15) t (nI a) en (rI (gI σ 13 3)) - nI a))), some (.int (nxtF (gI σ 14) (gI σ 15) t (nI a) en (rI (gI σ 13 3)))), some (.int (nI j + 1)), some (.int (nxtF (gI σ 14) (gI σ 15) t (nI a) en (rI (gI σ 13 3))))] [] σ := by
            rw [x1, pk_sub (Nat.le_of_lt x2), nI_add, nI_1]
            exact ih
          refine hst [6] 60 _ _ _ _ ?_
          exact br_f c40 (br_f nle (c4 (Nat.le_of_ble_eq_true rfl) rfl hc (br_t e (c4 (Nat.le_of_ble_eq_true rfl) rfl hc nx))))
        · obtain ⟨f0, v0, -, w2, -, w4⟩ := hd.nat i1
          have w5 := cov i1 i2 w2 w4 h1
          have ne : ¬ endF (gI σ 14) (gI σ 15) (gI σ 16) t (nI a) (rI (gI σ 13 3)) = nI a := by
            rw [i3, w2]
            exact fun z => absurd ((nI_eq (by omega) (by omega)).mp z) (by omega)
          rw [upN_skip (Nat.le_of_lt w5.1) w5.2] at hk
          have ih := ih (j + 1) (by omega) v0 u w4 (Or.inr (by have := gtN_vl (fr := gI σ 15) w5.1 w4 i1 w2; omega)) hk (some (.int (nI v0)))
          rw [← nI_1, ← w2, ← i3] at ih
          refine hst [6] 60 _ _ _ _ ?_
          exact br_f c40 (br_f nle (c4 (Nat.le_of_ble_eq_true rfl) rfl hc (br_f ne ih)))
  have l0 := loop 41 0 rfl (rI fs) 0 ha' (Or.inr (by have := gtN_le (gI σ 15) (gI σ 16) (rI (gI σ 13 3)) (rI fs); omega)) (by rw [Nat.zero_add]; exact hk) none
  rw [← ha] at l0
  refine hst [6] 60 _ _ _ _ ?_
  exact l0
