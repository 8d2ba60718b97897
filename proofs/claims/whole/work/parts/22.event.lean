/-! events: their members' places -/
def sB (σ : Mem) (a : Nat) (e : Int32) : Nat := rI (gI σ a (rI e))
def nB (σ : Mem) (a : Nat) (e : Int32) : Nat := rI (gI σ a (rI (e + 1))) - rI (gI σ a (rI e))
def okB (σ : Mem) (a : Nat) (e : Int32) : Prop := vp_in e 240 ∧ vp_in e 241 ∧ vp_in (e + 1) 241 ∧ gI σ a (rI e) = nI (sB σ a e) ∧ gI σ a (rI (e + 1)) = nI (sB σ a e + nB σ a e) ∧ sB σ a e + nB σ a e ≤ 240 ∧ 0 < nB σ a e
theorem okB_of {σ : Mem} {a nE : Nat} {st : Nat → Nat} (h1 : nE ≤ 240) (h2 : ∀ e, e < nE → st e < st (e + 1)) (h3 : ∀ e, e ≤ nE → st e ≤ 240) (h4 : ∀ e, e ≤ nE → gI σ a e = nI (st e)) {e : Nat} (he : e < nE) : okB σ a (nI e) ∧ sB σ a (nI e) = st e ∧ nB σ a (nI e) = st (e + 1) - st e := by
  have r1 : rI (nI e) = e := rI_nI (by omega)
  have r2 : rI (nI e + 1) = e + 1 := by rw [nI_1]; exact rI_nI (by omega)
  have g1 := h4 e (by omega)
  have g2 := h4 (e + 1) (by omega)
  have b1 := h3 e (by omega)
  have b2 := h3 (e + 1) (by omega)
  have m := h2 e he
  have e1 : sB σ a (nI e) = st e := by unfold sB; rw [r1, g1]; exact rI_nI (by omega)
  have e2 : nB σ a (nI e) = st (e + 1) - st e := by unfold nB; rw [r1, r2, g1, g2, rI_nI (by omega), rI_nI (by omega)]
  refine ⟨⟨inI (by omega) (by decide), inI (by omega) (by decide), by rw [nI_1]; exact inI (by omega) (by decide), ?_, ?_, ?_, ?_⟩, e1, e2⟩
  · rw [e1, r1]; exact g1
  · rw [e1, e2, r2, g2]; congr 1; omega
  · rw [e1, e2]; omega
  · rw [e2]; omega
theorem EvC.mono_st {σ : Mem} {b nE : Nat} {st mh : Nat → Nat} {n : Nat} (h : EvC σ b nE st mh n) : ∀ d e, e + d ≤ nE → st e + d ≤ st (e + d) := by
  intro d
  induction d with
  | zero => intro e _; exact Nat.le_refl _
  | succ d ih =>
    intro e he
    have h1 := ih e (by omega)
    have h2 := (h.2.2.2.1 (e + d) (by omega)).1
    rw [show e + (d + 1) = e + d + 1 by omega]
    omega
theorem EvC.le_st {σ : Mem} {b nE : Nat} {st mh : Nat → Nat} {n : Nat} (h : EvC σ b nE st mh n) {e : Nat} (he : e ≤ nE) : st e ≤ st nE := by
  have := h.mono_st (nE - e) e (by omega)
  rw [show e + (nE - e) = nE by omega] at this
  omega
theorem EvC.okB {σ : Mem} {b nE : Nat} {st mh : Nat → Nat} {n : Nat} (h : EvC σ b nE st mh n) {e : Nat} (he : e < nE) : okB σ (b + 1) (nI e) ∧ sB σ (b + 1) (nI e) = st e ∧ nB σ (b + 1) (nI e) = st (e + 1) - st e :=
  okB_of h.1 (fun e he => (h.2.2.2.1 e he).1) (fun e he => Nat.le_trans (h.le_st he) h.2.2.2.2.1) h.2.2.2.2.2.1 he
theorem EvM.okB {σ : Mem} {b nE : Nat} {st mh : Nat → Nat} {n : Nat} (h : EvC σ b nE st mh n) (hM : EvM σ b nE st mh) {e : Nat} (he : e < nE) : _root_.Jvm.Pilot.CTankFieldLaw_law_r1737_6f1891.okB σ 65 (nI e) ∧ sB σ 65 (nI e) = st e ∧ nB σ 65 (nI e) = st (e + 1) - st e :=
  okB_of h.1 (fun e he => (h.2.2.2.1 e he).1) (fun e he => Nat.le_trans (h.le_st he) h.2.2.2.2.1) hM.2.2.1 he
def leastF (tm : Nat → Int32) (s n : Nat) : Int32 := foldN (fun i a => if tm (s + i) < a then tm (s + i) else a) (tm s) n
def grF (tm : Nat → Int32) (s n : Nat) : Int32 := foldN (fun i a => if a < tm (s + i) then tm (s + i) else a) (tm s) n
def sureF (kd : Nat → Int32) (s n : Nat) : Int32 := foldN (fun i a => if 2 ≤ kd (s + i) then 0 else a) 1 n
theorem sureF_0 {kd : Nat → Int32} {s i : Nat} (h : sureF kd s i = 0) : ∀ d, sureF kd s (i + d) = 0 := by
  intro d
  induction d with
  | zero => exact h
  | succ d ih =>
    show (if 2 ≤ kd (s + (i + d)) then 0 else sureF kd s (i + d)) = 0
    rw [ih]
    split <;> rfl
def csX0_leastTimeOf : Cs := [(49, 2, false, spJ9_min_7cf53)]
def spX0_leastTimeOf : SP := G [(2, [30, 36]), (0, [])] (spV (fun vs σ => match vs with
  | [.ref a0, .int a1] => okB σ (a0 + 1) (a1)
  | _ => True) (fun vs σ => match vs with
  | [.ref a0, .int a1] => (some (.int (leastF (gI σ (a0 + 4)) (sB σ (a0 + 1) (a1)) (nB σ (a0 + 1) (a1)))), σ)
  | _ => (none, σ)))
theorem mnX0_leastTimeOf : Mono spX0_leastTimeOf := Mono.spV
theorem bdX0_leastTimeOf : Body 4 pgX0_leastTimeOf roM csX0_leastTimeOf lcX0 false spX0_leastTimeOf := by
  intro vs σ K h Ok hst
  obtain ⟨hs, hp9, hk⟩ := h
  obtain ⟨b, vs, rfl, hb, hs1⟩ := shpR hs
  obtain ⟨e, vs, rfl, hs2⟩ := shpI hs1
  cases shpN hs2
  obtain ⟨o1, o1', o2, o3, o4, o5, o6⟩ := hp9
  have hk : K (some (.int (leastF (gI σ (b + 4)) (sB σ (b + 1) e) (nB σ (b + 1) e)))) σ := hk
  have o3 : gI σ (b + 1) (rI e) = nI (sB σ (b + 1) e) := o3
  have o4 : gI σ (b + 1) (rI (e + 1)) = nI (sB σ (b + 1) e + nB σ (b + 1) e) := o4
  have o5 : sB σ (b + 1) e + nB σ (b + 1) e ≤ 240 := o5
  have o6 : 0 < nB σ (b + 1) e := o6
  generalize sB σ (b + 1) e = s at o3 o4 o5 hk
  generalize nB σ (b + 1) e = n at o4 o5 o6 hk
  have loop : ∀ d i, i + d = n → Ok 13 [some (.ref b), some (.int e), some (.int (leastF (gI σ (b + 4)) s i)), some (.int (nI (s + i)))] [] σ := by
    intro d
    induction d with
    | zero =>
      intro i hi
      refine hst [13] 40 _ _ _ _ ?_
      have key : vp_in (e + 1) 241 ∧ ((gI σ (b + 1) (rI (e + 1)) ≤ nI (s + i) → K (some (.int (leastF (gI σ (b + 4)) s i))) σ) ∧ (¬ gI σ (b + 1) (rI (e + 1)) ≤ nI (s + i) → False)) := by
        refine ⟨o2, fun _ => ?_, fun c => c (by rw [o4]; exact nI_le (by omega) (by omega))⟩
        have : i = n := by omega
        subst this
        exact hk
      rcases (by simpa using hb : b = 30 ∨ b = 36) with rfl | rfl
      · exact And.intro key.1 (And.intro key.2.1 (fun c => (key.2.2 c).elim))
      · exact And.intro key.1 (And.intro key.2.1 (fun c => (key.2.2 c).elim))
    | succ d ih =>
      intro i hi
      have ih := ih (i + 1) (by omega)
      rw [← Nat.add_assoc, ← nI_1] at ih
      have hr : rI (nI (s + i)) = s + i := rI_nI (by omega)
      have nlt : ¬ gI σ (b + 1) (rI (e + 1)) ≤ nI (s + i) := by rw [o4]; exact nI_ge (by omega) (by omega)
      have hin : vp_in (nI (s + i)) 240 := inI (by omega) (by decide)
      have nx : Ok 13 [some (.ref b), some (.int e), some (.int (if gI σ (b + 4) (rI (nI (s + i))) < leastF (gI σ (b + 4)) s i then gI σ (b + 4) (rI (nI (s + i))) else leastF (gI σ (b + 4)) s i)), some (.int (nI (s + i) + 1))] [] σ := by
        rw [hr]
        exact ih
      refine hst [13] 40 _ _ _ _ ?_
      rcases (by simpa using hb : b = 30 ∨ b = 36) with rfl | rfl
      · exact And.intro o2 (br_f nlt (And.intro hin (c5 (Nat.le_of_ble_eq_true rfl) (Nat.le_of_ble_eq_true rfl) rfl trivial nx)))
      · exact And.intro o2 (br_f nlt (And.intro hin (c5 (Nat.le_of_ble_eq_true rfl) (Nat.le_of_ble_eq_true rfl) rfl trivial nx)))
  have hin0 : vp_in (gI σ (b + 1) (rI e)) 240 := by rw [o3]; exact inI (by omega) (by decide)
  have l0 := loop n 0 (by omega)
  have l1 : Ok 13 [some (.ref b), some (.int e), some (.int (gI σ (b + 4) (rI (gI σ (b + 1) (rI e))))), some (.int (gI σ (b + 1) (rI e)))] [] σ := by
    rw [o3, rI_nI (by omega)]
    exact l0
  refine hst [13] 40 _ _ _ _ ?_
  rcases (by simpa using hb : b = 30 ∨ b = 36) with rfl | rfl
  · exact And.intro o1' (And.intro hin0 (And.intro o1' l1))
  · exact And.intro o1' (And.intro hin0 (And.intro o1' l1))
def csX0_greatestTimeOf : Cs := [(55, 2, false, spJ9_max_7cf53)]
def spX0_greatestTimeOf : SP := G [(2, [30, 36]), (0, [])] (spV (fun vs σ => match vs with
  | [.ref a0, .int a1] => okB σ (a0 + 1) (a1)
  | _ => True) (fun vs σ => match vs with
  | [.ref a0, .int a1] => (some (.int (grF (gI σ (a0 + 4)) (sB σ (a0 + 1) (a1)) (nB σ (a0 + 1) (a1)))), σ)
  | _ => (none, σ)))
theorem mnX0_greatestTimeOf : Mono spX0_greatestTimeOf := Mono.spV
theorem bdX0_greatestTimeOf : Body 4 pgX0_greatestTimeOf roM csX0_greatestTimeOf lcX0 false spX0_greatestTimeOf := by
  intro vs σ K h Ok hst
  obtain ⟨hs, hp9, hk⟩ := h
  obtain ⟨b, vs, rfl, hb, hs1⟩ := shpR hs
  obtain ⟨e, vs, rfl, hs2⟩ := shpI hs1
  cases shpN hs2
  obtain ⟨o1, o1', o2, o3, o4, o5, o6⟩ := hp9
  have hk : K (some (.int (grF (gI σ (b + 4)) (sB σ (b + 1) e) (nB σ (b + 1) e)))) σ := hk
  have o3 : gI σ (b + 1) (rI e) = nI (sB σ (b + 1) e) := o3
  have o4 : gI σ (b + 1) (rI (e + 1)) = nI (sB σ (b + 1) e + nB σ (b + 1) e) := o4
  have o5 : sB σ (b + 1) e + nB σ (b + 1) e ≤ 240 := o5
  have o6 : 0 < nB σ (b + 1) e := o6
  generalize sB σ (b + 1) e = s at o3 o4 o5 hk
  generalize nB σ (b + 1) e = n at o4 o5 o6 hk
  have loop : ∀ d i, i + d = n → Ok 13 [some (.ref b), some (.int e), some (.int (grF (gI σ (b + 4)) s i)), some (.int (nI (s + i)))] [] σ := by
    intro d
    induction d with
    | zero =>
      intro i hi
      refine hst [13] 40 _ _ _ _ ?_
      have key : vp_in (e + 1) 241 ∧ ((gI σ (b + 1) (rI (e + 1)) ≤ nI (s + i) → K (some (.int (grF (gI σ (b + 4)) s i))) σ) ∧ (¬ gI σ (b + 1) (rI (e + 1)) ≤ nI (s + i) → False)) := by
        refine ⟨o2, fun _ => ?_, fun c => c (by rw [o4]; exact nI_le (by omega) (by omega))⟩
        have : i = n := by omega
        subst this
        exact hk
      rcases (by simpa using hb : b = 30 ∨ b = 36) with rfl | rfl
      · exact And.intro key.1 (And.intro key.2.1 (fun c => (key.2.2 c).elim))
      · exact And.intro key.1 (And.intro key.2.1 (fun c => (key.2.2 c).elim))
    | succ d ih =>
      intro i hi
      have ih := ih (i + 1) (by omega)
      rw [← Nat.add_assoc, ← nI_1] at ih
      have hr : rI (nI (s + i)) = s + i := rI_nI (by omega)
      have nlt : ¬ gI σ (b + 1) (rI (e + 1)) ≤ nI (s + i) := by rw [o4]; exact nI_ge (by omega) (by omega)
      have hin : vp_in (nI (s + i)) 240 := inI (by omega) (by decide)
      have nx : Ok 13 [some (.ref b), some (.int e), some (.int (if grF (gI σ (b + 4)) s i < gI σ (b + 4) (rI (nI (s + i))) then gI σ (b + 4) (rI (nI (s + i))) else grF (gI σ (b + 4)) s i)), some (.int (nI (s + i) + 1))] [] σ := by
        rw [hr]
        exact ih
      refine hst [13] 40 _ _ _ _ ?_
      rcases (by simpa using hb : b = 30 ∨ b = 36) with rfl | rfl
      · exact And.intro o2 (br_f nlt (And.intro hin (c5 (Nat.le_of_ble_eq_true rfl) (Nat.le_of_ble_eq_true rfl) rfl trivial nx)))
      · exact And.intro o2 (br_f nlt (And.intro hin (c5 (Nat.le_of_ble_eq_true rfl) (Nat.le_of_ble_eq_true rfl) rfl trivial nx)))
  have hin0 : vp_in (gI σ (b + 1) (rI e)) 240 := by rw [o3]; exact inI (by omega) (by decide)
  have l0 := loop n 0 (by omega)
  have l1 : Ok 13 [some (.ref b), some (.int e), some (.int (gI σ (b + 4) (rI (gI σ (b + 1) (rI e))))), some (.int (gI σ (b + 1) (rI e)))] [] σ := by
    rw [o3, rI_nI (by omega)]
    exact l0
  refine hst [13] 40 _ _ _ _ ?_
  rcases (by simpa using hb : b = 30 ∨ b = 36) with rfl | rfl
  · exact And.intro o1' (And.intro hin0 (And.intro o1' l1))
  · exact And.intro o1' (And.intro hin0 (And.intro o1' l1))
def csX10_leastTime : Cs := []
def spX10_leastTime : SP := G [(2, [42]), (0, [])] (spV (fun vs σ => match vs with
  | [_, .int a1] => okB σ 65 (a1)
  | _ => True) (fun vs σ => match vs with
  | [_, .int a1] => (some (.int (leastF (gI σ 67) (sB σ 65 (a1)) (nB σ 65 (a1)))), σ)
  | _ => (none, σ)))
theorem mnX10_leastTime : Mono spX10_leastTime := Mono.spV
theorem bdX10_leastTime : Body 4 pgX10_leastTime roM csX10_leastTime lcX10 false spX10_leastTime := by
  intro vs σ K h Ok hst
  obtain ⟨hs, hp9, hk⟩ := h
  obtain ⟨vs, rfl, hs1⟩ := shpR1 hs
  obtain ⟨e, vs, rfl, hs2⟩ := shpI hs1
  cases shpN hs2
  obtain ⟨o1, o1', o2, o3, o4, o5, o6⟩ := hp9
  have hk : K (some (.int (leastF (gI σ 67) (sB σ 65 e) (nB σ 65 e)))) σ := hk
  have o3 : gI σ 65 (rI e) = nI (sB σ 65 e) := o3
  have o4 : gI σ 65 (rI (e + 1)) = nI (sB σ 65 e + nB σ 65 e) := o4
  have o5 : sB σ 65 e + nB σ 65 e ≤ 240 := o5
  have o6 : 0 < nB σ 65 e := o6
  generalize sB σ 65 e = s at o3 o4 o5 hk
  generalize nB σ 65 e = n at o4 o5 o6 hk
  have loop : ∀ d i, i + d = n → Ok 13 [some (.ref 42), some (.int e), some (.int (leastF (gI σ 67) s i)), some (.int (nI (s + i)))] [] σ := by
    intro d
    induction d with
    | zero =>
      intro i hi
      refine hst [13] 40 _ _ _ _ ?_
      refine And.intro o2 (br_t (by rw [o4]; exact nI_le (by omega) (by omega)) ?_)
      have : i = n := by omega
      subst this
      exact hk
    | succ d ih =>
      intro i hi
      have ih := ih (i + 1) (by omega)
      rw [← Nat.add_assoc, ← nI_1] at ih
      have hr : rI (nI (s + i)) = s + i := rI_nI (by omega)
      have nlt : ¬ gI σ 65 (rI (e + 1)) ≤ nI (s + i) := by rw [o4]; exact nI_ge (by omega) (by omega)
      have hin : vp_in (nI (s + i)) 240 := inI (by omega) (by decide)
      have nx : ∀ v, v = leastF (gI σ 67) s (i + 1) → Ok 13 [some (.ref 42), some (.int e), some (.int v), some (.int (nI (s + i) + 1))] [] σ := fun v hv => by rw [hv]; exact ih
      refine hst [13] 40 _ _ _ _ ?_
      refine And.intro o2 (br_f nlt (And.intro hin (And.intro (fun c => ?_) (fun c => And.intro hin ?_))))
      · rw [hr] at c
        exact nx _ (if_neg (Int32.not_lt.mpr c)).symm
      · rw [hr] at c
        refine nx _ ?_
        rw [hr]
        exact (if_pos (Int32.not_le.mp c)).symm
  have hin0 : vp_in (gI σ 65 (rI e)) 240 := by rw [o3]; exact inI (by omega) (by decide)
  have l0 := loop n 0 (by omega)
  have l1 : Ok 13 [some (.ref 42), some (.int e), some (.int (gI σ 67 (rI (gI σ 65 (rI e))))), some (.int (gI σ 65 (rI e)))] [] σ := by
    rw [o3, rI_nI (by omega)]
    exact l0
  refine hst [13] 40 _ _ _ _ ?_
  exact And.intro o1' (And.intro hin0 (And.intro o1' l1))
def csX9_isSure : Cs := [(153, 1, true, spX5_kindOf)]
def spX9_isSure : SP := G [(2, [0]), (0, [])] (spV (fun vs σ => match vs with
  | [_, .int a1] => okB σ (gP σ + 1) (a1) ∧ (gP σ = 30 ∨ gP σ = 36) ∧ ∀ i, i < nB σ (gP σ + 1) (a1) → vp_in (gI σ (gP σ + 3) (sB σ (gP σ + 1) (a1) + i)) 240
  | _ => True) (fun vs σ => match vs with
  | [_, .int a1] => (some (.int (sureF (fun p => kdT (gI σ 7 (rI (gI σ (gP σ + 3) p))) (gI σ 8 (rI (gI σ (gP σ + 3) p)))) (sB σ (gP σ + 1) (a1)) (nB σ (gP σ + 1) (a1)))), σ)
  | _ => (none, σ)))
theorem mnX9_isSure : Mono spX9_isSure := Mono.spV
theorem sureF_01 (kd : Nat → Int32) (s : Nat) : ∀ n, sureF kd s n = 0 ∨ sureF kd s n = 1
  | 0 => Or.inr rfl
  | n + 1 => by
    show (if 2 ≤ kd (s + n) then 0 else sureF kd s n) = 0 ∨ (if 2 ≤ kd (s + n) then 0 else sureF kd s n) = 1
    split
    · exact Or.inl rfl
    · exact sureF_01 kd s n
theorem bdX9_isSure : Body 4 pgX9_isSure roM csX9_isSure lcX9 true spX9_isSure := by
  intro vs σ K h Ok hst
  obtain ⟨hs, hp9, hk⟩ := h
  obtain ⟨vs, rfl, hs1⟩ := shpR1 hs
  obtain ⟨e, vs, rfl, hs2⟩ := shpI hs1
  cases shpN hs2
  obtain ⟨⟨o1, o1', o2, o3, o4, o5, o6⟩, hb, hv⟩ := hp9
  have hk : K (some (.int (sureF (fun p => kdT (gI σ 7 (rI (gI σ (gP σ + 3) p))) (gI σ 8 (rI (gI σ (gP σ + 3) p)))) (sB σ (gP σ + 1) e) (nB σ (gP σ + 1) e)))) σ := hk
  have o3 : gI σ (gP σ + 1) (rI e) = nI (sB σ (gP σ + 1) e) := o3
  have o4 : gI σ (gP σ + 1) (rI (e + 1)) = nI (sB σ (gP σ + 1) e + nB σ (gP σ + 1) e) := o4
  have o5 : sB σ (gP σ + 1) e + nB σ (gP σ + 1) e ≤ 240 := o5
  have hv : ∀ i, i < nB σ (gP σ + 1) e → vp_in (gI σ (gP σ + 3) (sB σ (gP σ + 1) e + i)) 240 := hv
  generalize sB σ (gP σ + 1) e = s at o3 o4 o5 hk hv
  generalize nB σ (gP σ + 1) e = n at o4 o5 hk hv
  have loop : ∀ d i, i + d = n → sureF (fun p => kdT (gI σ 7 (rI (gI σ (gP σ + 3) p))) (gI σ 8 (rI (gI σ (gP σ + 3) p)))) s i = 1 → Ok 6 [some (.ref 0), some (.int e), some (.int (nI (s + i))), none] [] σ ∧ ∀ x, Ok 6 [some (.ref 0), some (.int e), some (.int (nI (s + i))), some (.int x)] [] σ := by
    intro d
    induction d with
    | zero =>
      intro i hi h1
      have : i = n := by omega
      subst this
      have hk : K (some (.int 1)) σ := K_int h1 hk
      have lt : gI σ (gP σ + 1) (rI (e + 1)) ≤ nI (s + i) := by rw [o4]; exact nI_le (by omega) (by omega)
      obtain ⟨s1, s2, s3, s4⟩ := σ
      rcases hb with hb | hb
      · have hb : s3 = 30 := hb
        subst hb
        exact ⟨hst [6] 40 _ _ _ _ (And.intro o2 (br_t lt (And.intro (Or.inr rfl) hk))), fun x => hst [6] 40 _ _ _ _ (And.intro o2 (br_t lt (And.intro (Or.inr rfl) hk)))⟩
      · have hb : s3 = 36 := hb
        subst hb
        exact ⟨hst [6] 40 _ _ _ _ (And.intro o2 (br_t lt (And.intro (Or.inr rfl) hk))), fun x => hst [6] 40 _ _ _ _ (And.intro o2 (br_t lt (And.intro (Or.inr rfl) hk)))⟩
    | succ d ih =>
      intro i hi h1
      have hr : rI (nI (s + i)) = s + i := rI_nI (by omega)
      have nlt : ¬ gI σ (gP σ + 1) (rI (e + 1)) ≤ nI (s + i) := by rw [o4]; exact nI_ge (by omega) (by omega)
      have hin : vp_in (nI (s + i)) 240 := inI (by omega) (by decide)
      have hin2 : vp_in (gI σ (gP σ + 3) (rI (nI (s + i)))) 240 := by rw [hr]; exact hv i (by omega)
      let kd := kdT (gI σ 7 (rI (gI σ (gP σ + 3) (rI (nI (s + i)))))) (gI σ 8 (rI (gI σ (gP σ + 3) (rI (nI (s + i))))))
      have yes : 2 ≤ kd → K (some (.int 0)) σ := by
        intro z
        refine K_int ?_ hk
        have e0 : sureF (fun p => kdT (gI σ 7 (rI (gI σ (gP σ + 3) p))) (gI σ 8 (rI (gI σ (gP σ + 3) p)))) s (i + 1) = 0 := by
          have z2 : 2 ≤ kdT (gI σ 7 (rI (gI σ (gP σ + 3) (s + i)))) (gI σ 8 (rI (gI σ (gP σ + 3) (s + i)))) := by rw [← hr]; exact z
          exact if_pos z2
        have := sureF_0 e0 d
        rwa [show i + 1 + d = n by omega] at this
      have no : ¬ 2 ≤ kd → Ok 6 [some (.ref 0), some (.int e), some (.int (nI (s + i) + 1)), some (.int kd)] [] σ := by
        intro z
        have z2 : ¬ 2 ≤ kdT (gI σ 7 (rI (gI σ (gP σ + 3) (s + i)))) (gI σ 8 (rI (gI σ (gP σ + 3) (s + i)))) := by rw [← hr]; exact z
        have := (ih (i + 1) (by omega) ((if_neg z2).trans h1)).2 kd
        rw [← Nat.add_assoc, ← nI_1] at this
        exact this
      have step : (kd = 2 → ((0 : Int32) = 0 ∨ (0 : Int32) = 1) ∧ K (some (.int 0)) σ) ∧ (¬ kd = 2 → (kd = 3 → ((0 : Int32) = 0 ∨ (0 : Int32) = 1) ∧ K (some (.int 0)) σ) ∧ (¬ kd = 3 → Ok 6 [some (.ref 0), some (.int e), some (.int (nI (s + i) + 1)), some (.int kd)] [] σ)) := by
        refine ⟨fun z => ⟨Or.inl rfl, yes (by rw [z]; decide)⟩, fun z => ⟨fun z3 => ⟨Or.inl rfl, yes (by rw [z3]; decide)⟩, fun z3 => no ?_⟩⟩
        rcases kd_cases (gI σ 7 (rI (gI σ (gP σ + 3) (rI (nI (s + i)))))) (gI σ 8 (rI (gI σ (gP σ + 3) (rI (nI (s + i)))))) with q | q | q | q
        · show ¬ 2 ≤ kdT _ _
          rw [q]; decide
        · show ¬ 2 ≤ kdT _ _
          rw [q]; decide
        · exact absurd q z
        · exact absurd q z3
      obtain ⟨s1, s2, s3, s4⟩ := σ
      rcases hb with hb | hb
      · have hb : s3 = 30 := hb
        subst hb
        exact ⟨hst [6] 40 _ _ _ _ (And.intro o2 (br_f nlt (And.intro hin (c4 (Nat.le_of_ble_eq_true rfl) rfl hin2 step)))), fun x => hst [6] 40 _ _ _ _ (And.intro o2 (br_f nlt (And.intro hin (c4 (Nat.le_of_ble_eq_true rfl) rfl hin2 step))))⟩
      · have hb : s3 = 36 := hb
        subst hb
        exact ⟨hst [6] 40 _ _ _ _ (And.intro o2 (br_f nlt (And.intro hin (c4 (Nat.le_of_ble_eq_true rfl) rfl hin2 step)))), fun x => hst [6] 40 _ _ _ _ (And.intro o2 (br_f nlt (And.intro hin (c4 (Nat.le_of_ble_eq_true rfl) rfl hin2 step))))⟩
  have l0 := (loop n 0 (by omega) rfl).1
  have l1 : Ok 6 [some (.ref 0), some (.int e), some (.int (gI σ (gP σ + 1) (rI e))), none] [] σ := by
    rw [o3]
    exact l0
  refine hst [6] 40 _ _ _ _ ?_
  obtain ⟨s1, s2, s3, s4⟩ := σ
  rcases hb with hb | hb
  · have hb : s3 = 30 := hb
    subst hb
    exact And.intro o1' l1
  · have hb : s3 = 36 := hb
    subst hb
    exact And.intro o1' l1
