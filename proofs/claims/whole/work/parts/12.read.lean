/-! clocks and downs, hits: what is read -/
def cn (x : Int32) (N : Nat) : Prop := x = nI (rI x) ∧ rI x ≤ N
theorem cn_of {x : Int32} {n N : Nat} (h : x = nI n) (hn : n ≤ N) (hN : N < 2 ^ 31) : cn x N ∧ rI x = n := by
  have e : rI x = n := by rw [h]; exact rI_nI (by omega)
  exact ⟨⟨by rw [e]; exact h, by rw [e]; exact hn⟩, e⟩
/-- a place going down: ahead of i -/
def dn (x : Int32) (i : Nat) : Prop := (i = 0 ∧ x = -1) ∨ ∃ j, i = j + 1 ∧ x = nI j
theorem dn_sub (n : Nat) : dn (nI n - 1) n := by
  cases n with
  | zero => exact Or.inl ⟨rfl, by decide⟩
  | succ j => exact Or.inr ⟨j, rfl, nI_pred j⟩
theorem dn_m1 (j : Nat) : dn (nI j + (-1)) j := by
  cases j with
  | zero => exact Or.inl ⟨rfl, by decide⟩
  | succ j => exact Or.inr ⟨j, rfl, pk_m1 j⟩
def fastF (tk fr vl : Nat → Int32) (t time : Int32) : Nat → Int32
  | 0 => 0
  | n + 1 => if tk n = t ∧ fr n ≤ time then vl n else fastF tk fr vl t time n
def endF (tk fr vl : Nat → Int32) (t time : Int32) (n : Nat) : Int32 := foldN (fun i e => if tk i = t ∧ fr i ≤ time ∧ e < vl i then vl i else e) time n
def dutF (tk fr vl : Nat → Int32) (t time : Int32) (n : Nat) : Int32 := foldN (fun i e => if tk i = t ∧ fr i ≤ time ∧ time < vl i ∧ e < vl i then vl i else e) (-9) n
def nxtF (tk fr : Nat → Int32) (t time en : Int32) (n : Nat) : Int32 := foldN (fun i e => if tk i = t ∧ time < fr i ∧ fr i < e then fr i else e) en n
def csX1_fastAt : Cs := []
def spX1_fastAt : SP := G [(2, [9]), (0, []), (0, [])] (spV (fun _ σ => cn (gI σ 9 3) 20) (fun vs σ => match vs with
  | [_, .int a1, .int a2] => (some (.int (fastF (gI σ 10) (gI σ 11) (gI σ 12) (a1) (a2) (rI (gI σ 9 3)))), σ)
  | _ => (none, σ)))
theorem mnX1_fastAt : Mono spX1_fastAt := Mono.spV
theorem bdX1_fastAt : Body 4 pgX1_fastAt roM csX1_fastAt lcX1 false spX1_fastAt := by
  intro vs σ K h Ok hst
  obtain ⟨hs, hp9, hk⟩ := h
  obtain ⟨vs, rfl, hs1⟩ := shpR1 hs
  obtain ⟨t, vs, rfl, hs2⟩ := shpI hs1
  obtain ⟨time, vs, rfl, hs3⟩ := shpI hs2
  cases shpN hs3
  obtain ⟨hc, hn⟩ := hp9
  have hk : K (some (.int (fastF (gI σ 10) (gI σ 11) (gI σ 12) t time (rI (gI σ 9 3))))) σ := hk
  generalize rI (gI σ 9 3) = n at hc hn hk
  have loop : ∀ i x, i ≤ n → dn x i → K (some (.int (fastF (gI σ 10) (gI σ 11) (gI σ 12) t time i))) σ → Ok 5 [some (.ref 9), some (.int t), some (.int time), some (.int x)] [] σ := by
    intro i
    induction i with
    | zero =>
      intro x _ hx hk
      refine hst [5] 40 _ _ _ _ ?_
      rcases hx with ⟨-, hx⟩ | ⟨j, hj, -⟩
      · refine And.intro (fun c => ?_) (fun c => absurd (by rw [hx]; decide) c)
        exact hk
      · omega
    | succ i ih =>
      intro x hi hx hk
      refine hst [5] 40 _ _ _ _ ?_
      rcases hx with ⟨h0, -⟩ | ⟨j, hj, hx⟩
      · omega
      · have : j = i := by omega
        subst this
        subst hx
        refine And.intro (fun c => absurd c (nI_pos (by omega))) (fun c => ?_)
        refine And.intro (inI (by omega) (by decide)) ?_
        refine And.intro (fun c1 => ?_) (fun c1 => ?_)
        · refine And.intro (inI (by omega) (by decide)) ?_
          refine And.intro (fun c2 => ?_) (fun c2 => ?_)
          · refine ih _ (by omega) (dn_m1 j) (K_int (if_neg ?_) hk)
            rw [rI_nI (by omega)] at c2
            exact fun q => Int32.not_le.mpr c2 q.2
          · refine And.intro (inI (by omega) (by decide)) (K_int ?_ hk)
            rw [rI_nI (by omega)] at c1 c2 ⊢
            exact if_pos ⟨c1, Int32.not_lt.mp c2⟩
        · refine ih _ (by omega) (dn_m1 j) (K_int (if_neg ?_) hk)
          rw [rI_nI (by omega)] at c1
          exact fun q => c1 q.1
  refine hst [5] 40 _ _ _ _ ?_
  have := loop n (gI σ 9 3 - 1) (Nat.le_refl n) (by rw [hc]; exact dn_sub n) hk
  exact this
def csX2_endOfDown : Cs := []
def spX2_endOfDown : SP := G [(2, [13]), (0, []), (0, [])] (spV (fun _ σ => cn (gI σ 13 3) 20) (fun vs σ => match vs with
  | [_, .int a1, .int a2] => (some (.int (endF (gI σ 14) (gI σ 15) (gI σ 16) (a1) (a2) (rI (gI σ 13 3)))), σ)
  | _ => (none, σ)))
theorem mnX2_endOfDown : Mono spX2_endOfDown := Mono.spV
theorem bdX2_endOfDown : Body 5 pgX2_endOfDown roM csX2_endOfDown lcX2 false spX2_endOfDown := by
  intro vs σ K h Ok hst
  obtain ⟨hs, hp9, hk⟩ := h
  obtain ⟨vs, rfl, hs1⟩ := shpR1 hs
  obtain ⟨t, vs, rfl, hs2⟩ := shpI hs1
  obtain ⟨time, vs, rfl, hs3⟩ := shpI hs2
  cases shpN hs3
  obtain ⟨hc, hn⟩ := hp9
  have hk : K (some (.int (endF (gI σ 14) (gI σ 15) (gI σ 16) t time (rI (gI σ 13 3))))) σ := hk
  generalize rI (gI σ 13 3) = n at hc hn hk
  have loop : ∀ d i, i + d = n → Ok 4 [some (.ref 13), some (.int t), some (.int time), some (.int (endF (gI σ 14) (gI σ 15) (gI σ 16) t time i)), some (.int (nI i))] [] σ := by
    intro d
    induction d with
    | zero =>
      intro i hi
      refine hst [4] 40 _ _ _ _ ?_
      refine And.intro (fun c => ?_) (fun c => absurd (by rw [hc]; exact nI_le (by omega) (by omega)) c)
      have : i = n := by omega
      subst this
      exact hk
    | succ d ih =>
      intro i hi
      have ih := ih (i + 1) (by omega)
      rw [← nI_1] at ih
      have nx : ∀ v, v = endF (gI σ 14) (gI σ 15) (gI σ 16) t time (i + 1) → Ok 4 [some (.ref 13), some (.int t), some (.int time), some (.int v), some (.int (nI i + 1))] [] σ := fun v hv => by rw [hv]; exact ih
      have hr : rI (nI i) = i := rI_nI (by omega)
      refine hst [4] 40 _ _ _ _ ?_
      refine And.intro (fun c => absurd (by rw [← hc]; exact c) (nI_ge (b := n) (a := i) (by omega) (by omega))) (fun c => ?_)
      refine And.intro (inI (by omega) (by decide)) ?_
      refine And.intro (fun c1 => ?_) (fun c1 => ?_)
      · refine And.intro (inI (by omega) (by decide)) ?_
        refine And.intro (fun c2 => ?_) (fun c2 => ?_)
        · rw [hr] at c2
          exact nx _ (if_neg (fun q => Int32.not_le.mpr c2 q.2.1)).symm
        · refine And.intro (inI (by omega) (by decide)) ?_
          refine And.intro (fun c3 => ?_) (fun c3 => ?_)
          · rw [hr] at c3
            exact nx _ (if_neg (fun q => Int32.not_le.mpr q.2.2 c3)).symm
          · refine And.intro (inI (by omega) (by decide)) ?_
            rw [hr] at c1 c2 c3
            refine nx _ ?_
            rw [hr]
            exact (if_pos ⟨c1, Int32.not_lt.mp c2, Int32.not_le.mp c3⟩).symm
      · rw [hr] at c1
        exact nx _ (if_neg (fun q => c1 q.1)).symm
  refine hst [4] 40 _ _ _ _ ?_
  exact loop n 0 (by omega)
def csX2_nextDown : Cs := []
def spX2_nextDown : SP := G [(2, [13]), (0, []), (0, []), (0, [])] (spV (fun _ σ => cn (gI σ 13 3) 20) (fun vs σ => match vs with
  | [_, .int a1, .int a2, .int a3] => (some (.int (nxtF (gI σ 14) (gI σ 15) (a1) (a2) (a3) (rI (gI σ 13 3)))), σ)
  | _ => (none, σ)))
theorem mnX2_nextDown : Mono spX2_nextDown := Mono.spV
theorem bdX2_nextDown : Body 6 pgX2_nextDown roM csX2_nextDown lcX2 false spX2_nextDown := by
  intro vs σ K h Ok hst
  obtain ⟨hs, hp9, hk⟩ := h
  obtain ⟨vs, rfl, hs1⟩ := shpR1 hs
  obtain ⟨t, vs, rfl, hs2⟩ := shpI hs1
  obtain ⟨time, vs, rfl, hs3⟩ := shpI hs2
  obtain ⟨en, vs, rfl, hs4⟩ := shpI hs3
  cases shpN hs4
  obtain ⟨hc, hn⟩ := hp9
  have hk : K (some (.int (nxtF (gI σ 14) (gI σ 15) t time en (rI (gI σ 13 3))))) σ := hk
  generalize rI (gI σ 13 3) = n at hc hn hk
  have loop : ∀ d i, i + d = n → Ok 4 [some (.ref 13), some (.int t), some (.int time), some (.int en), some (.int (nxtF (gI σ 14) (gI σ 15) t time en i)), some (.int (nI i))] [] σ := by
    intro d
    induction d with
    | zero =>
      intro i hi
      refine hst [4] 40 _ _ _ _ ?_
      refine And.intro (fun c => ?_) (fun c => absurd (by rw [hc]; exact nI_le (by omega) (by omega)) c)
      have : i = n := by omega
      subst this
      exact hk
    | succ d ih =>
      intro i hi
      have ih := ih (i + 1) (by omega)
      rw [← nI_1] at ih
      have nx : ∀ v, v = nxtF (gI σ 14) (gI σ 15) t time en (i + 1) → Ok 4 [some (.ref 13), some (.int t), some (.int time), some (.int en), some (.int v), some (.int (nI i + 1))] [] σ := fun v hv => by rw [hv]; exact ih
      have hr : rI (nI i) = i := rI_nI (by omega)
      refine hst [4] 40 _ _ _ _ ?_
      refine And.intro (fun c => absurd (by rw [← hc]; exact c) (nI_ge (b := n) (a := i) (by omega) (by omega))) (fun c => ?_)
      refine And.intro (inI (by omega) (by decide)) ?_
      refine And.intro (fun c1 => ?_) (fun c1 => ?_)
      · refine And.intro (inI (by omega) (by decide)) ?_
        refine And.intro (fun c2 => ?_) (fun c2 => ?_)
        · rw [hr] at c2
          exact nx _ (if_neg (fun q => Int32.not_le.mpr q.2.1 c2)).symm
        · refine And.intro (inI (by omega) (by decide)) ?_
          refine And.intro (fun c3 => ?_) (fun c3 => ?_)
          · rw [hr] at c3
            exact nx _ (if_neg (fun q => Int32.not_lt.mpr c3 q.2.2)).symm
          · refine And.intro (inI (by omega) (by decide)) ?_
            rw [hr] at c1 c2 c3
            refine nx _ ?_
            rw [hr]
            exact (if_pos ⟨c1, Int32.not_le.mp c2, Int32.not_le.mp c3⟩).symm
      · rw [hr] at c1
        exact nx _ (if_neg (fun q => c1 q.1)).symm
  refine hst [4] 40 _ _ _ _ ?_
  exact loop n 0 (by omega)
def csX2_isDownAt : Cs := [(9, 2, true, spX2_endOfDown)]
def spX2_isDownAt : SP := G [(2, [13]), (0, []), (0, [])] (spV (fun _ σ => cn (gI σ 13 3) 20) (fun vs σ => match vs with
  | [_, .int a1, .int a2] => (some (.int (bI (a2 < endF (gI σ 14) (gI σ 15) (gI σ 16) (a1) (a2) (rI (gI σ 13 3))))), σ)
  | _ => (none, σ)))
theorem mnX2_isDownAt : Mono spX2_isDownAt := Mono.spV
theorem bdX2_isDownAt : Body 3 pgX2_isDownAt roM csX2_isDownAt lcX2 true spX2_isDownAt := by
  intro vs σ K h Ok hst
  obtain ⟨hs, hp, hk⟩ := h
  obtain ⟨vs, rfl, hs1⟩ := shpR1 hs
  obtain ⟨t, vs, rfl, hs2⟩ := shpI hs1
  obtain ⟨time, vs, rfl, hs3⟩ := shpI hs2
  cases shpN hs3
  refine hst [] 30 _ _ _ _ ?_
  refine c4 (Nat.le_of_ble_eq_true rfl) rfl hp (And.intro (fun c => ?_) (fun c => ?_))
  · exact And.intro (Or.inl rfl) (K_int (bI_neg (Int32.not_lt.mpr c)) hk)
  · exact And.intro (Or.inr rfl) (K_int (bI_pos (Int32.not_le.mp c)) hk)
def csX9_timePutRight : Cs := [(181, 2, true, spX1_fastAt)]
/-- the class's TIME PUT RIGHT of hit h; whether it is looked at -/
def tprT (σ : Mem) (h : Nat) : Int32 := gI σ 6 h - fastF (gI σ 10) (gI σ 11) (gI σ 12) (gI σ 5 h) (gI σ 6 h) (rI (gI σ 9 3))
def spX9_timePutRight : SP := G [(2, [0]), (0, [])] (spV (fun vs σ => match vs with
  | [_, .int a1] => vp_in (a1) 240 ∧ cn (gI σ 9 3) 20
  | _ => True) (fun vs σ => match vs with
  | [_, .int a1] => (some (.int (tprT σ (rI (a1)))), σ)
  | _ => (none, σ)))
theorem mnX9_timePutRight : Mono spX9_timePutRight := Mono.spV
theorem bdX9_timePutRight : Body 2 pgX9_timePutRight roM csX9_timePutRight lcX9 false spX9_timePutRight := by
  intro vs σ K h Ok hst
  obtain ⟨hs, hp9, hk⟩ := h
  obtain ⟨vs, rfl, hs1⟩ := shpR1 hs
  obtain ⟨v, vs, rfl, hs2⟩ := shpI hs1
  cases shpN hs2
  obtain ⟨hp, hc⟩ := hp9
  refine hst [] 30 _ _ _ _ ?_
  exact And.intro hp (And.intro hp (And.intro hp (c4 (Nat.le_of_ble_eq_true rfl) rfl hc hk)))
def csX9_isLookedAt : Cs := [(184, 2, true, spX2_isDownAt)]
def dwnT (σ : Mem) (h : Nat) : Prop := gI σ 6 h < endF (gI σ 14) (gI σ 15) (gI σ 16) (gI σ 5 h) (gI σ 6 h) (rI (gI σ 13 3))
def spX9_isLookedAt : SP := G [(2, [0]), (0, [])] (spV (fun vs σ => match vs with
  | [_, .int a1] => vp_in (a1) 240 ∧ cn (gI σ 13 3) 20
  | _ => True) (fun vs σ => match vs with
  | [_, .int a1] => (some (.int (if gI σ 6 (rI (a1)) < endF (gI σ 14) (gI σ 15) (gI σ 16) (gI σ 5 (rI (a1))) (gI σ 6 (rI (a1))) (rI (gI σ 13 3)) then 0 else 1)), σ)
  | _ => (none, σ)))
theorem mnX9_isLookedAt : Mono spX9_isLookedAt := Mono.spV
theorem bdX9_isLookedAt : Body 2 pgX9_isLookedAt roM csX9_isLookedAt lcX9 true spX9_isLookedAt := by
  intro vs σ K h Ok hst
  obtain ⟨hs, hp9, hk⟩ := h
  obtain ⟨vs, rfl, hs1⟩ := shpR1 hs
  obtain ⟨v, vs, rfl, hs2⟩ := shpI hs1
  cases shpN hs2
  obtain ⟨hp, hc⟩ := hp9
  refine hst [] 30 _ _ _ _ ?_
  refine And.intro hp (And.intro hp (c4 (Nat.le_of_ble_eq_true rfl) rfl hc (brb (fun q => ?_) (fun q => ?_))))
  · exact And.intro (Or.inl rfl) (K_int (if_pos q) hk)
  · exact And.intro (Or.inr rfl) (K_int (if_neg q) hk)
def csX10_kindOf : Cs := []
def kdM (lo hi : Int32) : Int32 := if lo < 255 then 0 else if hi < 0 then 2 else if hi < 255 then 1 else 3
def spX10_kindOf : SP := G [(2, [42]), (0, [])] (spV (fun vs _ => match vs with
  | [_, .int a1] => vp_in (a1) 240
  | _ => True) (fun vs σ => match vs with
  | [_, .int a1] => (some (.int (kdM (gI σ 47 (rI (a1))) (gI σ 48 (rI (a1))))), σ)
  | _ => (none, σ)))
theorem mnX10_kindOf : Mono spX10_kindOf := Mono.spV
theorem bdX10_kindOf : Body 2 pgX10_kindOf roM csX10_kindOf lcX10 false spX10_kindOf := by
  intro vs σ K h Ok hst
  obtain ⟨hs, hp, hk⟩ := h
  obtain ⟨vs, rfl, hs1⟩ := shpR1 hs
  obtain ⟨v, vs, rfl, hs2⟩ := shpI hs1
  cases shpN hs2
  have hk : K (some (.int (kdM (gI σ 47 (rI v)) (gI σ 48 (rI v))))) σ := hk
  refine hst [] 30 _ _ _ _ ?_
  refine And.intro hp (And.intro (fun c => ?_) (fun c => ?_))
  · have c : ¬ gI σ 47 (rI v) < 255 := Int32.not_lt.mpr c
    refine And.intro hp (And.intro (fun c2 => ?_) (fun c2 => ?_))
    · have c2 : ¬ gI σ 48 (rI v) < 0 := Int32.not_lt.mpr c2
      refine And.intro hp (And.intro (fun c3 => ?_) (fun c3 => ?_))
      · exact K_int (by rw [kdM, if_neg c, if_neg c2, if_neg (Int32.not_lt.mpr c3)]) hk
      · exact K_int (by rw [kdM, if_neg c, if_neg c2, if_pos (Int32.not_le.mp c3)]) hk
    · exact K_int (by rw [kdM, if_neg c, if_pos (Int32.not_le.mp c2)]) hk
  · exact K_int (by rw [kdM, if_pos (Int32.not_le.mp c)]) hk
def csX10_amountOf : Cs := [(138, 1, true, spX10_kindOf)]
def amM (lo hi : Int32) : Int32 := if kdM lo hi = 1 then 16 * hi else if kdM lo hi = 3 then 4080 else lo
def spX10_amountOf : SP := G [(2, [42]), (0, [])] (spV (fun vs _ => match vs with
  | [_, .int a1] => vp_in (a1) 240
  | _ => True) (fun vs σ => match vs with
  | [_, .int a1] => (some (.int (amM (gI σ 47 (rI (a1))) (gI σ 48 (rI (a1))))), σ)
  | _ => (none, σ)))
theorem mnX10_amountOf : Mono spX10_amountOf := Mono.spV
theorem bdX10_amountOf : Body 2 pgX10_amountOf roM csX10_amountOf lcX10 false spX10_amountOf := by
  intro vs σ K h Ok hst
  obtain ⟨hs, hp, hk⟩ := h
  obtain ⟨vs, rfl, hs1⟩ := shpR1 hs
  obtain ⟨v, vs, rfl, hs2⟩ := shpI hs1
  cases shpN hs2
  have hk : K (some (.int (amM (gI σ 47 (rI v)) (gI σ 48 (rI v))))) σ := hk
  refine hst [] 40 _ _ _ _ ?_
  refine c4 (Nat.le_of_ble_eq_true rfl) rfl hp (And.intro (fun c => ?_) (fun c => ?_))
  · exact And.intro hp (K_int (by rw [amM, if_pos c]) hk)
  · refine c4 (Nat.le_of_ble_eq_true rfl) rfl hp (And.intro (fun c2 => ?_) (fun c2 => ?_))
    · exact K_int (by rw [amM, if_neg c, if_pos c2]) hk
    · exact And.intro hp (K_int (by rw [amM, if_neg c, if_neg c2]) hk)
def csX10_rightTime : Cs := []
def rtM (σ : Mem) (h : Nat) : Int32 := gI σ 46 h - fastF (gI σ 49) (gI σ 50) (gI σ 51) (gI σ 45 h) (gI σ 46 h) (rI (gI σ 42 10))
def spX10_rightTime : SP := G [(2, [42]), (0, [])] (spV (fun vs σ => match vs with
  | [_, .int a1] => vp_in (a1) 240 ∧ cn (gI σ 42 10) 20
  | _ => True) (fun vs σ => match vs with
  | [_, .int a1] => (some (.int (rtM σ (rI (a1)))), σ)
  | _ => (none, σ)))
theorem mnX10_rightTime : Mono spX10_rightTime := Mono.spV
theorem bdX10_rightTime : Body 3 pgX10_rightTime roM csX10_rightTime lcX10 false spX10_rightTime := by
  intro vs σ K h Ok hst
  obtain ⟨hs, hp9, hk⟩ := h
  obtain ⟨vs, rfl, hs1⟩ := shpR1 hs
  obtain ⟨v, vs, rfl, hs2⟩ := shpI hs1
  cases shpN hs2
  obtain ⟨hp, hc, hn⟩ := hp9
  have hp : vp_in v 240 := hp
  have hk : K (some (.int (gI σ 46 (rI v) - fastF (gI σ 49) (gI σ 50) (gI σ 51) (gI σ 45 (rI v)) (gI σ 46 (rI v)) (rI (gI σ 42 10))))) σ := hk
  generalize rI (gI σ 42 10) = n at hc hn hk
  have loop : ∀ i x, i ≤ n → dn x i → K (some (.int (gI σ 46 (rI v) - fastF (gI σ 49) (gI σ 50) (gI σ 51) (gI σ 45 (rI v)) (gI σ 46 (rI v)) i))) σ → Ok 5 [some (.ref 42), some (.int v), some (.int x)] [] σ := by
    intro i
    induction i with
    | zero =>
      intro x _ hx hk
      refine hst [5] 50 _ _ _ _ ?_
      rcases hx with ⟨-, hx⟩ | ⟨j, hj, -⟩
      · refine And.intro (fun c => ?_) (fun c => absurd (by rw [hx]; decide) c)
        exact And.intro hp (K_int (Int32.sub_zero _) hk)
      · omega
    | succ i ih =>
      intro x hi hx hk
      refine hst [5] 50 _ _ _ _ ?_
      rcases hx with ⟨h0, -⟩ | ⟨j, hj, hx⟩
      · omega
      · have : j = i := by omega
        subst this
        subst hx
        have hr : rI (nI j) = j := rI_nI (by omega)
        refine And.intro (fun c => absurd c (nI_pos (by omega))) (fun c => ?_)
        refine And.intro (inI (by omega) (by decide)) (And.intro hp ?_)
        refine And.intro (fun c1 => ?_) (fun c1 => ?_)
        · refine And.intro (inI (by omega) (by decide)) (And.intro hp ?_)
          refine And.intro (fun c2 => ?_) (fun c2 => ?_)
          · rw [hr] at c2
            exact ih _ (by omega) (dn_m1 j) (K_int (by rw [fastF, if_neg (fun q => Int32.not_le.mpr c2 q.2)]) hk)
          · refine And.intro hp (And.intro (inI (by omega) (by decide)) (K_int ?_ hk))
            rw [hr] at c1 c2 ⊢
            rw [fastF, if_pos ⟨c1, Int32.not_lt.mp c2⟩]
        · rw [hr] at c1
          exact ih _ (by omega) (dn_m1 j) (K_int (by rw [fastF, if_neg (fun q => c1 q.1)]) hk)
  refine hst [5] 50 _ _ _ _ ?_
  exact loop n (gI σ 42 10 - 1) (Nat.le_refl n) (by rw [hc]; exact dn_sub n) hk
def csX10_downUpTo : Cs := []
def spX10_downUpTo : SP := G [(2, [42]), (0, []), (0, [])] (spV (fun _ σ => cn (gI σ 42 14) 20) (fun vs σ => match vs with
  | [_, .int a1, .int a2] => (some (.int (dutF (gI σ 52) (gI σ 53) (gI σ 54) (a1) (a2) (rI (gI σ 42 14)))), σ)
  | _ => (none, σ)))
theorem mnX10_downUpTo : Mono spX10_downUpTo := Mono.spV
theorem bdX10_downUpTo : Body 5 pgX10_downUpTo roM csX10_downUpTo lcX10 false spX10_downUpTo := by
  intro vs σ K h Ok hst
  obtain ⟨hs, hp9, hk⟩ := h
  obtain ⟨vs, rfl, hs1⟩ := shpR1 hs
  obtain ⟨t, vs, rfl, hs2⟩ := shpI hs1
  obtain ⟨time, vs, rfl, hs3⟩ := shpI hs2
  cases shpN hs3
  obtain ⟨hc, hn⟩ := hp9
  have hk : K (some (.int (dutF (gI σ 52) (gI σ 53) (gI σ 54) t time (rI (gI σ 42 14))))) σ := hk
  generalize rI (gI σ 42 14) = n at hc hn hk
  have loop : ∀ d i, i + d = n → Ok 4 [some (.ref 42), some (.int t), some (.int time), some (.int (dutF (gI σ 52) (gI σ 53) (gI σ 54) t time i)), some (.int (nI i))] [] σ := by
    intro d
    induction d with
    | zero =>
      intro i hi
      refine hst [4] 50 _ _ _ _ ?_
      refine And.intro (fun c => ?_) (fun c => absurd (by rw [hc]; exact nI_le (by omega) (by omega)) c)
      have : i = n := by omega
      subst this
      exact hk
    | succ d ih =>
      intro i hi
      have ih := ih (i + 1) (by omega)
      rw [← nI_1] at ih
      have nx : ∀ v, v = dutF (gI σ 52) (gI σ 53) (gI σ 54) t time (i + 1) → Ok 4 [some (.ref 42), some (.int t), some (.int time), some (.int v), some (.int (nI i + 1))] [] σ := fun v hv => by rw [hv]; exact ih
      have hr : rI (nI i) = i := rI_nI (by omega)
      refine hst [4] 50 _ _ _ _ ?_
      refine And.intro (fun c => absurd (by rw [← hc]; exact c) (nI_ge (b := n) (a := i) (by omega) (by omega))) (fun c => ?_)
      refine And.intro (inI (by omega) (by decide)) ?_
      refine And.intro (fun c1 => ?_) (fun c1 => ?_)
      · refine And.intro (inI (by omega) (by decide)) ?_
        refine And.intro (fun c2 => ?_) (fun c2 => ?_)
        · rw [hr] at c2
          exact nx _ (if_neg (fun q => Int32.not_le.mpr c2 q.2.1)).symm
        · refine And.intro (inI (by omega) (by decide)) ?_
          refine And.intro (fun c3 => ?_) (fun c3 => ?_)
          · rw [hr] at c3
            exact nx _ (if_neg (fun q => Int32.not_le.mpr q.2.2.1 c3)).symm
          · refine And.intro (inI (by omega) (by decide)) ?_
            refine And.intro (fun c4 => ?_) (fun c4 => ?_)
            · rw [hr] at c4
              exact nx _ (if_neg (fun q => Int32.not_le.mpr q.2.2.2 c4)).symm
            · refine And.intro (inI (by omega) (by decide)) ?_
              rw [hr] at c1 c2 c3 c4
              refine nx _ ?_
              rw [hr]
              exact (if_pos ⟨c1, Int32.not_lt.mp c2, Int32.not_le.mp c3, Int32.not_le.mp c4⟩).symm
      · rw [hr] at c1
        exact nx _ (if_neg (fun q => c1 q.1)).symm
  refine hst [4] 50 _ _ _ _ ?_
  exact loop n 0 (by omega)
def csX10_isLooked : Cs := [(141, 2, true, spX10_downUpTo)]
def spX10_isLooked : SP := G [(2, [42]), (0, [])] (spV (fun vs σ => match vs with
  | [_, .int a1] => vp_in (a1) 240 ∧ cn (gI σ 42 14) 20
  | _ => True) (fun vs σ => match vs with
  | [_, .int a1] => (some (.int (bI (dutF (gI σ 52) (gI σ 53) (gI σ 54) (gI σ 45 (rI (a1))) (gI σ 46 (rI (a1))) (rI (gI σ 42 14)) = -9))), σ)
  | _ => (none, σ)))
theorem mnX10_isLooked : Mono spX10_isLooked := Mono.spV
theorem bdX10_isLooked : Body 2 pgX10_isLooked roM csX10_isLooked lcX10 true spX10_isLooked := by
  intro vs σ K h Ok hst
  obtain ⟨hs, hp9, hk⟩ := h
  obtain ⟨vs, rfl, hs1⟩ := shpR1 hs
  obtain ⟨v, vs, rfl, hs2⟩ := shpI hs1
  cases shpN hs2
  obtain ⟨hp, hc⟩ := hp9
  refine hst [] 30 _ _ _ _ ?_
  refine And.intro hp (And.intro hp (c4 (Nat.le_of_ble_eq_true rfl) rfl hc (And.intro (fun q => ?_) (fun q => ?_))))
  · exact And.intro (Or.inr rfl) (K_int (bI_pos q) hk)
  · exact And.intro (Or.inl rfl) (K_int (bI_neg q) hk)
def csX10_isTank : Cs := []
def spX10_isTank : SP := G [(2, [42]), (0, [])] (spV (fun _ _ => True) (fun vs σ => match vs with
  | [_, .int a1] => (some (.int (bI (0 ≤ a1 ∧ a1 < gI σ 42 2))), σ)
  | _ => (none, σ)))
theorem mnX10_isTank : Mono spX10_isTank := Mono.spV
theorem bdX10_isTank : Body 2 pgX10_isTank roM csX10_isTank lcX10 true spX10_isTank := by
  intro vs σ K h Ok hst
  obtain ⟨hs, hp, hk⟩ := h
  obtain ⟨vs, rfl, hs1⟩ := shpR1 hs
  obtain ⟨v, vs, rfl, hs2⟩ := shpI hs1
  cases shpN hs2
  refine hst [] 30 _ _ _ _ ?_
  refine And.intro (fun c => ?_) (fun c => And.intro (fun c2 => ?_) (fun c2 => ?_))
  · exact And.intro (Or.inl rfl) (K_int (bI_neg (fun q => Int32.not_le.mpr c q.1)) hk)
  · exact And.intro (Or.inl rfl) (K_int (bI_neg (fun q => Int32.not_le.mpr q.2 c2)) hk)
  · exact And.intro (Or.inr rfl) (K_int (bI_pos ⟨Int32.not_lt.mp c, Int32.not_le.mp c2⟩) hk)
def csX10_isHit : Cs := []
def spX10_isHit : SP := G [(2, [42]), (0, [])] (spV (fun _ _ => True) (fun vs σ => match vs with
  | [_, .int a1] => (some (.int (bI (0 ≤ a1 ∧ a1 < gI σ 42 5))), σ)
  | _ => (none, σ)))
theorem mnX10_isHit : Mono spX10_isHit := Mono.spV
theorem bdX10_isHit : Body 2 pgX10_isHit roM csX10_isHit lcX10 true spX10_isHit := by
  intro vs σ K h Ok hst
  obtain ⟨hs, hp, hk⟩ := h
  obtain ⟨vs, rfl, hs1⟩ := shpR1 hs
  obtain ⟨v, vs, rfl, hs2⟩ := shpI hs1
  cases shpN hs2
  refine hst [] 30 _ _ _ _ ?_
  refine And.intro (fun c => ?_) (fun c => And.intro (fun c2 => ?_) (fun c2 => ?_))
  · exact And.intro (Or.inl rfl) (K_int (bI_neg (fun q => Int32.not_le.mpr c q.1)) hk)
  · exact And.intro (Or.inl rfl) (K_int (bI_neg (fun q => Int32.not_le.mpr q.2 c2)) hk)
  · exact And.intro (Or.inr rfl) (K_int (bI_pos ⟨Int32.not_lt.mp c, Int32.not_le.mp c2⟩) hk)
def csX10_isEvent : Cs := []
def spX10_isEvent : SP := G [(2, [42]), (0, [])] (spV (fun _ _ => True) (fun vs σ => match vs with
  | [_, .int a1] => (some (.int (bI (0 ≤ a1 ∧ a1 < gI σ 42 30))), σ)
  | _ => (none, σ)))
theorem mnX10_isEvent : Mono spX10_isEvent := Mono.spV
theorem bdX10_isEvent : Body 2 pgX10_isEvent roM csX10_isEvent lcX10 true spX10_isEvent := by
  intro vs σ K h Ok hst
  obtain ⟨hs, hp, hk⟩ := h
  obtain ⟨vs, rfl, hs1⟩ := shpR1 hs
  obtain ⟨v, vs, rfl, hs2⟩ := shpI hs1
  cases shpN hs2
  refine hst [] 30 _ _ _ _ ?_
  refine And.intro (fun c => ?_) (fun c => And.intro (fun c2 => ?_) (fun c2 => ?_))
  · exact And.intro (Or.inl rfl) (K_int (bI_neg (fun q => Int32.not_le.mpr c q.1)) hk)
  · exact And.intro (Or.inl rfl) (K_int (bI_neg (fun q => Int32.not_le.mpr q.2 c2)) hk)
  · exact And.intro (Or.inr rfl) (K_int (bI_pos ⟨Int32.not_lt.mp c, Int32.not_le.mp c2⟩) hk)
