def csX9_fitFront : Cs := [(212, 1, true, spX0_leastTimeOf), (284, 1, true, spX3_clear), (289, 3, true, spX3_add), (292, 0, true, spX3_solve)]
def xT (σ : Mem) (p : Nat) : Int64 := (gI σ 2 (rI (gI σ 5 (rI (gI σ (gP σ + 3) p))))).toInt64
def yT (σ : Mem) (p : Nat) : Int64 := (gI σ 3 (rI (gI σ 5 (rI (gI σ (gP σ + 3) p))))).toInt64
def tmT (σ : Mem) (l : Int32) (p : Nat) : Int64 := (gI σ (gP σ + 4) p - l).toInt64
def frI (σ : Mem) (l : Int32) (s i : Nat) : Mem := frM σ l (smF (fun _ => 1) s i) (smF (xT σ) s i) (smF (yT σ) s i) (smF (fun p => xT σ p * xT σ p) s i) (smF (fun p => xT σ p * yT σ p) s i) (smF (fun p => yT σ p * yT σ p) s i) (smF (tmT σ l) s i) (smF (fun p => tmT σ l p * xT σ p) s i) (smF (fun p => tmT σ l p * yT σ p) s i)
theorem frI_succ (σ : Mem) (l : Int32) (s i : Nat) : addF (frI σ l s i) (xT σ (s + i)) (yT σ (s + i)) (tmT σ l (s + i)) = frI σ l s (i + 1) := fr_add ..
def okF (σ : Mem) (e : Int32) : Prop := (gP σ = 30 ∨ gP σ = 36) ∧ okB σ (gP σ + 1) e ∧ ∀ i, i < nB σ (gP σ + 1) e → vp_in (gI σ (gP σ + 3) (sB σ (gP σ + 1) e + i)) 240 ∧ vp_in (gI σ 5 (rI (gI σ (gP σ + 3) (sB σ (gP σ + 1) e + i)))) 30
def lsT (σ : Mem) (e : Int32) : Int32 := leastF (gI σ (gP σ + 4)) (sB σ (gP σ + 1) e) (nB σ (gP σ + 1) e)
def ftT (σ : Mem) (e : Int32) : Mem := slvF (frI σ (lsT σ e) (sB σ (gP σ + 1) e) (nB σ (gP σ + 1) e))
def spX9_fitFront : SP := G [(2, [0]), (0, [])] (spV (fun vs σ => match vs with
  | [_, .int a1] => okF σ (a1)
  | _ => True) (fun vs σ => match vs with
  | [_, .int a1] => (none, ftT σ (a1))
  | _ => (none, σ)))
theorem mnX9_fitFront : Mono spX9_fitFront := Mono.spV
set_option maxRecDepth 20000 in
set_option maxHeartbeats 4000000 in
theorem bdX9_fitFront : Body 4 pgX9_fitFront roM csX9_fitFront lcX9 false spX9_fitFront := by
  intro vs σ K h Ok hst
  obtain ⟨hs, hp9, hk⟩ := h
  obtain ⟨vs, rfl, hs1⟩ := shpR1 hs
  obtain ⟨e, vs, rfl, hs2⟩ := shpI hs1
  cases shpN hs2
  obtain ⟨hb, ok, hv⟩ := hp9
  have hk : K none (slvF (frI σ (lsT σ e) (sB σ (gP σ + 1) e) (nB σ (gP σ + 1) e))) := hk
  have ok' := ok
  obtain ⟨o1, o1', o2, o3, o4, o5, o6⟩ := ok
  have loop : ∀ (l : Int32) (s n : Nat), gI σ (gP σ + 1) (rI (e + 1)) = nI (s + n) → s + n ≤ 240 → (∀ i, i < n → vp_in (gI σ (gP σ + 3) (s + i)) 240 ∧ vp_in (gI σ 5 (rI (gI σ (gP σ + 3) (s + i)))) 30) → K none (slvF (frI σ l s n)) → ∀ d i, i + d = n → ∀ x3, Ok 13 [some (.ref 0), some (.int e), some (.int (nI (s + i))), x3] [] (frI σ l s i) := by
    intro l s n o4 o5 hv hk d
    induction d with
    | zero =>
      intro i hi x3
      have : i = n := by omega
      subst this
      have lt : gI σ (gP σ + 1) (rI (e + 1)) ≤ nI (s + i) := by rw [o4]; exact nI_le (by omega) (by omega)
      refine hst [13] 60 _ _ _ _ ?_
      obtain ⟨s1, s2, s3, s4⟩ := σ
      rcases hb with hb | hb
      · have hb : s3 = 30 := hb
        subst hb
        exact And.intro o2 (br_t lt (c4 (Nat.le_of_ble_eq_true rfl) rfl trivial hk))
      · have hb : s3 = 36 := hb
        subst hb
        exact And.intro o2 (br_t lt (c4 (Nat.le_of_ble_eq_true rfl) rfl trivial hk))
    | succ d ih =>
      intro i hi x3
      have hr : rI (nI (s + i)) = s + i := rI_nI (by omega)
      have ih := ih (i + 1) (by omega)
      rw [← Nat.add_assoc, ← nI_1] at ih
      have nlt : ¬ gI σ (gP σ + 1) (rI (e + 1)) ≤ nI (s + i) := by rw [o4]; exact nI_ge (by omega) (by omega)
      have hin : vp_in (nI (s + i)) 240 := inI (by omega) (by decide)
      have hin2 : vp_in (gI σ (gP σ + 3) (rI (nI (s + i)))) 240 := by rw [hr]; exact (hv i (by omega)).1
      have hin3 : vp_in (gI σ 5 (rI (gI σ (gP σ + 3) (rI (nI (s + i)))))) 30 := by rw [hr]; exact (hv i (by omega)).2
      have nx : Ok 13 [some (.ref 0), some (.int e), some (.int (nI (s + i) + 1)), some (.int (gI σ 5 (rI (gI σ (gP σ + 3) (rI (nI (s + i)))))))] [] (addF (frI σ l s i) (xT σ (rI (nI (s + i)))) (yT σ (rI (nI (s + i)))) (tmT σ l (rI (nI (s + i))))) := by
        rw [hr, frI_succ]
        exact ih _
      refine hst [13] 60 _ _ _ _ ?_
      obtain ⟨s1, s2, s3, s4⟩ := σ
      rcases hb with hb | hb
      · have hb : s3 = 30 := hb
        subst hb
        exact And.intro o2 (br_f nlt (And.intro hin (And.intro hin2 (And.intro hin3 (And.intro hin3 (And.intro hin (c4 (Nat.le_of_ble_eq_true rfl) rfl trivial nx)))))))
      · have hb : s3 = 36 := hb
        subst hb
        exact And.intro o2 (br_f nlt (And.intro hin (And.intro hin2 (And.intro hin3 (And.intro hin3 (And.intro hin (c4 (Nat.le_of_ble_eq_true rfl) rfl trivial nx)))))))
  have l0 := loop (lsT σ e) _ _ o4 o5 hv hk _ 0 (Nat.zero_add _) none
  have l1 : Ok 13 [some (.ref 0), some (.int e), some (.int (gI σ (gP σ + 1) (rI e))), none] [] (frM σ (lsT σ e) 0 0 0 0 0 0 0 0 0) := by
    rw [o3]
    exact l0
  refine hst [13] 60 _ _ _ _ ?_
  obtain ⟨s1, s2, s3, s4⟩ := σ
  rcases hb with hb | hb
  · have hb : s3 = 30 := hb
    subst hb
    exact c4 (Nat.le_of_ble_eq_true rfl) rfl ok' (c3 (Nat.le_of_ble_eq_true rfl) rfl (And.intro o1' l1))
  · have hb : s3 = 36 := hb
    subst hb
    exact c4 (Nat.le_of_ble_eq_true rfl) rfl ok' (c3 (Nat.le_of_ble_eq_true rfl) rfl (And.intro o1' l1))
