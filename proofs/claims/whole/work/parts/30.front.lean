def csX10_makeFront : Cs := [(204, 9, false, spX10_determinant), (198, 1, true, spX10_leastTime)]
def xM (σ : Mem) (p : Nat) : Int64 := (gI σ 43 (rI (gI σ 45 (rI (gI σ 66 p))))).toInt64
def yM (σ : Mem) (p : Nat) : Int64 := (gI σ 44 (rI (gI σ 45 (rI (gI σ 66 p))))).toInt64
def tmM (σ : Mem) (l : Int32) (p : Nat) : Int64 := (gI σ 67 p - l).toInt64
def okG (σ : Mem) (e : Int32) : Prop := okB σ 65 e ∧ ∀ i, i < nB σ 65 e → vp_in (gI σ 66 (sB σ 65 e + i)) 240 ∧ vp_in (gI σ 45 (rI (gI σ 66 (sB σ 65 e + i)))) 30
def lsM (σ : Mem) (e : Int32) : Int32 := leastF (gI σ 67) (sB σ 65 e) (nB σ 65 e)
def ftD (σ : Mem) (n x y xx xy yy t tx ty : Int64) : Mem := sL (sL (sL (sL σ 71 0 (det n x y x xx xy y xy yy)) 71 1 (det t x y tx xx xy ty xy yy)) 71 2 (det n t y x tx xy y ty yy)) 71 3 (det n x t x xx tx y xy ty)
def ftI (σ : Mem) (l : Int32) (s i : Nat) : Mem := ftD σ (smF (fun _ => 1) s i) (smF (xM σ) s i) (smF (yM σ) s i) (smF (fun p => xM σ p * xM σ p) s i) (smF (fun p => xM σ p * yM σ p) s i) (smF (fun p => yM σ p * yM σ p) s i) (smF (tmM σ l) s i) (smF (fun p => tmM σ l p * xM σ p) s i) (smF (fun p => tmM σ l p * yM σ p) s i)
def spX10_makeFront : SP := G [(2, [42]), (0, [])] (spV (fun vs σ => match vs with
  | [_, .int a1] => okG σ (a1)
  | _ => True) (fun vs σ => match vs with
  | [_, .int a1] => (none, ftI σ (lsM σ (a1)) (sB σ 65 (a1)) (nB σ 65 (a1)))
  | _ => (none, σ)))
theorem mnX10_makeFront : Mono spX10_makeFront := Mono.spV
set_option maxRecDepth 100000 in
set_option maxHeartbeats 8000000 in
theorem bdX10_makeFront : Body 28 pgX10_makeFront roM csX10_makeFront lcX10 false spX10_makeFront := by
  intro vs σ K h Ok hst
  obtain ⟨hs, hp9, hk⟩ := h
  obtain ⟨vs, rfl, hs1⟩ := shpR1 hs
  obtain ⟨e, vs, rfl, hs2⟩ := shpI hs1
  cases shpN hs2
  obtain ⟨ok, hv⟩ := hp9
  have hk : K none (ftI σ (lsM σ e) (sB σ 65 e) (nB σ 65 e)) := hk
  have ok' := ok
  obtain ⟨o1, o1', o2, o3, o4, o5, o6⟩ := ok
  have loop : ∀ (l : Int32) (s n : Nat), gI σ 65 (rI (e + 1)) = nI (s + n) → s + n ≤ 240 → (∀ i, i < n → vp_in (gI σ 66 (s + i)) 240 ∧ vp_in (gI σ 45 (rI (gI σ 66 (s + i)))) 30) → K none (ftI σ l s n) → ∀ d i, i + d = n → ∀ x22 x23 x24 x25 x26 x27, Ok 27 [some (.ref 42), some (.int e), some (.long (smF (fun _ => 1) s i)), none, some (.long (smF (xM σ) s i)), none, some (.long (smF (yM σ) s i)), none, some (.long (smF (fun p => xM σ p * xM σ p) s i)), none, some (.long (smF (fun p => xM σ p * yM σ p) s i)), none, some (.long (smF (fun p => yM σ p * yM σ p) s i)), none, some (.long (smF (tmM σ l) s i)), none, some (.long (smF (fun p => tmM σ l p * xM σ p) s i)), none, some (.long (smF (fun p => tmM σ l p * yM σ p) s i)), none, some (.int l), some (.int (nI (s + i))), x22, x23, x24, x25, x26, x27] [] σ := by
    intro l s n o4 o5 hv hk d
    induction d with
    | zero =>
      intro i hi x22 x23 x24 x25 x26 x27
      have : i = n := by omega
      subst this
      have lt : gI σ 65 (rI (e + 1)) ≤ nI (s + i) := by rw [o4]; exact nI_le (by omega) (by omega)
      have v0 : vp_in (nI 0) 4 := inI (by decide) (by decide)
      have v1 : vp_in (nI 1) 4 := inI (by decide) (by decide)
      have v2 : vp_in (nI 2) 4 := inI (by decide) (by decide)
      have v3 : vp_in (nI 3) 4 := inI (by decide) (by decide)
      refine hst [27] 120 _ _ _ _ ?_
      refine And.intro o2 (br_t lt ?_)
      refine c5 (Nat.le_of_ble_eq_true rfl) (Nat.le_of_ble_eq_true rfl) rfl trivial (And.intro v0 ?_)
      refine c5 (Nat.le_of_ble_eq_true rfl) (Nat.le_of_ble_eq_true rfl) rfl trivial (And.intro v1 ?_)
      refine c5 (Nat.le_of_ble_eq_true rfl) (Nat.le_of_ble_eq_true rfl) rfl trivial (And.intro v2 ?_)
      refine c5 (Nat.le_of_ble_eq_true rfl) (Nat.le_of_ble_eq_true rfl) rfl trivial (And.intro v3 ?_)
      exact hk
    | succ d ih =>
      intro i hi x22 x23 x24 x25 x26 x27
      have hr : rI (nI (s + i)) = s + i := rI_nI (by omega)
      have nlt : ¬ gI σ 65 (rI (e + 1)) ≤ nI (s + i) := by rw [o4]; exact nI_ge (by omega) (by omega)
      have hin : vp_in (nI (s + i)) 240 := inI (by omega) (by decide)
      have hin2 : vp_in (gI σ 66 (rI (nI (s + i)))) 240 := by rw [hr]; exact (hv i (by omega)).1
      have hin3 : vp_in (gI σ 45 (rI (gI σ 66 (rI (nI (s + i)))))) 30 := by rw [hr]; exact (hv i (by omega)).2
      have ih := ih (i + 1) (by omega) (some (.long (xM σ (s + i)))) none (some (.long (yM σ (s + i)))) none (some (.long (tmM σ l (s + i)))) none
      rw [← Nat.add_assoc, ← nI_1] at ih
      have nx : Ok 27 [some (.ref 42), some (.int e), some (.long (smF (fun _ => 1) s i + 1)), none, some (.long (smF (xM σ) s i + xM σ (rI (nI (s + i))))), none, some (.long (smF (yM σ) s i + yM σ (rI (nI (s + i))))), none, some (.long (smF (fun p => xM σ p * xM σ p) s i + xM σ (rI (nI (s + i))) * xM σ (rI (nI (s + i))))), none, some (.long (smF (fun p => xM σ p * yM σ p) s i + xM σ (rI (nI (s + i))) * yM σ (rI (nI (s + i))))), none, some (.long (smF (fun p => yM σ p * yM σ p) s i + yM σ (rI (nI (s + i))) * yM σ (rI (nI (s + i))))), none, some (.long (smF (tmM σ l) s i + tmM σ l (rI (nI (s + i))))), none, some (.long (smF (fun p => tmM σ l p * xM σ p) s i + tmM σ l (rI (nI (s + i))) * xM σ (rI (nI (s + i))))), none, some (.long (smF (fun p => tmM σ l p * yM σ p) s i + tmM σ l (rI (nI (s + i))) * yM σ (rI (nI (s + i))))), none, some (.int l), some (.int (nI (s + i) + 1)), some (.long (xM σ (rI (nI (s + i))))), none, some (.long (yM σ (rI (nI (s + i))))), none, some (.long (tmM σ l (rI (nI (s + i))))), none] [] σ := by
        rw [hr]
        exact ih
      refine hst [27] 120 _ _ _ _ ?_
      exact And.intro o2 (br_f nlt (And.intro hin (And.intro hin2 (And.intro hin3 (And.intro hin (And.intro hin2 (And.intro hin3 (And.intro hin nx))))))))
  have l0 := loop (lsM σ e) _ _ o4 o5 hv hk _ 0 (Nat.zero_add _) none none none none none none
  rw [Nat.add_zero, ← o3] at l0
  refine hst [27] 120 _ _ _ _ ?_
  exact c4 (Nat.le_of_ble_eq_true rfl) rfl ok' (And.intro o1' l0)
