def coreF (am tx : Nat → Int32) (s n : Nat) : Int64 := foldN (fun i a => a + (am (s + i)).toInt64 * (tx (s + i)).toInt64) 0 n
theorem coreF_congr {a a' t t' : Nat → Int32} {s n : Nat} (h : ∀ i, i < n → a (s + i) = a' (s + i) ∧ t (s + i) = t' (s + i)) : coreF a t s n = coreF a' t' s n :=
  foldN_congr rfl (fun i hi x => by rw [(h i hi).1, (h i hi).2])
def csX10_core : Cs := [(110, 3, false, spX10_within), (157, 1, true, spX10_amountOf), (195, 1, true, spX10_isEvent)]
def txM (σ : Mem) (w : Int32) (p : Nat) : Int32 := if w = 0 then gI σ 43 (rI (gI σ 45 (rI (gI σ 66 p)))) else if w = 1 then gI σ 44 (rI (gI σ 45 (rI (gI σ 66 p)))) else 1
def spX10_core : SP := G [(2, [42]), (0, []), (0, [])] (spV (fun vs σ => match vs with
  | [_, .int a1, .int a2] => 0 ≤ a1 ∧ a1 < gI σ 42 30 → okB σ 65 (a1) ∧ ∀ i, i < nB σ 65 (a1) → vp_in (gI σ 66 (sB σ 65 (a1) + i)) 240 ∧ vp_in (gI σ 45 (rI (gI σ 66 (sB σ 65 (a1) + i)))) 30
  | _ => True) (fun vs σ => match vs with
  | [_, .int a1, .int a2] => (some (.long (if (0 ≤ a1 ∧ a1 < gI σ 42 30) ∧ 0 ≤ a2 ∧ a2 ≤ 2 then coreF (fun p => amM (gI σ 47 (rI (gI σ 66 p))) (gI σ 48 (rI (gI σ 66 p)))) (txM σ (a2)) (sB σ 65 (a1)) (nB σ 65 (a1)) else -9223372036854775808)), σ)
  | _ => (none, σ)))
theorem mnX10_core : Mono spX10_core := Mono.spV
set_option maxHeartbeats 4000000 in
theorem bdX10_core : Body 7 pgX10_core roM csX10_core lcX10 false spX10_core := by
  intro vs σ K h Ok hst
  obtain ⟨hs, hp, hk⟩ := h
  obtain ⟨vs, rfl, hs1⟩ := shpR1 hs
  obtain ⟨e, vs, rfl, hs2⟩ := shpI hs1
  obtain ⟨w, vs, rfl, hs3⟩ := shpI hs2
  cases shpN hs3
  have hk : K (some (.long (if (0 ≤ e ∧ e < gI σ 42 30) ∧ 0 ≤ w ∧ w ≤ 2 then coreF (fun p => amM (gI σ 47 (rI (gI σ 66 p))) (gI σ 48 (rI (gI σ 66 p)))) (txM σ w) (sB σ 65 e) (nB σ 65 e) else -9223372036854775808))) σ := hk
  have hp : 0 ≤ e ∧ e < gI σ 42 30 → okB σ 65 e ∧ ∀ i, i < nB σ 65 e → vp_in (gI σ 66 (sB σ 65 e + i)) 240 ∧ vp_in (gI σ 45 (rI (gI σ 66 (sB σ 65 e + i)))) 30 := hp
  refine hst [18] 80 _ _ _ _ ?_
  refine c4 (Nat.le_of_ble_eq_true rfl) rfl trivial (brb (fun q1 => ?_) (fun q1 => ?_))
  · refine c5 (Nat.le_of_ble_eq_true rfl) (Nat.le_of_ble_eq_true rfl) rfl trivial (brb (fun q2 => ?_) (fun q2 => ?_))
    · rw [if_pos ⟨q1, q2⟩] at hk
      obtain ⟨⟨o1, o1', o2, o3, o4, o5, o6⟩, hv⟩ := hp q1
      generalize sB σ 65 e = s at o3 o4 o5 hk hv
      generalize nB σ 65 e = n at o4 o5 o6 hk hv
      have loop : ∀ d i, i + d = n → ∀ x, Ok 18 [some (.ref 42), some (.int e), some (.int w), some (.long (coreF (fun p => amM (gI σ 47 (rI (gI σ 66 p))) (gI σ 48 (rI (gI σ 66 p)))) (txM σ w) s i)), none, some (.int (nI (s + i))), x] [] σ := by
        intro d
        induction d with
        | zero =>
          intro i hi x
          refine hst [18] 60 _ _ _ _ ?_
          refine And.intro o2 (br_t (by rw [o4]; exact nI_le (by omega) (by omega)) ?_)
          have : i = n := by omega
          subst this
          exact hk
        | succ d ih =>
          intro i hi x
          have hr : rI (nI (s + i)) = s + i := rI_nI (by omega)
          have ih := ih (i + 1) (by omega) (some (.int (gI σ 66 (rI (nI (s + i))))))
          rw [← Nat.add_assoc, ← nI_1] at ih
          have nlt : ¬ gI σ 65 (rI (e + 1)) ≤ nI (s + i) := by rw [o4]; exact nI_ge (by omega) (by omega)
          have hin : vp_in (nI (s + i)) 240 := inI (by omega) (by decide)
          have hin2 : vp_in (gI σ 66 (rI (nI (s + i)))) 240 := by rw [hr]; exact (hv i (by omega)).1
          have hin3 : vp_in (gI σ 45 (rI (gI σ 66 (rI (nI (s + i)))))) 30 := by rw [hr]; exact (hv i (by omega)).2
          have nx : ∀ t : Int32, t = txM σ w (s + i) → Ok 18 [some (.ref 42), some (.int e), some (.int w), some (.long (coreF (fun p => amM (gI σ 47 (rI (gI σ 66 p))) (gI σ 48 (rI (gI σ 66 p)))) (txM σ w) s i + (amM (gI σ 47 (rI (gI σ 66 (rI (nI (s + i)))))) (gI σ 48 (rI (gI σ 66 (rI (nI (s + i))))))).toInt64 * t.toInt64)), none, some (.int (nI (s + i) + 1)), some (.int (gI σ 66 (rI (nI (s + i)))))] [] σ := by
            intro t ht
            rw [ht]
            have e9 : coreF (fun p => amM (gI σ 47 (rI (gI σ 66 p))) (gI σ 48 (rI (gI σ 66 p)))) (txM σ w) s i + (amM (gI σ 47 (rI (gI σ 66 (rI (nI (s + i)))))) (gI σ 48 (rI (gI σ 66 (rI (nI (s + i))))))).toInt64 * (txM σ w (s + i)).toInt64 = coreF (fun p => amM (gI σ 47 (rI (gI σ 66 p))) (gI σ 48 (rI (gI σ 66 p)))) (txM σ w) s (i + 1) := by
              rw [hr]; rfl
            rw [e9]
            exact ih
          refine hst [18] 60 _ _ _ _ ?_
          refine And.intro o2 (br_f nlt (And.intro hin (c4 (Nat.le_of_ble_eq_true rfl) rfl hin2 (And.intro (fun w0 => ?_) (fun w0 => And.intro (fun w1 => ?_) (fun w1 => ?_))))))
          · exact And.intro hin2 (And.intro hin3 (nx _ (by rw [hr, txM, if_pos w0])))
          · exact And.intro hin2 (And.intro hin3 (nx _ (by rw [hr, txM, if_neg w0, if_pos w1])))
          · exact nx _ (by rw [txM, if_neg w0, if_neg w1])
      have l1 : Ok 18 [some (.ref 42), some (.int e), some (.int w), some (.long 0), none, some (.int (gI σ 65 (rI e))), none] [] σ := by
        rw [o3]
        exact loop n 0 (by omega) none
      exact And.intro o1' l1
    · rw [if_neg (fun z => q2 z.2)] at hk
      exact hk
  · rw [if_neg (fun z => q1 z.1)] at hk
    exact hk
