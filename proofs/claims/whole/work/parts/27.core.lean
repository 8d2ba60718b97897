def csX9_core : Cs := [(74, 3, false, spX9_isWithin), (156, 1, true, spX5_amountOf), (208, 1, true, spX0_has)]
def txT (σ : Mem) (w : Int32) (p : Nat) : Int32 := if w = 0 then gI σ 2 (rI (gI σ 5 (rI (gI σ (gP σ + 3) p)))) else if w = 1 then gI σ 3 (rI (gI σ 5 (rI (gI σ (gP σ + 3) p)))) else 1
def amTp (σ : Mem) (p : Nat) : Int32 := amT (gI σ 7 (rI (gI σ (gP σ + 3) p))) (gI σ 8 (rI (gI σ (gP σ + 3) p)))
def spX9_core : SP := G [(2, [0]), (0, []), (0, [])] (spV (fun vs σ => match vs with
  | [_, .int a1, .int a2] => (gP σ = 30 ∨ gP σ = 36) ∧ (0 ≤ a1 ∧ a1 ≤ gI σ (gP σ) 0 - 1 → okB σ (gP σ + 1) (a1) ∧ ∀ i, i < nB σ (gP σ + 1) (a1) → vp_in (gI σ (gP σ + 3) (sB σ (gP σ + 1) (a1) + i)) 240 ∧ vp_in (gI σ 5 (rI (gI σ (gP σ + 3) (sB σ (gP σ + 1) (a1) + i)))) 30)
  | _ => True) (fun vs σ => match vs with
  | [_, .int a1, .int a2] => (some (.long (if (0 ≤ a1 ∧ a1 ≤ gI σ (gP σ) 0 - 1) ∧ 0 ≤ a2 ∧ a2 ≤ 2 then coreF (amTp σ) (txT σ (a2)) (sB σ (gP σ + 1) (a1)) (nB σ (gP σ + 1) (a1)) else -9223372036854775808)), σ)
  | _ => (none, σ)))
theorem mnX9_core : Mono spX9_core := Mono.spV
set_option maxHeartbeats 4000000 in
theorem bdX9_core : Body 10 pgX9_core roM csX9_core lcX9 false spX9_core := by
  intro vs σ K h Ok hst
  obtain ⟨hs, hp9, hk⟩ := h
  obtain ⟨vs, rfl, hs1⟩ := shpR1 hs
  obtain ⟨e, vs, rfl, hs2⟩ := shpI hs1
  obtain ⟨w, vs, rfl, hs3⟩ := shpI hs2
  cases shpN hs3
  obtain ⟨hb, hp⟩ := hp9
  have hk : K (some (.long (if (0 ≤ e ∧ e ≤ gI σ (gP σ) 0 - 1) ∧ 0 ≤ w ∧ w ≤ 2 then coreF (amTp σ) (txT σ w) (sB σ (gP σ + 1) e) (nB σ (gP σ + 1) e) else -9223372036854775808))) σ := hk
  have hp : 0 ≤ e ∧ e ≤ gI σ (gP σ) 0 - 1 → okB σ (gP σ + 1) e ∧ ∀ i, i < nB σ (gP σ + 1) e → vp_in (gI σ (gP σ + 3) (sB σ (gP σ + 1) e + i)) 240 ∧ vp_in (gI σ 5 (rI (gI σ (gP σ + 3) (sB σ (gP σ + 1) e + i)))) 30 := hp
  have loop : ∀ (s n : Nat), gI σ (gP σ + 1) (rI (e + 1)) = nI (s + n) → s + n ≤ 240 → vp_in (e + 1) 241 → (∀ i, i < n → vp_in (gI σ (gP σ + 3) (s + i)) 240 ∧ vp_in (gI σ 5 (rI (gI σ (gP σ + 3) (s + i)))) 30) → K (some (.long (coreF (amTp σ) (txT σ w) s n))) σ → ∀ d i, i + d = n → ∀ x6 x7 x8 x9, Ok 20 [some (.ref 0), some (.int e), some (.int w), some (.long (coreF (amTp σ) (txT σ w) s i)), none, some (.int (nI (s + i))), x6, x7, x8, x9] [] σ := by
    intro s n o4 o5 o2 hv hk d
    induction d with
    | zero =>
      intro i hi x6 x7 x8 x9
      have : i = n := by omega
      subst this
      have lt : gI σ (gP σ + 1) (rI (e + 1)) ≤ nI (s + i) := by rw [o4]; exact nI_le (by omega) (by omega)
      refine hst [20] 60 _ _ _ _ ?_
      obtain ⟨s1, s2, s3, s4⟩ := σ
      rcases hb with hb | hb
      · have hb : s3 = 30 := hb
        subst hb
        exact And.intro o2 (br_t lt hk)
      · have hb : s3 = 36 := hb
        subst hb
        exact And.intro o2 (br_t lt hk)
    | succ d ih =>
      intro i hi x6 x7 x8 x9
      have hr : rI (nI (s + i)) = s + i := rI_nI (by omega)
      have ih := ih (i + 1) (by omega)
      rw [← Nat.add_assoc, ← nI_1] at ih
      have nlt : ¬ gI σ (gP σ + 1) (rI (e + 1)) ≤ nI (s + i) := by rw [o4]; exact nI_ge (by omega) (by omega)
      have hin : vp_in (nI (s + i)) 240 := inI (by omega) (by decide)
      have hin2 : vp_in (gI σ (gP σ + 3) (rI (nI (s + i)))) 240 := by rw [hr]; exact (hv i (by omega)).1
      have hin3 : vp_in (gI σ 5 (rI (gI σ (gP σ + 3) (rI (nI (s + i)))))) 30 := by rw [hr]; exact (hv i (by omega)).2
      have nx : ∀ t : Int64, t = (txT σ w (s + i)).toInt64 → Ok 20 [some (.ref 0), some (.int e), some (.int w), some (.long (coreF (amTp σ) (txT σ w) s i + (amT (gI σ 7 (rI (gI σ (gP σ + 3) (rI (nI (s + i)))))) (gI σ 8 (rI (gI σ (gP σ + 3) (rI (nI (s + i))))))).toInt64 * t)), none, some (.int (nI (s + i) + 1)), some (.int (gI σ (gP σ + 3) (rI (nI (s + i))))), some (.int (gI σ 5 (rI (gI σ (gP σ + 3) (rI (nI (s + i))))))), some (.long t), none] [] σ := by
        intro t ht
        have e9 : coreF (amTp σ) (txT σ w) s i + (amT (gI σ 7 (rI (gI σ (gP σ + 3) (rI (nI (s + i)))))) (gI σ 8 (rI (gI σ (gP σ + 3) (rI (nI (s + i))))))).toInt64 * t = coreF (amTp σ) (txT σ w) s (i + 1) := by
          rw [hr, ht]; rfl
        rw [e9]
        exact ih _ _ _ _
      have n0 : w = 0 → (gI σ 2 (rI (gI σ 5 (rI (gI σ (gP σ + 3) (rI (nI (s + i)))))))).toInt64 = (txT σ w (s + i)).toInt64 := fun z => by rw [hr, txT, if_pos z]
      have n1 : ¬ w = 0 → w = 1 → (gI σ 3 (rI (gI σ 5 (rI (gI σ (gP σ + 3) (rI (nI (s + i)))))))).toInt64 = (txT σ w (s + i)).toInt64 := fun y z => by rw [hr, txT, if_neg y, if_pos z]
      have n2 : ¬ w = 0 → ¬ w = 1 → (Int64.ofNat 1) = (txT σ w (s + i)).toInt64 := fun y z => by rw [txT, if_neg y, if_neg z]; decide
      refine hst [20] 60 _ _ _ _ ?_
      obtain ⟨s1, s2, s3, s4⟩ := σ
      rcases hb with hb | hb
      · have hb : s3 = 30 := hb
        subst hb
        refine And.intro o2 (br_f nlt (And.intro hin (And.intro hin2 (And.intro (fun w0 => ?_) (fun w0 => And.intro (fun w1 => ?_) (fun w1 => ?_))))))
        · exact And.intro hin3 (c4 (Nat.le_of_ble_eq_true rfl) rfl hin2 (nx _ (n0 w0)))
        · exact And.intro hin3 (c4 (Nat.le_of_ble_eq_true rfl) rfl hin2 (nx _ (n1 w0 w1)))
        · exact c4 (Nat.le_of_ble_eq_true rfl) rfl hin2 (nx _ (n2 w0 w1))
      · have hb : s3 = 36 := hb
        subst hb
        refine And.intro o2 (br_f nlt (And.intro hin (And.intro hin2 (And.intro (fun w0 => ?_) (fun w0 => And.intro (fun w1 => ?_) (fun w1 => ?_))))))
        · exact And.intro hin3 (c4 (Nat.le_of_ble_eq_true rfl) rfl hin2 (nx _ (n0 w0)))
        · exact And.intro hin3 (c4 (Nat.le_of_ble_eq_true rfl) rfl hin2 (nx _ (n1 w0 w1)))
        · exact c4 (Nat.le_of_ble_eq_true rfl) rfl hin2 (nx _ (n2 w0 w1))
  refine hst [20] 80 _ _ _ _ ?_
  by_cases q1 : 0 ≤ e ∧ e ≤ gI σ (gP σ) 0 - 1
  · by_cases q2 : 0 ≤ w ∧ w ≤ 2
    · rw [if_pos ⟨q1, q2⟩] at hk
      obtain ⟨⟨o1, o1', o2, o3, o4, o5, o6⟩, hv⟩ := hp q1
      have l0 := loop _ _ o4 o5 o2 hv hk _ 0 (Nat.zero_add _) none none none none
      have l1 : Ok 20 [some (.ref 0), some (.int e), some (.int w), some (.long 0), none, some (.int (gI σ (gP σ + 1) (rI e))), none, none, none, none] [] σ := by
        rw [o3]
        exact l0
      obtain ⟨s1, s2, s3, s4⟩ := σ
      rcases hb with hb | hb
      · have hb : s3 = 30 := hb
        subst hb
        exact c4 (Nat.le_of_ble_eq_true rfl) rfl trivial (brbT q1 (c5 (Nat.le_of_ble_eq_true rfl) (Nat.le_of_ble_eq_true rfl) rfl trivial (brbT q2 (And.intro o1' l1))))
      · have hb : s3 = 36 := hb
        subst hb
        exact c4 (Nat.le_of_ble_eq_true rfl) rfl trivial (brbT q1 (c5 (Nat.le_of_ble_eq_true rfl) (Nat.le_of_ble_eq_true rfl) rfl trivial (brbT q2 (And.intro o1' l1))))
    · rw [if_neg (fun z => q2 z.2)] at hk
      obtain ⟨s1, s2, s3, s4⟩ := σ
      rcases hb with hb | hb
      · have hb : s3 = 30 := hb
        subst hb
        exact c4 (Nat.le_of_ble_eq_true rfl) rfl trivial (brbT q1 (c5 (Nat.le_of_ble_eq_true rfl) (Nat.le_of_ble_eq_true rfl) rfl trivial (brbF q2 hk)))
      · have hb : s3 = 36 := hb
        subst hb
        exact c4 (Nat.le_of_ble_eq_true rfl) rfl trivial (brbT q1 (c5 (Nat.le_of_ble_eq_true rfl) (Nat.le_of_ble_eq_true rfl) rfl trivial (brbF q2 hk)))
  · rw [if_neg (fun z => q1 z.1)] at hk
    obtain ⟨s1, s2, s3, s4⟩ := σ
    rcases hb with hb | hb
    · have hb : s3 = 30 := hb
      subst hb
      exact c4 (Nat.le_of_ble_eq_true rfl) rfl trivial (brbF q1 hk)
    · have hb : s3 = 36 := hb
      subst hb
      exact c4 (Nat.le_of_ble_eq_true rfl) rfl trivial (brbF q1 hk)
/-- the members of event e, by both sides -/
theorem memAt {σ : Mem} {nT nH b nE : Nat} {st mh : Nat → Nat} (hT : IT σ nT) (hH : IH σ nT nH) (hc : EvC σ b nE st mh nH) (hm : EvM σ b nE st mh) {k : Nat} (hk : k < nE) : ∀ i, i < st (k + 1) - st k → ∃ h t, h < nH ∧ t < nT ∧ gI σ (b + 3) (st k + i) = nI h ∧ gI σ 66 (st k + i) = nI h ∧ gI σ 5 h = nI t ∧ gI σ 45 h = nI t ∧ rI (gI σ (b + 3) (st k + i)) = h ∧ rI (gI σ 66 (st k + i)) = h ∧ rI (gI σ 5 h) = t ∧ rI (gI σ 45 h) = t ∧ gI σ 67 (st k + i) = gI σ (b + 4) (st k + i) := by
  intro i hi
  have hn := hH.1
  have ht30 := hT.1
  have hle := hc.le_st (show k + 1 ≤ nE by omega)
  have h1 := hm.2.2.2.1 (st k + i) (by omega)
  have h2 := hc.2.2.2.2.2.2.1 (st k + i) (by omega)
  obtain ⟨⟨a1, -⟩, ⟨⟨t, t1, t2⟩, -⟩⟩ := hH.2.2.2 _ h2.2.1
  have a1 := a1.trans t2
  exact ⟨mh (st k + i), t, h2.2.1, t1, h2.1, h1.1, t2, a1, by rw [h2.1]; exact rI_nI (by omega), by rw [h1.1]; exact rI_nI (by omega), by rw [t2]; exact rI_nI (by omega), by rw [a1]; exact rI_nI (by omega), h1.2⟩
theorem prCore {σ : Mem} (h : Inv σ) (e w : Int32) : PRl spX9_core spX10_core [.int e, .int w] σ := by
  have h0 := h
  obtain ⟨nT, nH, nC, nD, ⟨hT, hH, hC, hD⟩, ⟨hS, hR, hX⟩, hE⟩ := h
  obtain ⟨b, nE, st, mh, hb, hgp, hc, hm⟩ := lat hE
  have hn := hH.1
  have ht30 := hT.1
  have hq := hasE hc hm e
  have preM : 0 ≤ e ∧ e < gI σ 42 30 → okB σ 65 e ∧ ∀ i, i < nB σ 65 e → vp_in (gI σ 66 (sB σ 65 e + i)) 240 ∧ vp_in (gI σ 45 (rI (gI σ 66 (sB σ 65 e + i)))) 30 := by
    intro q1
    obtain ⟨k, hk, hw⟩ := idx_of (n := nE) (by rw [← hm.1]; exact q1) (by have := hc.1; omega)
    obtain ⟨M1, M2, M3⟩ := EvM.okB hc hm hk
    rw [← hw] at M1 M2 M3
    refine ⟨M1, fun i hi => ?_⟩
    rw [M3] at hi
    obtain ⟨x, t, g1, g2, -, g4, -, g6, -, g8, -, -, -⟩ := memAt hT hH hc hm hk i hi
    rw [M2, g8, g4, g6]
    exact ⟨inI (by omega) (by decide), inI (by omega) (by decide)⟩
  have preT : (gP σ = 30 ∨ gP σ = 36) ∧ (0 ≤ e ∧ e ≤ gI σ (gP σ) 0 - 1 → okB σ (gP σ + 1) e ∧ ∀ i, i < nB σ (gP σ + 1) e → vp_in (gI σ (gP σ + 3) (sB σ (gP σ + 1) e + i)) 240 ∧ vp_in (gI σ 5 (rI (gI σ (gP σ + 3) (sB σ (gP σ + 1) e + i)))) 30) := by
    rw [hgp]
    refine ⟨hb, fun q1 => ?_⟩
    obtain ⟨k, hk, hw⟩ := idx_of (n := nE) (by rw [← hm.1]; exact hq.mp q1) (by have := hc.1; omega)
    obtain ⟨B1, B2, B3⟩ := hc.okB hk
    rw [← hw] at B1 B2 B3
    refine ⟨B1, fun i hi => ?_⟩
    rw [B3] at hi
    obtain ⟨x, t, g1, g2, g3, -, g5, -, g7, -, -, -, -⟩ := memAt hT hH hc hm hk i hi
    rw [B2, g7, g3, g5]
    exact ⟨inI (by omega) (by decide), inI (by omega) (by decide)⟩
  refine And.intro rfl (And.intro preT ?_)
  refine ⟨_, rfl, And.intro rfl (And.intro preM ?_)⟩
  refine ⟨?_, h0⟩
  show some (Value.long _) = some (Value.long _)
  congr 2
  by_cases q1 : 0 ≤ e ∧ e < gI σ 42 30
  · by_cases q2 : 0 ≤ w ∧ w ≤ 2
    · rw [if_pos ⟨q1, q2⟩, hgp, if_pos ⟨hq.mpr q1, q2⟩]
      obtain ⟨k, hk, hw⟩ := idx_of (n := nE) (by rw [← hm.1]; exact q1) (by have := hc.1; omega)
      obtain ⟨B1, B2, B3⟩ := hc.okB hk
      obtain ⟨M1, M2, M3⟩ := EvM.okB hc hm hk
      rw [← hw] at B1 B2 B3 M1 M2 M3
      rw [B2, B3, M2, M3]
      refine coreF_congr (fun i hi => ?_)
      obtain ⟨x, t, g1, g2, g3, g4, g5, g6, g7, g8, g9, g10, -⟩ := memAt hT hH hc hm hk i hi
      obtain ⟨⟨-, -, a3, a4⟩, ho⟩ := hH.2.2.2 x g1
      refine ⟨?_, ?_⟩
      · show amM _ _ = amT _ _
        rw [hgp, g7, g8, a3, a4, am_eq ho]
      · unfold txM txT
        rw [hgp, g7, g8, g9, g10, (hT.2.2.2 t g2).1, (hT.2.2.2 t g2).2.1]
    · rw [if_neg (fun z => q2 z.2), if_neg (fun z => q2 z.2)]
  · rw [if_neg (fun z => q1 z.1), hgp, if_neg (fun z => q1 (hq.mp z.1))]
