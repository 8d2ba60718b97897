/-! bounds of longs -/
def Bd (x : Int64) (M : Int) : Prop := -M ≤ x.toInt ∧ x.toInt ≤ M
theorem Bd.mono {x : Int64} {M N : Int} (h : Bd x M) (hn : M ≤ N) : Bd x N := ⟨by have := h.1; omega, by have := h.2; omega⟩
theorem bm_id {x : Int} (h1 : -2 ^ 63 < x) (h2 : x < 2 ^ 63) : x.bmod (2 ^ 64) = x := by
  rw [Int.bmod_eq_of_le] <;> omega
theorem Bd.add {x y : Int64} {M N P : Int} (hx : Bd x M) (hy : Bd y N) (hP : M + N ≤ P) (h : P < 2 ^ 63) : Bd (x + y) P := by
  unfold Bd at *
  rw [Int64.toInt_add, bm_id (by omega) (by omega)]
  omega
theorem Bd.sub {x y : Int64} {M N P : Int} (hx : Bd x M) (hy : Bd y N) (hP : M + N ≤ P) (h : P < 2 ^ 63) : Bd (x - y) P := by
  unfold Bd at *
  rw [Int64.toInt_sub, bm_id (by omega) (by omega)]
  omega
theorem ab_mul {x y M N : Int} (h1 : -M ≤ x) (h2 : x ≤ M) (h3 : -N ≤ y) (h4 : y ≤ N) : -(M * N) ≤ x * y ∧ x * y ≤ M * N := by
  have a1 : x.natAbs ≤ M.natAbs := by omega
  have a2 : y.natAbs ≤ N.natAbs := by omega
  have a3 := Nat.mul_le_mul a1 a2
  rw [← Int.natAbs_mul, ← Int.natAbs_mul] at a3
  have : 0 ≤ M * N := Int.mul_nonneg (by omega) (by omega)
  omega
theorem Bd.mul {x y : Int64} {M N P : Int} (hx : Bd x M) (hy : Bd y N) (hP : M * N ≤ P) (h : P < 2 ^ 63) : Bd (x * y) P := by
  have := ab_mul hx.1 hx.2 hy.1 hy.2
  unfold Bd at *
  rw [Int64.toInt_mul, bm_id (by omega) (by omega)]
  omega
theorem Bd.of {x : Int32} {M : Int} (h1 : -M ≤ x.toInt) (h2 : x.toInt ≤ M) : Bd x.toInt64 M := by
  unfold Bd
  rw [Int32.toInt_toInt64]
  exact ⟨h1, h2⟩
theorem Bd.smF {f : Nat → Int64} {s : Nat} {M : Int} (hM : 0 ≤ M) : ∀ {n : Nat}, n ≤ 30 → 30 * M < 2 ^ 63 → (∀ i, i < n → Bd (f (s + i)) M) → Bd (smF f s n) (n * M)
  | 0, _, _, _ => by
    show Bd 0 _
    unfold Bd
    have : (0 : Int64).toInt = 0 := by decide
    omega
  | n + 1, hn, h30, h => by
    have ih := Bd.smF hM (n := n) (by omega) h30 (fun i hi => h i (by omega))
    have h1 : ((n + 1 : Nat) : Int) * M = n * M + M := by rw [Int.natCast_add, Int.add_mul]; omega
    have h2 : ((n + 1 : Nat) : Int) * M ≤ 30 * M := Int.mul_le_mul_of_nonneg_right (by omega) hM
    exact Bd.add ih (h n (by omega)) (by omega) (by omega)
theorem Bd.sm30 {f : Nat → Int64} {s n : Nat} {M P : Int} (hM : 0 ≤ M) (hn : n ≤ 30) (hP : 30 * M ≤ P) (h63 : P < 2 ^ 63) (h : ∀ i, i < n → Bd (f (s + i)) M) : Bd (_root_.Jvm.Pilot.CTankFieldLaw_law_r1737_6f1891.smF f s n) P :=
  (Bd.smF hM hn (by omega) h).mono (by have : (n : Int) * M ≤ 30 * M := Int.mul_le_mul_of_nonneg_right (by omega) hM; omega)
theorem abL_pos {x : Int64} {M : Int} (h : Bd x M) (hM : M < 2 ^ 63) : 0 ≤ abL x := by
  unfold abL
  by_cases c : 0 ≤ x
  · rw [if_pos c]; exact c
  · rw [if_neg c]
    have h1 := Int64.lt_iff_toInt_lt.mp (Int64.not_le.mp c)
    rw [Int64.le_iff_toInt_le, Int64.toInt_neg, bm_id (by have := h.1; have := h.2; omega) (by have := h.1; have := h.2; omega)]
    have : (0 : Int64).toInt = 0 := by decide
    omega
/-- the two walks from 0 and from -1 end alike, once the first is not below 0 -/
theorem wsF_eq {f : Nat → Int64} (h : 0 ≤ f 0) : ∀ n, 0 < n → wsF f (-1) n = wsF f 0 n
  | 1, _ => by
    show (if (-1 : Int64) < f 0 then (nI 0, f 0) else (0, -1)) = (if (0 : Int64) < f 0 then (nI 0, f 0) else (0, 0))
    rw [if_pos (by rw [Int64.lt_iff_toInt_lt]; have h := Int64.le_iff_toInt_le.mp h; have : (0 : Int64).toInt = 0 := by decide
                   have : (-1 : Int64).toInt = -1 := by decide
                   omega)]
    by_cases c : (0 : Int64) < f 0
    · rw [if_pos c]
    · rw [if_neg c]
      have : f 0 = 0 := Int64.le_antisymm (Int64.not_lt.mp c) h
      rw [this]
      rfl
  | n + 2, _ => by
    show (if (wsF f (-1) (n + 1)).2 < f (n + 1) then (nI (n + 1), f (n + 1)) else wsF f (-1) (n + 1)) = (if (wsF f 0 (n + 1)).2 < f (n + 1) then (nI (n + 1), f (n + 1)) else wsF f 0 (n + 1))
    rw [wsF_eq h (n + 1) (by omega)]
theorem wsF_congr {f g : Nat → Int64} {m : Int64} {n : Nat} (h : ∀ i, i < n → f i = g i) : wsF f m n = wsF g m n := foldN_congr rfl (fun i hi x => by rw [h i hi])
theorem er_eq {σ : Mem} (h : Inv σ) {nT nH b nE : Nat} {st mh : Nat → Nat} (hT : IT σ nT) (hH : IH σ nT nH) (hb : b = 30 ∨ b = 36) (hgp : gP σ = b) (hc : EvC σ b nE st mh nH) (hm : EvM σ b nE st mh) {e : Int32} {k : Nat} (hk : k < nE) (hw : e = nI k) {τ ρ : Mem} (hτ : ftT σ e = τ) (hρ : ftI τ (lsM τ e) (sB τ 65 e) (nB τ 65 e) = ρ) {j : Nat} (hj : j < st (k + 1) - st k) : okT τ e (nI j) ∧ okN ρ e (nI j) ∧ erM ρ e (nI j) = erT τ e (nI j) ∧ rI (plT τ e (nI j)) = st k + j ∧ xT τ (st k + j) = xT σ (st k + j) ∧ yT τ (st k + j) = yT σ (st k + j) := by
  obtain ⟨okf, FR⟩ := fr_all h hT hH hb hgp hc hm hk hw
  obtain ⟨g1, g2, g3, g4, g5, g6⟩ := FR τ hτ
  obtain ⟨k1, k2, k3, k4, k5, k6⟩ := g6 ρ hρ
  have hlen := hc.2.2.2.1 k hk
  have hle := hc.le_st (show k + 1 ≤ nE by omega)
  have h240 := hc.2.2.2.2.1
  have hn := hH.1
  have ht30 := hT.1
  obtain ⟨B1, B2, B3⟩ := hc.okB hk
  obtain ⟨M1, M2, M3⟩ := EvM.okB hc hm hk
  rw [← hw] at B1 B2 B3 M1 M2 M3
  have hρI : ∀ k j, k ≠ 28 → gI ρ k j = gI σ k j := fun k j hk => (k2 k j).trans (g1 k j hk)
  have hlr : lsM ρ e = lsT σ e := (fr_congr (σ := τ) (τ := ρ) (fun k j _ => k2 k j) e).2.1.trans g5
  obtain ⟨x, t, m1, m2, m3, m4, m5, m6, m7, m8, m9, m10, m11⟩ := memAt hT hH hc hm hk j hj
  have hb3 : b + 3 ≠ 28 := by omega
  have hb4 : b + 4 ≠ 28 := by omega
  have hb1 : b + 1 ≠ 28 := by omega
  have p1 : plT τ e (nI j) = nI (st k + j) := by
    unfold plT
    rw [g2, g1 _ _ hb1, B1.2.2.2.1, B2, nI_add]
  have p2 : plM ρ e (nI j) = nI (st k + j) := by
    unfold plM
    rw [hρI _ _ (by decide), M1.2.2.2.1, M2, nI_add]
  have r1 : rI (plT τ e (nI j)) = st k + j := by rw [p1]; exact rI_nI (by omega)
  have r2 : rI (plM ρ e (nI j)) = st k + j := by rw [p2]; exact rI_nI (by omega)
  have a3 : gI τ (b + 3) (st k + j) = nI x := (g1 _ _ hb3).trans m3
  have a4 : gI τ (b + 4) (st k + j) = gI σ (b + 4) (st k + j) := g1 _ _ hb4
  have a5 : gI τ 5 x = nI t := (g1 _ _ (by decide)).trans m5
  have c3' : gI ρ 66 (st k + j) = nI x := (hρI _ _ (by decide)).trans m4
  have c4' : gI ρ 67 (st k + j) = gI σ (b + 4) (st k + j) := (hρI _ _ (by decide)).trans m11
  have c5' : gI ρ 45 x = nI t := (hρI _ _ (by decide)).trans m6
  have rx : rI (nI x) = x := rI_nI (by omega)
  have rt : rI (nI t) = t := rI_nI (by omega)
  refine ⟨⟨by rw [g2]; exact hb, B1.2.1, ?_, ?_, ?_⟩, ⟨by rw [(okB_congr hρI (a := 65) (by decide) e).1]; exact M1, ?_, ?_, ?_⟩, ?_, r1, ?_, ?_⟩
  · rw [p1]; exact inI (by omega) (by decide)
  · rw [r1, g2, a3]; exact inI (by omega) (by decide)
  · rw [r1, g2, a3, rx, a5]; exact inI (by omega) (by decide)
  · rw [p2]; exact inI (by omega) (by decide)
  · rw [r2, c3']; exact inI (by omega) (by decide)
  · rw [r2, c3', rx, c5']; exact inI (by omega) (by decide)
  · unfold erM erT xM xT yM yT
    rw [r1, r2, g2, a3, c3', rx, a5, c5', rt, a4, c4', hlr, g3, k3, k4, k5, k6, hρI 43 _ (by decide), hρI 44 _ (by decide), g1 2 _ (by decide), g1 3 _ (by decide), (hT.2.2.2 t m2).1, (hT.2.2.2 t m2).2.1]
  · unfold xT
    rw [g2, hgp, a3, m3, rx, a5, m5, g1 2 _ (by decide)]
  · unfold yT
    rw [g2, hgp, a3, m3, rx, a5, m5, g1 3 _ (by decide)]
set_option maxRecDepth 20000 in
set_option maxHeartbeats 4000000 in
theorem prError {σ : Mem} (h : Inv σ) (e i : Int32) : PRl spX9_error spX10_error [.int e, .int i] σ := by
  have h0 := h
  obtain ⟨nT, nH, nC, nD, ⟨hT, hH, hC, hD⟩, ⟨hS, hR, hX⟩, hE⟩ := h
  obtain ⟨b, nE, st, mh, hb, hgp, hc, hm⟩ := lat hE
  obtain ⟨p1, p2⟩ := preE hc hm e
  refine And.intro rfl ?_
  by_cases q1 : (0 ≤ e ∧ e < gI σ 42 30) ∧ 0 ≤ i ∧ i < gI σ 65 (rI (e + 1)) - gI σ 65 (rI e)
  · have q1' := (memE hc hm e i).mpr q1
    obtain ⟨k, j, hk, hw, hi, hj, e1, e2⟩ := memOK hc hm q1
    obtain ⟨okf0, FR⟩ := fr_all h0 hT hH hb hgp hc hm hk hw
    have okf : True → okF σ e := fun _ => okf0
    clear okf0
    have v0 : vp_in (nI 0) 4 := inI (by decide) (by decide)
    have ER := fun τ ρ hτ hρ => er_eq h0 hT hH hb hgp hc hm hk hw (τ := τ) (ρ := ρ) hτ hρ hj
    rw [← hi] at ER
    have FS : ∀ τ, ftT σ e = τ → (((0 ≤ e ∧ e < gI τ 42 30) ∧ 0 ≤ i ∧ i < gI τ 65 (rI (e + 1)) - gI τ 65 (rI e)) ∧ (0 ≤ e ∧ e < gI τ 42 30 → vp_in (e + 1) 241 ∧ vp_in e 241) ∧ (True → okG τ e) ∧ (True → okT τ e i)) ∧ ∀ ρ, ftI τ (lsM τ e) (sB τ 65 e) (nB τ 65 e) = ρ → Inv ρ ∧ gL ρ 71 0 = gL τ 28 10 ∧ okN ρ e i ∧ erM ρ e i = erT τ e i := by
      intro τ hτ
      obtain ⟨g1, g2, g3, g4, g5, g6⟩ := FR τ hτ
      refine ⟨⟨by rw [g1 42 _ (by decide), g1 65 _ (by decide), g1 65 _ (by decide)]; exact q1, by rw [g1 42 _ (by decide)]; exact p1, fun _ => g4, fun _ => (ER τ _ hτ rfl).1⟩, fun ρ hρ => ?_⟩
      obtain ⟨k1, k2, k3, k4⟩ := g6 ρ hρ
      obtain ⟨l1, l2, l3, -⟩ := ER τ ρ hτ hρ
      exact ⟨k1, k3, l2, l3⟩
    clear FR ER
    obtain ⟨s1, s2, s3, s4⟩ := σ
    have hgp : s3 = b := hgp
    subst hgp
    rcases hb with hb | hb <;> subst hb
    all_goals
      repeat (first
        | refine c5 (Nat.le_of_ble_eq_true rfl) (Nat.le_of_ble_eq_true rfl) rfl trivial (brbT (by first | assumption | decide | exact rfl | exact ne10 | exact ne20 | exact ne30) ?_)
        | refine c5 (Nat.le_of_ble_eq_true rfl) (Nat.le_of_ble_eq_true rfl) rfl trivial (brbF (by first | assumption | decide | exact rfl | exact ne10 | exact ne20 | exact ne30) ?_)
        | refine c4 (Nat.le_of_ble_eq_true rfl) rfl trivial (brbT (by first | assumption | decide | exact rfl | exact ne10 | exact ne20 | exact ne30) ?_)
        | refine c4 (Nat.le_of_ble_eq_true rfl) rfl trivial (brbF (by first | assumption | decide | exact rfl | exact ne10 | exact ne20 | exact ne30) ?_)
        | refine c4 (Nat.le_of_ble_eq_true rfl) (Nat.le_of_ble_eq_true rfl) rfl ?_
        | refine c3 (Nat.le_of_ble_eq_true rfl) rfl ?_
        | refine And.intro (by first | assumption | exact trivial) ?_
        | refine brbT (by first | assumption | decide | exact rfl | exact ne10 | exact ne20 | exact ne30) ?_
        | refine brbF (by first | assumption | decide | exact rfl | exact ne10 | exact ne20 | exact ne30) ?_
        | refine br_t (by first | assumption | decide | exact rfl | exact ne10 | exact ne20 | exact ne30) ?_
        | refine br_f (by first | assumption | decide | exact rfl | exact ne10 | exact ne20 | exact ne30) ?_
        | refine Exists.intro _ (And.intro rfl (And.intro rfl ?_)))
      refine spVi (okf trivial) ?_
      intro r τ hz
      obtain ⟨hr, hτ⟩ := pinj hz
      subst hr
      obtain ⟨⟨t1, t2, t3, t4⟩, FT⟩ := FS τ hτ
      clear hτ hz
      by_cases dz : lg_cmp (gL τ 28 10) (Int64.ofNat 0) = 0
      · repeat (first
          | refine c5 (Nat.le_of_ble_eq_true rfl) (Nat.le_of_ble_eq_true rfl) rfl trivial (brbT (by first | assumption | decide | exact rfl | exact ne10 | exact ne20 | exact ne30) ?_)
          | refine c5 (Nat.le_of_ble_eq_true rfl) (Nat.le_of_ble_eq_true rfl) rfl trivial (brbF (by first | assumption | decide | exact rfl | exact ne10 | exact ne20 | exact ne30) ?_)
          | refine c4 (Nat.le_of_ble_eq_true rfl) rfl trivial (brbT (by first | assumption | decide | exact rfl | exact ne10 | exact ne20 | exact ne30) ?_)
          | refine c4 (Nat.le_of_ble_eq_true rfl) rfl trivial (brbF (by first | assumption | decide | exact rfl | exact ne10 | exact ne20 | exact ne30) ?_)
          | refine c4 (Nat.le_of_ble_eq_true rfl) (Nat.le_of_ble_eq_true rfl) rfl ?_
          | refine c3 (Nat.le_of_ble_eq_true rfl) rfl ?_
          | refine And.intro (by first | assumption | exact trivial) ?_
          | refine brbT (by first | assumption | decide | exact rfl | exact ne10 | exact ne20 | exact ne30) ?_
          | refine brbF (by first | assumption | decide | exact rfl | exact ne10 | exact ne20 | exact ne30) ?_
          | refine br_t (by first | assumption | decide | exact rfl | exact ne10 | exact ne20 | exact ne30) ?_
          | refine br_f (by first | assumption | decide | exact rfl | exact ne10 | exact ne20 | exact ne30) ?_
          | refine Exists.intro _ (And.intro rfl (And.intro rfl ?_)))
        refine spVi (t3 trivial) ?_
        intro r ρ hz
        obtain ⟨hr, hρ⟩ := pinj hz
        subst hr
        obtain ⟨hi, r0, r1, r2⟩ := FT ρ hρ
        clear hρ hz
        rw [← r0] at dz
        repeat (first
          | refine c5 (Nat.le_of_ble_eq_true rfl) (Nat.le_of_ble_eq_true rfl) rfl trivial (brbT (by first | assumption | decide | exact rfl | exact ne10 | exact ne20 | exact ne30) ?_)
          | refine c5 (Nat.le_of_ble_eq_true rfl) (Nat.le_of_ble_eq_true rfl) rfl trivial (brbF (by first | assumption | decide | exact rfl | exact ne10 | exact ne20 | exact ne30) ?_)
          | refine c4 (Nat.le_of_ble_eq_true rfl) rfl trivial (brbT (by first | assumption | decide | exact rfl | exact ne10 | exact ne20 | exact ne30) ?_)
          | refine c4 (Nat.le_of_ble_eq_true rfl) rfl trivial (brbF (by first | assumption | decide | exact rfl | exact ne10 | exact ne20 | exact ne30) ?_)
          | refine c4 (Nat.le_of_ble_eq_true rfl) (Nat.le_of_ble_eq_true rfl) rfl ?_
          | refine c3 (Nat.le_of_ble_eq_true rfl) rfl ?_
          | refine And.intro (by first | assumption | exact trivial) ?_
          | refine brbT (by first | assumption | decide | exact rfl | exact ne10 | exact ne20 | exact ne30) ?_
          | refine brbF (by first | assumption | decide | exact rfl | exact ne10 | exact ne20 | exact ne30) ?_
          | refine br_t (by first | assumption | decide | exact rfl | exact ne10 | exact ne20 | exact ne30) ?_
          | refine br_f (by first | assumption | decide | exact rfl | exact ne10 | exact ne20 | exact ne30) ?_
          | refine Exists.intro _ (And.intro rfl (And.intro rfl ?_)))
        exact ⟨rfl, hi⟩
      · repeat (first
          | refine c5 (Nat.le_of_ble_eq_true rfl) (Nat.le_of_ble_eq_true rfl) rfl trivial (brbT (by first | assumption | decide | exact rfl | exact ne10 | exact ne20 | exact ne30) ?_)
          | refine c5 (Nat.le_of_ble_eq_true rfl) (Nat.le_of_ble_eq_true rfl) rfl trivial (brbF (by first | assumption | decide | exact rfl | exact ne10 | exact ne20 | exact ne30) ?_)
          | refine c4 (Nat.le_of_ble_eq_true rfl) rfl trivial (brbT (by first | assumption | decide | exact rfl | exact ne10 | exact ne20 | exact ne30) ?_)
          | refine c4 (Nat.le_of_ble_eq_true rfl) rfl trivial (brbF (by first | assumption | decide | exact rfl | exact ne10 | exact ne20 | exact ne30) ?_)
          | refine c4 (Nat.le_of_ble_eq_true rfl) (Nat.le_of_ble_eq_true rfl) rfl ?_
          | refine c3 (Nat.le_of_ble_eq_true rfl) rfl ?_
          | refine And.intro (by first | assumption | exact trivial) ?_
          | refine brbT (by first | assumption | decide | exact rfl | exact ne10 | exact ne20 | exact ne30) ?_
          | refine brbF (by first | assumption | decide | exact rfl | exact ne10 | exact ne20 | exact ne30) ?_
          | refine br_t (by first | assumption | decide | exact rfl | exact ne10 | exact ne20 | exact ne30) ?_
          | refine br_f (by first | assumption | decide | exact rfl | exact ne10 | exact ne20 | exact ne30) ?_
          | refine Exists.intro _ (And.intro rfl (And.intro rfl ?_)))
        refine And.intro (t4 trivial) ?_
        repeat (first
          | refine c5 (Nat.le_of_ble_eq_true rfl) (Nat.le_of_ble_eq_true rfl) rfl trivial (brbT (by first | assumption | decide | exact rfl | exact ne10 | exact ne20 | exact ne30) ?_)
          | refine c5 (Nat.le_of_ble_eq_true rfl) (Nat.le_of_ble_eq_true rfl) rfl trivial (brbF (by first | assumption | decide | exact rfl | exact ne10 | exact ne20 | exact ne30) ?_)
          | refine c4 (Nat.le_of_ble_eq_true rfl) rfl trivial (brbT (by first | assumption | decide | exact rfl | exact ne10 | exact ne20 | exact ne30) ?_)
          | refine c4 (Nat.le_of_ble_eq_true rfl) rfl trivial (brbF (by first | assumption | decide | exact rfl | exact ne10 | exact ne20 | exact ne30) ?_)
          | refine c4 (Nat.le_of_ble_eq_true rfl) (Nat.le_of_ble_eq_true rfl) rfl ?_
          | refine c3 (Nat.le_of_ble_eq_true rfl) rfl ?_
          | refine And.intro (by first | assumption | exact trivial) ?_
          | refine brbT (by first | assumption | decide | exact rfl | exact ne10 | exact ne20 | exact ne30) ?_
          | refine brbF (by first | assumption | decide | exact rfl | exact ne10 | exact ne20 | exact ne30) ?_
          | refine br_t (by first | assumption | decide | exact rfl | exact ne10 | exact ne20 | exact ne30) ?_
          | refine br_f (by first | assumption | decide | exact rfl | exact ne10 | exact ne20 | exact ne30) ?_
          | refine Exists.intro _ (And.intro rfl (And.intro rfl ?_)))
        refine spVi (t3 trivial) ?_
        intro r ρ hz
        obtain ⟨hr, hρ⟩ := pinj hz
        subst hr
        obtain ⟨hi, r0, r1, r2⟩ := FT ρ hρ
        clear hρ hz
        rw [← r0] at dz
        repeat (first
          | refine c5 (Nat.le_of_ble_eq_true rfl) (Nat.le_of_ble_eq_true rfl) rfl trivial (brbT (by first | assumption | decide | exact rfl | exact ne10 | exact ne20 | exact ne30) ?_)
          | refine c5 (Nat.le_of_ble_eq_true rfl) (Nat.le_of_ble_eq_true rfl) rfl trivial (brbF (by first | assumption | decide | exact rfl | exact ne10 | exact ne20 | exact ne30) ?_)
          | refine c4 (Nat.le_of_ble_eq_true rfl) rfl trivial (brbT (by first | assumption | decide | exact rfl | exact ne10 | exact ne20 | exact ne30) ?_)
          | refine c4 (Nat.le_of_ble_eq_true rfl) rfl trivial (brbF (by first | assumption | decide | exact rfl | exact ne10 | exact ne20 | exact ne30) ?_)
          | refine c4 (Nat.le_of_ble_eq_true rfl) (Nat.le_of_ble_eq_true rfl) rfl ?_
          | refine c3 (Nat.le_of_ble_eq_true rfl) rfl ?_
          | refine And.intro (by first | assumption | exact trivial) ?_
          | refine brbT (by first | assumption | decide | exact rfl | exact ne10 | exact ne20 | exact ne30) ?_
          | refine brbF (by first | assumption | decide | exact rfl | exact ne10 | exact ne20 | exact ne30) ?_
          | refine br_t (by first | assumption | decide | exact rfl | exact ne10 | exact ne20 | exact ne30) ?_
          | refine br_f (by first | assumption | decide | exact rfl | exact ne10 | exact ne20 | exact ne30) ?_
          | refine Exists.intro _ (And.intro rfl (And.intro rfl ?_)))
        exact ⟨congrArg (fun z => some (Value.long z)) r2, hi⟩
  · have q1' : ¬ ((0 ≤ e ∧ e ≤ gI σ b 0 - 1) ∧ 0 ≤ i ∧ i ≤ gI σ (b + 1) (rI (e + 1)) - gI σ (b + 1) (rI e) - 1) := fun z => q1 ((memE hc hm e i).mp z)
    obtain ⟨s1, s2, s3, s4⟩ := σ
    have hgp : s3 = b := hgp
    subst hgp
    rcases hb with hb | hb <;> subst hb
    all_goals
      repeat (first
        | refine c5 (Nat.le_of_ble_eq_true rfl) (Nat.le_of_ble_eq_true rfl) rfl trivial (brbT (by first | assumption | decide | exact rfl | exact ne10 | exact ne20 | exact ne30) ?_)
        | refine c5 (Nat.le_of_ble_eq_true rfl) (Nat.le_of_ble_eq_true rfl) rfl trivial (brbF (by first | assumption | decide | exact rfl | exact ne10 | exact ne20 | exact ne30) ?_)
        | refine c4 (Nat.le_of_ble_eq_true rfl) rfl trivial (brbT (by first | assumption | decide | exact rfl | exact ne10 | exact ne20 | exact ne30) ?_)
        | refine c4 (Nat.le_of_ble_eq_true rfl) rfl trivial (brbF (by first | assumption | decide | exact rfl | exact ne10 | exact ne20 | exact ne30) ?_)
        | refine c4 (Nat.le_of_ble_eq_true rfl) (Nat.le_of_ble_eq_true rfl) rfl ?_
        | refine c3 (Nat.le_of_ble_eq_true rfl) rfl ?_
        | refine And.intro (by first | assumption | exact trivial) ?_
        | refine brbT (by first | assumption | decide | exact rfl | exact ne10 | exact ne20 | exact ne30) ?_
        | refine brbF (by first | assumption | decide | exact rfl | exact ne10 | exact ne20 | exact ne30) ?_
        | refine br_t (by first | assumption | decide | exact rfl | exact ne10 | exact ne20 | exact ne30) ?_
        | refine br_f (by first | assumption | decide | exact rfl | exact ne10 | exact ne20 | exact ne30) ?_
        | refine Exists.intro _ (And.intro rfl (And.intro rfl ?_)))
      exact ⟨rfl, h0⟩
