def csX4_takeNear : Cs := [(46, 4, true, spX4_takeIfClose)]
def TN (D : Dat) (m : Nat) (pl : Nat → Nat) (T0 : Nat → Prop) (a : Nat) (τ0 : Mem) (n0 : Nat) (gr0 : Nat → Nat) (τ : Mem) (n : Nat) (gr : Nat → Nat) : Prop := GS τ m T0 n gr ∧ n0 ≤ n ∧ (∀ i, i < n0 → gr i = gr0 i) ∧ (∀ i, n0 ≤ i → i < n → Rd D (pl a) (pl (gr i))) ∧ Fr SG τ0 τ
theorem TN.take {D : Dat} {m : Nat} {pl : Nat → Nat} {T0 : Nat → Prop} {a : Nat} {τ0 : Mem} {n0 : Nat} {gr0 : Nat → Nat} {τ : Mem} {n : Nat} {gr : Nat → Nat} (h : TN D m pl T0 a τ0 n0 gr0 τ n gr) (hm : m ≤ 240) {p : Nat} (hp : p < m) (ht : gI τ 25 p = 0) (r : Rd D (pl a) (pl p)) : n < m ∧ TN D m pl T0 a τ0 n0 gr0 (tkM τ p) (n + 1) (ups gr n p) := by
  obtain ⟨h1, h2, h3, h4, h5⟩ := h
  obtain ⟨g1, g2, g3⟩ := h1.take hm hp ht
  refine ⟨g1, g2, by omega, fun i hi => ?_, fun i hi1 hi2 => ?_, h5.trans g3⟩
  · rw [ups_of (by omega)]; exact h3 i hi
  · by_cases e : i = n
    · rw [e, ups_at]; exact r
    · rw [ups_of e]; exact h4 i hi1 (by omega)
def spX4_takeNear : SP := G [(2, [21]), (0, []), (2, [1]), (0, []), (0, [])] (fun vs τ K => ∃ (D : Dat) (m n a : Nat) (pl gr : Nat → Nat) (T0 : Nat → Prop) (w sq : Int32), vs = [.ref 21, .int (nI a), .ref 1, .int w, .int sq] ∧ okD D ∧ PL D τ m pl ∧ GS τ m T0 n gr ∧ LKD D τ sq ∧ w.toInt = dW D ∧ a < m ∧ ∀ τ' n' gr', TN D m pl T0 a τ n gr τ' n' gr' → (∀ p, p < m → Rd D (pl a) (pl p) → tkn T0 gr' n' p) → K none τ')
theorem mnX4_takeNear : Mono spX4_takeNear := fun vs σ K1 K2 hK h => by
  obtain ⟨h1, D, m, n, a, pl, gr, T0, w, sq, g1, g2, g3, g4, g5, g6, g7, g8⟩ := h
  exact ⟨h1, D, m, n, a, pl, gr, T0, w, sq, g1, g2, g3, g4, g5, g6, g7, fun τ' n' gr' q1 q2 => hK _ _ (g8 τ' n' gr' q1 q2)⟩
set_option maxHeartbeats 4000000 in
theorem bdX4_takeNear : Body 7 pgX4_takeNear roM csX4_takeNear lcX4 false spX4_takeNear := by
  intro vs τ K h Ok hst
  obtain ⟨-, D, m, n, a, pl, gr, T0, w, sq, rfl, ok, hPL, hGS, hLK, hw, ham, hk⟩ := h
  have hm := hPL.2.1
  have h30 := ok.1.1
  have ra : rI (nI a) = a := rI_nI (by omega)
  have va : vp_in (nI a) 240 := inI (by omega) (by decide)
  have et : gI τ 24 (rI (nI a)) = dTm D (pl a) := by rw [ra]; exact (hPL.2.2.1 a ham).2.2.1
  have cta := (hPL.2.2.1 a ham).2.2.2
  have hla := ok.2.1 _ cta
  have ka := (ok.2.2.1 _ hla).1
  -- one place: taken if it is near
  have one : ∀ j, j < m → j ≠ a → (dM D (pl a) - dM D (pl j) ≤ dW D ∧ dM D (pl j) - dM D (pl a) ≤ dW D) → ∀ τ' n' gr', TN D m pl T0 a τ n gr τ' n' gr' → ∀ (P : Mem → Prop), (∀ τ'' n'' gr'', TN D m pl T0 a τ n gr τ'' n'' gr'' → (∀ p, tkn T0 gr' n' p → tkn T0 gr'' n'' p) → (Rd D (pl a) (pl j) → tkn T0 gr'' n'' j) → P τ'') → spX4_takeIfClose [.ref 21, .int (nI a), .int (nI j), .ref 1, .int sq] τ' (fun _ σ' => P σ') := by
    intro j hj hja htm τ' n' gr' hTN P hP
    have pl' := hPL.fr hTN.2.2.2.2 SG_pl
    have lk' := hLK.fr hTN.2.2.2.2 SG_lk
    have ctj := (hPL.2.2.1 j hj).2.2.2
    have hlj := ok.2.1 _ ctj
    have kj := (ok.2.2.1 _ hlj).1
    refine And.intro rfl ⟨a, j, dK D (pl a), dK D (pl j), sq, rfl, ⟨by omega, by omega, by omega, by omega⟩, (pl'.2.2.1 a ham).2.1, (pl'.2.2.1 j hj).2.1, fun q => ?_, fun q => ?_⟩
    · have r : Rd D (pl a) (pl j) := ⟨cta, ctj, Ne.symm q.2.1, htm, (lk' _ _ kj ka).mp q.2.2⟩
      obtain ⟨g1, g2⟩ := hTN.take hm hj q.1 r
      refine ⟨?_, hP _ _ _ g2 (fun p z => z.up) (fun _ => tkn.new T0 gr' n' j)⟩
      rw [hTN.1.1]
      exact inI (by omega) (by decide)
    · refine hP _ _ _ hTN (fun p z => z) (fun r => ?_)
      rcases hTN.1.2.2.2 j hj with g | g
      · exact absurd ⟨g.1, Ne.symm r.2.2.1, (lk' _ _ kj ka).mpr r.2.2.2.2⟩ q
      · exact g.2
  have loop2 : ∀ d j τ' n' gr', j + d = m → a < j → TN D m pl T0 a τ n gr τ' n' gr' → (∀ q, q < j → Rd D (pl a) (pl q) → tkn T0 gr' n' q) → Ok 31 [some (.ref 21), some (.int (nI a)), some (.ref 1), some (.int w), some (.int sq), some (.int (dTm D (pl a))), some (.int (nI j))] [] τ' := by
    intro d
    induction d with
    | zero =>
      intro j τ' n' gr' hj haj hTN hq
      have pl' := hPL.fr hTN.2.2.2.2 SG_pl
      have e : j = m := by omega
      have le : gI τ' 21 4 ≤ nI j := by rw [pl'.1, e]; exact Int32.le_refl _
      refine hst [31] 40 _ _ _ _ ?_
      exact br_t le (hk τ' n' gr' hTN (fun p hp r => hq p (by omega) r))
    | succ d ih =>
      intro j τ' n' gr' hj haj hTN hq
      have pl' := hPL.fr hTN.2.2.2.2 SG_pl
      have nle : ¬ gI τ' 21 4 ≤ nI j := by rw [pl'.1]; exact nI_ge (by omega) (by omega)
      have rj : rI (nI j) = j := rI_nI (by omega)
      have vj : vp_in (nI j) 240 := inI (by omega) (by decide)
      have ej : gI τ' 24 (rI (nI j)) = dTm D (pl j) := by rw [rj]; exact (pl'.2.2.1 j (by omega)).2.2.1
      have hlj := ok.2.1 _ (hPL.2.2.1 j (by omega)).2.2.2
      have ds := d_sub ok hlj hla
      have o1 := hPL.2.2.2.1 a j haj (by omega)
      have hW := ok.2.2.2.2.1
      refine hst [31] 40 _ _ _ _ ?_
      refine br_f nle (And.intro vj ?_)
      by_cases q : dM D (pl j) - dM D (pl a) ≤ dW D
      · have nq : ¬ w < gI τ' 24 (rI (nI j)) - dTm D (pl a) := by rw [ej, ltI, ds, hw]; omega
        refine br_f nq (And.intro (Nat.le_of_ble_eq_true rfl) ?_)
        refine one j (by omega) (by omega) ⟨by unfold ahd at o1; omega, q⟩ τ' n' gr' hTN (fun σ' => Ok 31 [some (.ref 21), some (.int (nI a)), some (.ref 1), some (.int w), some (.int sq), some (.int (dTm D (pl a))), some (.int (nI j + 1))] [] σ') (fun τ'' n'' gr'' h1 h2 h3 => ?_)
        rw [nI_1]
        refine ih (j + 1) τ'' n'' gr'' (by omega) (by omega) h1 (fun p hp r => ?_)
        rcases Nat.lt_or_ge p j with g | g
        · exact h2 p (hq p g r)
        · have e : p = j := by omega
          rw [e] at r ⊢
          exact h3 r
      · have nq : w < gI τ' 24 (rI (nI j)) - dTm D (pl a) := by rw [ej, ltI, ds, hw]; omega
        refine br_t nq (hk τ' n' gr' hTN (fun p hp r => ?_))
        rcases Nat.lt_or_ge p j with g | g
        · exact hq p g r
        · exfalso
          have o2 : dM D (pl j) ≤ dM D (pl p) := by
            rcases Nat.lt_or_ge j p with y | y
            · have := hPL.2.2.2.1 j p y hp
              unfold ahd at this; omega
            · have e : p = j := by omega
              rw [e]; exact Int.le_refl _
          have := r.2.2.2.1.2
          omega
  have loop1 : ∀ j x τ' n' gr', j ≤ a → dn x j → TN D m pl T0 a τ n gr τ' n' gr' → (∀ q, j ≤ q → q < a → Rd D (pl a) (pl q) → tkn T0 gr' n' q) → Ok 9 [some (.ref 21), some (.int (nI a)), some (.ref 1), some (.int w), some (.int sq), some (.int (dTm D (pl a))), some (.int x)] [] τ' := by
    intro j
    have fin : ∀ τ' n' gr', TN D m pl T0 a τ n gr τ' n' gr' → (∀ q, q < a → Rd D (pl a) (pl q) → tkn T0 gr' n' q) → Ok 31 [some (.ref 21), some (.int (nI a)), some (.ref 1), some (.int w), some (.int sq), some (.int (dTm D (pl a))), some (.int (nI a + 1))] [] τ' := by
      intro τ' n' gr' hTN hq
      rw [nI_1]
      refine loop2 (m - (a + 1)) (a + 1) τ' n' gr' (by omega) (by omega) hTN (fun q h1 r => ?_)
      rcases Nat.lt_or_ge q a with g | g
      · exact hq q g r
      · have e : q = a := by omega
        rw [e] at r
        exact absurd rfl r.2.2.1
    induction j with
    | zero =>
      intro x τ' n' gr' hja hx hTN hq
      rcases hx with ⟨-, rfl⟩ | ⟨j, z, -⟩
      · refine hst [9, 31] 40 _ _ _ _ ?_
        exact br_t (by decide) (fin τ' n' gr' hTN (fun q h1 => hq q (Nat.zero_le _) h1))
      · omega
    | succ j ih =>
      intro x τ' n' gr' hja hx hTN hq
      rcases hx with ⟨z, -⟩ | ⟨j', z, rfl⟩
      · omega
      · have ejj : j' = j := by omega
        subst ejj
        have pl' := hPL.fr hTN.2.2.2.2 SG_pl
        have rj : rI (nI j') = j' := rI_nI (by omega)
        have vj : vp_in (nI j') 240 := inI (by omega) (by decide)
        have ej : gI τ' 24 (rI (nI j')) = dTm D (pl j') := by rw [rj]; exact (pl'.2.2.1 j' (by omega)).2.2.1
        have hlj := ok.2.1 _ (hPL.2.2.1 j' (by omega)).2.2.2
        have ds := d_sub ok hla hlj
        have o1 := hPL.2.2.2.1 j' a (by omega) ham
        have hW := ok.2.2.2.2.1
        have npos : ¬ nI j' < 0 := nI_pos (by omega)
        refine hst [9, 31] 40 _ _ _ _ ?_
        refine br_f npos (And.intro vj ?_)
        by_cases q : dM D (pl a) - dM D (pl j') ≤ dW D
        · have nq : ¬ w < dTm D (pl a) - gI τ' 24 (rI (nI j')) := by rw [ej, ltI, ds, hw]; omega
          refine br_f nq (And.intro (Nat.le_of_ble_eq_true rfl) ?_)
          refine one j' (by omega) (by omega) ⟨q, by unfold ahd at o1; omega⟩ τ' n' gr' hTN (fun σ' => Ok 9 [some (.ref 21), some (.int (nI a)), some (.ref 1), some (.int w), some (.int sq), some (.int (dTm D (pl a))), some (.int (nI j' + (-1)))] [] σ') (fun τ'' n'' gr'' h1 h2 h3 => ?_)
          refine ih (nI j' + (-1)) τ'' n'' gr'' (by omega) (dn_m1 j') h1 (fun p hp1 hp2 r => ?_)
          rcases Nat.lt_or_ge j' p with g | g
          · exact h2 p (hq p (by omega) hp2 r)
          · have e : p = j' := by omega
            rw [e] at r ⊢
            exact h3 r
        · have nq : w < dTm D (pl a) - gI τ' 24 (rI (nI j')) := by rw [ej, ltI, ds, hw]; omega
          refine br_t nq (fin τ' n' gr' hTN (fun p hp r => ?_))
          rcases Nat.lt_or_ge j' p with g | g
          · exact hq p (by omega) hp r
          · exfalso
            have o2 : dM D (pl p) ≤ dM D (pl j') := by
              rcases Nat.lt_or_ge p j' with y | y
              · have := hPL.2.2.2.1 p j' y (by omega)
                unfold ahd at this; omega
              · have e : p = j' := by omega
                rw [e]; exact Int.le_refl _
            have := r.2.2.2.1.1
            omega
  have t0 : TN D m pl T0 a τ n gr τ n gr := ⟨hGS, Nat.le_refl _, fun i _ => rfl, fun i h1 h2 => by omega, Fr.refl SG τ⟩
  have l0 := loop1 a (nI a - 1) τ n gr (Nat.le_refl _) (dn_sub a) t0 (fun q h1 h2 => by omega)
  rw [← et] at l0
  refine hst [9] 40 _ _ _ _ ?_
  exact And.intro va l0
