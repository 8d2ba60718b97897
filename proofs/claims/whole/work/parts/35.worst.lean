theorem ls_bd {f : Nat → Int32} {s n : Nat} (hn : 0 < n) {lo hi : Int32} (h : ∀ i, i < n → lo ≤ f (s + i) ∧ f (s + i) ≤ hi) : lo ≤ leastF f s n ∧ leastF f s n ≤ hi := by
  unfold leastF
  refine foldN_inv (fun _ x => lo ≤ x ∧ x ≤ hi) (h 0 hn) (fun i x hi' hx => ?_)
  show lo ≤ (if f (s + i) < x then f (s + i) else x) ∧ (if f (s + i) < x then f (s + i) else x) ≤ hi
  split
  · exact h i hi'
  · exact hx
theorem dif_bd {x y : Int32} (hx : -500 ≤ x ∧ x ≤ 20500) (hy : -500 ≤ y ∧ y ≤ 20500) : Bd (x - y).toInt64 21000 := by
  have a1 := Int32.le_iff_toInt_le.mp hx.1
  have a2 := Int32.le_iff_toInt_le.mp hx.2
  have b1 := Int32.le_iff_toInt_le.mp hy.1
  have b2 := Int32.le_iff_toInt_le.mp hy.2
  have k1 : (-500 : Int32).toInt = -500 := by decide
  have k2 : (20500 : Int32).toInt = 20500 := by decide
  have e : (x - y).toInt = x.toInt - y.toInt := by
    rw [Int32.toInt_sub, Int.bmod_eq_of_le] <;> omega
  exact Bd.of (by omega) (by omega)
theorem cs_bd {x : Int32} (hx : -100 ≤ x ∧ x ≤ 100) : Bd x.toInt64 100 := by
  have a1 := Int32.le_iff_toInt_le.mp hx.1
  have a2 := Int32.le_iff_toInt_le.mp hx.2
  have k1 : (-100 : Int32).toInt = -100 := by decide
  have k2 : (100 : Int32).toInt = 100 := by decide
  exact Bd.of (by omega) (by omega)
theorem sol_bd {n x y xx xy yy t tx ty : Int64} (hn : Bd n 30) (hx : Bd x 3000) (hy : Bd y 3000) (hxx : Bd xx 300000) (hxy : Bd xy 300000) (hyy : Bd yy 300000) (ht : Bd t 630000) (htx : Bd tx 63000000) (hty : Bd ty 63000000) : Bd (dT n x y xx xy yy) 16200000000000 ∧ Bd (cT x y xx xy yy t tx ty) 340200000000000000 ∧ Bd (uT n x y xy yy t tx ty) 3402000000000000 ∧ Bd (vT n x y xx xy t tx ty) 3402000000000000 := by
  have c1 : Bd (xx * yy - xy * xy) 180000000000 := (Bd.mul (P := 90000000000) hxx hyy (by omega) (by omega)).sub (Bd.mul (P := 90000000000) hxy hxy (by omega) (by omega)) (by omega) (by omega)
  have c2 : Bd (xy * y - x * yy) 1800000000 := (Bd.mul (P := 900000000) hxy hy (by omega) (by omega)).sub (Bd.mul (P := 900000000) hx hyy (by omega) (by omega)) (by omega) (by omega)
  have c3' : Bd (x * xy - xx * y) 1800000000 := (Bd.mul (P := 900000000) hx hxy (by omega) (by omega)).sub (Bd.mul (P := 900000000) hxx hy (by omega) (by omega)) (by omega) (by omega)
  have d1 : Bd (n * yy - y * y) 18000000 := (Bd.mul (P := 9000000) hn hyy (by omega) (by omega)).sub (Bd.mul (P := 9000000) hy hy (by omega) (by omega)) (by omega) (by omega)
  have d2 : Bd (x * y - n * xy) 18000000 := (Bd.mul (P := 9000000) hx hy (by omega) (by omega)).sub (Bd.mul (P := 9000000) hn hxy (by omega) (by omega)) (by omega) (by omega)
  have d3 : Bd (n * xx - x * x) 18000000 := (Bd.mul (P := 9000000) hn hxx (by omega) (by omega)).sub (Bd.mul (P := 9000000) hx hx (by omega) (by omega)) (by omega) (by omega)
  refine ⟨?_, ?_, ?_, ?_⟩
  · exact ((Bd.mul (P := 5400000000000) hn c1 (by omega) (by omega)).add (P := 10800000000000) (Bd.mul (P := 5400000000000) hx c2 (by omega) (by omega)) (by omega) (by omega)).add (Bd.mul (P := 5400000000000) hy c3' (by omega) (by omega)) (by omega) (by omega)
  · exact ((Bd.mul (P := 113400000000000000) ht c1 (by omega) (by omega)).add (P := 226800000000000000) (Bd.mul (P := 113400000000000000) htx c2 (by omega) (by omega)) (by omega) (by omega)).add (Bd.mul (P := 113400000000000000) hty c3' (by omega) (by omega)) (by omega) (by omega)
  · exact ((Bd.mul (P := 1134000000000000) ht c2 (by omega) (by omega)).add (P := 2268000000000000) (Bd.mul (P := 1134000000000000) htx d1 (by omega) (by omega)) (by omega) (by omega)).add (Bd.mul (P := 1134000000000000) hty d2 (by omega) (by omega)) (by omega) (by omega)
  · exact ((Bd.mul (P := 1134000000000000) ht c3' (by omega) (by omega)).add (P := 2268000000000000) (Bd.mul (P := 1134000000000000) htx d2 (by omega) (by omega)) (by omega) (by omega)).add (Bd.mul (P := 1134000000000000) hty d3 (by omega) (by omega)) (by omega) (by omega)
theorem er_bd {σ : Mem} (h : Inv σ) {nT nH b nE : Nat} {st mh : Nat → Nat} (hT : IT σ nT) (hH : IH σ nT nH) (hb : b = 30 ∨ b = 36) (hgp : gP σ = b) (hc : EvC σ b nE st mh nH) (hm : EvM σ b nE st mh) {e : Int32} {k : Nat} (hk : k < nE) (hw : e = nI k) {τ : Mem} (hτ : ftT σ e = τ) {j : Nat} (hj : j < st (k + 1) - st k) : 0 ≤ abL (erT τ e (nI j)) := by
  obtain ⟨okf, FR⟩ := fr_all h hT hH hb hgp hc hm hk hw
  obtain ⟨g1, g2, g3, g4, g5, g6⟩ := FR τ hτ
  obtain ⟨-, -, -, r1, rx, ry⟩ := er_eq h hT hH hb hgp hc hm hk hw hτ rfl hj
  have hlen := hc.2.2.2.1 k hk
  have hle := hc.le_st (show k + 1 ≤ nE by omega)
  obtain ⟨B1, B2, B3⟩ := hc.okB hk
  rw [← hw] at B1 B2 B3
  have tb : ∀ i, i < st (k + 1) - st k → -500 ≤ gI σ (b + 4) (st k + i) ∧ gI σ (b + 4) (st k + i) ≤ 20500 := fun i hi => (hc.2.2.2.2.2.2.1 (st k + i) (by omega)).2.2
  have lb : -500 ≤ lsT σ e ∧ lsT σ e ≤ 20500 := by
    unfold lsT
    rw [hgp, B2, B3]
    exact ls_bd (by omega) tb
  have bx : ∀ i, i < st (k + 1) - st k → Bd (xT σ (st k + i)) 100 ∧ Bd (yT σ (st k + i)) 100 ∧ Bd (tmT σ (lsT σ e) (st k + i)) 21000 := by
    intro i hi
    obtain ⟨x, t, m1, m2, m3, m4, m5, m6, m7, m8, m9, m10, m11⟩ := memAt hT hH hc hm hk i hi
    unfold xT yT tmT
    rw [hgp, m7, m9]
    exact ⟨cs_bd (hT.2.2.2 t m2).2.2.1, cs_bd (hT.2.2.2 t m2).2.2.2, dif_bd (tb i hi) lb⟩
  have hn30 : st (k + 1) - st k ≤ 30 := by omega
  have s1 : Bd (smF (fun _ => 1) (st k) (st (k + 1) - st k)) 30 := Bd.sm30 (M := 1) (by omega) hn30 (by omega) (by omega) (fun i hi => by unfold Bd; decide)
  have s2 : Bd (smF (xT σ) (st k) (st (k + 1) - st k)) 3000 := Bd.sm30 (M := 100) (by omega) hn30 (by omega) (by omega) (fun i hi => (bx i hi).1)
  have s3 : Bd (smF (yT σ) (st k) (st (k + 1) - st k)) 3000 := Bd.sm30 (M := 100) (by omega) hn30 (by omega) (by omega) (fun i hi => (bx i hi).2.1)
  have s4 : Bd (smF (fun p => xT σ p * xT σ p) (st k) (st (k + 1) - st k)) 300000 := Bd.sm30 (M := 10000) (by omega) hn30 (by omega) (by omega) (fun i hi => (bx i hi).1.mul (bx i hi).1 (by omega) (by omega))
  have s5 : Bd (smF (fun p => xT σ p * yT σ p) (st k) (st (k + 1) - st k)) 300000 := Bd.sm30 (M := 10000) (by omega) hn30 (by omega) (by omega) (fun i hi => (bx i hi).1.mul (bx i hi).2.1 (by omega) (by omega))
  have s6 : Bd (smF (fun p => yT σ p * yT σ p) (st k) (st (k + 1) - st k)) 300000 := Bd.sm30 (M := 10000) (by omega) hn30 (by omega) (by omega) (fun i hi => (bx i hi).2.1.mul (bx i hi).2.1 (by omega) (by omega))
  have s7 : Bd (smF (tmT σ (lsT σ e)) (st k) (st (k + 1) - st k)) 630000 := Bd.sm30 (M := 21000) (by omega) hn30 (by omega) (by omega) (fun i hi => (bx i hi).2.2)
  have s8 : Bd (smF (fun p => tmT σ (lsT σ e) p * xT σ p) (st k) (st (k + 1) - st k)) 63000000 := Bd.sm30 (M := 2100000) (by omega) hn30 (by omega) (by omega) (fun i hi => (bx i hi).2.2.mul (bx i hi).1 (by omega) (by omega))
  have s9 : Bd (smF (fun p => tmT σ (lsT σ e) p * yT σ p) (st k) (st (k + 1) - st k)) 63000000 := Bd.sm30 (M := 2100000) (by omega) hn30 (by omega) (by omega) (fun i hi => (bx i hi).2.2.mul (bx i hi).2.1 (by omega) (by omega))
  obtain ⟨bd, bc, bu, bv⟩ := sol_bd s1 s2 s3 s4 s5 s6 s7 s8 s9
  have fd : Bd (gL (ftT σ e) 28 10) 16200000000000 := by
    unfold ftT
    rw [hgp, B2, B3]
    exact bd
  have fc : Bd (gL (ftT σ e) 28 11) 340200000000000000 := by
    unfold ftT
    rw [hgp, B2, B3]
    exact bc
  have fu : Bd (gL (ftT σ e) 28 12) 3402000000000000 := by
    unfold ftT
    rw [hgp, B2, B3]
    exact bu
  have fv : Bd (gL (ftT σ e) 28 13) 3402000000000000 := by
    unfold ftT
    rw [hgp, B2, B3]
    exact bv
  rw [hτ] at fd fc fu fv
  have fx : Bd (xT τ (st k + j)) 100 := by rw [rx]; exact (bx j hj).1
  have fy : Bd (yT τ (st k + j)) 100 := by rw [ry]; exact (bx j hj).2.1
  have ft : Bd (gI τ (gP τ + 4) (st k + j) - gI τ 28 0).toInt64 21000 := by
    rw [g2, g3, g1 _ _ (by omega)]
    exact dif_bd (tb j hj) lb
  refine abL_pos (M := 2000000000000000000) ?_ (by omega)
  unfold erT
  rw [r1]
  exact (ft.mul (P := 400000000000000000) fd (by omega) (by omega)).sub ((fc.add (P := 700000000000000000) (fu.mul (P := 350000000000000000) fx (by omega) (by omega)) (by omega) (by omega)).add (P := 1100000000000000000) (fv.mul (P := 350000000000000000) fy (by omega) (by omega)) (by omega) (by omega)) (by omega) (by omega)
theorem prWorst {σ : Mem} (h : Inv σ) (e : Int32) : PRi spX9_worst spX10_worst [.int e] σ := by
  have h0 := h
  obtain ⟨nT, nH, nC, nD, ⟨hT, hH, hC, hD⟩, ⟨hS, hR, hX⟩, hE⟩ := h
  obtain ⟨b, nE, st, mh, hb, hgp, hc, hm⟩ := lat hE
  have hq := hasE hc hm e
  have hev : 0 ≤ e ∧ e < gI σ 42 30 → ∃ k, k < nE ∧ e = nI k := fun q => idx_of (n := nE) (by rw [← hm.1]; exact q) (by have := hc.1; omega)
  refine And.intro rfl (And.intro ?_ ?_)
  · show (gP σ = 30 ∨ gP σ = 36) ∧ (0 ≤ e ∧ e ≤ gI σ (gP σ) 0 - 1 → okF σ e ∧ ∀ τ, ftT σ e = τ → gP τ = gP σ ∧ gI τ (gP σ + 1) (rI e) = gI σ (gP σ + 1) (rI e) ∧ gI τ (gP σ + 1) (rI (e + 1)) = gI σ (gP σ + 1) (rI (e + 1)) ∧ ∀ i, i < nB σ (gP σ + 1) e → okT τ e (nI i))
    rw [hgp]
    refine ⟨hb, fun q => ?_⟩
    obtain ⟨k, hk, hw⟩ := hev (hq.mp q)
    obtain ⟨okf, FR⟩ := fr_all h0 hT hH hb hgp hc hm hk hw
    refine ⟨okf, fun τ hτ => ?_⟩
    obtain ⟨g1, g2, -⟩ := FR τ hτ
    refine ⟨g2, g1 _ _ (by omega), g1 _ _ (by omega), fun i hi => ?_⟩
    obtain ⟨B1, B2, B3⟩ := hc.okB hk
    rw [hw, B3] at hi
    exact (er_eq h0 hT hH hb hgp hc hm hk hw hτ rfl hi).1
  · intro r τ hr
    have hr : (¬ (0 ≤ e ∧ e ≤ gI σ (gP σ) 0 - 1) ∧ r = some (.int (-1)) ∧ τ = σ) ∨ ((0 ≤ e ∧ e ≤ gI σ (gP σ) 0 - 1) ∧ ftT σ e = τ ∧ r = some (.int (if gL τ 28 10 = 0 then -9 else (wsF (fun i => abL (erT τ e (nI i))) 0 (nB σ (gP σ + 1) e)).1))) := hr
    rw [hgp, hq] at hr
    rcases hr with ⟨q, rfl, rfl⟩ | ⟨q, hτ, rfl⟩
    · refine ⟨_, rfl, And.intro rfl (And.intro (fun z => absurd z q) ?_)⟩
      intro r ρ hr
      rcases hr with ⟨-, rfl, rfl⟩ | ⟨z, -⟩
      · exact ⟨rfl, h0⟩
      · exact absurd z q
    · obtain ⟨k, hk, hw⟩ := hev q
      obtain ⟨okf, FR⟩ := fr_all h0 hT hH hb hgp hc hm hk hw
      obtain ⟨g1, g2, g3, g4, g5, g6⟩ := FR τ hτ
      obtain ⟨B1, B2, B3⟩ := hc.okB hk
      obtain ⟨M1, M2, M3⟩ := EvM.okB hc hm hk
      have hlen := hc.2.2.2.1 k hk
      rw [← hw] at B1 B2 B3 M1 M2 M3
      have nm : nB τ 65 e = st (k + 1) - st k := (okB_congr g1 (a := 65) (by decide) e).2.2.trans M3
      refine ⟨_, rfl, And.intro rfl (And.intro ?_ ?_)⟩
      · intro _
        refine ⟨g4, fun ρ hρ => ?_⟩
        obtain ⟨k1, k2, k3, k4, k5, k6⟩ := g6 ρ hρ
        refine ⟨k2 _ _, k2 _ _, fun i hi => ?_⟩
        rw [nm] at hi
        exact (er_eq h0 hT hH hb hgp hc hm hk hw hτ hρ hi).2.1
      · intro r ρ hr
        have hr : (¬ (0 ≤ e ∧ e < gI τ 42 30) ∧ r = some (.int (-1)) ∧ ρ = τ) ∨ ((0 ≤ e ∧ e < gI τ 42 30) ∧ ftI τ (lsM τ e) (sB τ 65 e) (nB τ 65 e) = ρ ∧ r = some (.int (if gL ρ 71 0 = 0 then -9 else (wsF (fun i => abL (erM ρ e (nI i))) (-1) (nB τ 65 e)).1))) := hr
        rw [g1 42 _ (by decide)] at hr
        rcases hr with ⟨z, -⟩ | ⟨-, hρ, rfl⟩
        · exact absurd q z
        obtain ⟨k1, k2, k3, k4, k5, k6⟩ := g6 ρ hρ
        refine ⟨?_, k1⟩
        congr 2
        rw [k3, nm, B3]
        split
        · rfl
        · have hpos := er_bd h0 hT hH hb hgp hc hm hk hw hτ (j := 0) (by omega)
          rw [wsF_congr (g := fun i => abL (erT τ e (nI i))) (fun i hi => congrArg abL (er_eq h0 hT hH hb hgp hc hm hk hw hτ hρ hi).2.2.1), wsF_eq (f := fun i => abL (erT τ e (nI i))) hpos _ (by omega)]
