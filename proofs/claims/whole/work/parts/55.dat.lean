/-! the numbers of a memory that holds the invariant -/
theorem sqT_comm (σ : Mem) (a b : Nat) : sqT σ a b = sqT σ b a := by unfold sqT; grind
def datO (σ : Mem) (lo : Int32) (nT nH : Nat) : Dat := (tprT σ, fun h => rI (gI σ 5 h), fun h => decide (h < nH) && !decide (gI σ 5 h = lo) && decide (gI σ 29 3 ≤ amT (gI σ 7 h) (gI σ 8 h)) && !dwB σ h, (gI σ 29 0).toInt, fun a b => sqT σ a b ≤ gI σ 29 1 * gI σ 29 1, nT, nH, rI (gI σ 29 2))
theorem datO_C {σ : Mem} {lo : Int32} {nT nH h : Nat} : dC (datO σ lo nT nH) h = true ↔ h < nH ∧ ¬ gI σ 5 h = lo ∧ gI σ 29 3 ≤ amT (gI σ 7 h) (gI σ 8 h) ∧ ¬ dwnT σ h := by
  show (decide (h < nH) && !decide (gI σ 5 h = lo) && decide (gI σ 29 3 ≤ amT (gI σ 7 h) (gI σ 8 h)) && !dwB σ h) = true ↔ _
  unfold dwB dwnT
  simp [Bool.and_eq_true, and_assoc]
theorem fastF_bd {tk fr vl : Nat → Int32} {t tm : Int32} : ∀ {n : Nat}, (∀ i, i < n → -500 ≤ vl i ∧ vl i ≤ 500) → -500 ≤ fastF tk fr vl t tm n ∧ fastF tk fr vl t tm n ≤ 500
  | 0, _ => by
    show (-500 : Int32) ≤ 0 ∧ (0 : Int32) ≤ 500
    decide
  | n + 1, h => by
    have e : fastF tk fr vl t tm (n + 1) = if tk n = t ∧ fr n ≤ tm then vl n else fastF tk fr vl t tm n := rfl
    rw [e]
    split
    · exact h n (Nat.lt_succ_self n)
    · exact fastF_bd (fun i hi => h i (Nat.lt_succ_of_lt hi))
theorem tpr_bd {σ : Mem} {nT nH nC : Nat} (hH : IH σ nT nH) (hC : IC σ nC) {h : Nat} (hh : h < nH) : -500 ≤ (tprT σ h).toInt ∧ (tprT σ h).toInt ≤ 20500 := by
  obtain ⟨-, ho⟩ := hH.2.2.2 h hh
  obtain ⟨-, -, e1, -⟩ := cnC hC
  have b := fastF_bd (tk := gI σ 10) (fr := gI σ 11) (t := gI σ 5 h) (tm := gI σ 6 h) (fun i hi => (hC.2.2.2 i hi).2.2.2)
  rw [leI, leI] at b
  have a := ho.2.1
  rw [leI, leI] at a
  have c1 : (-500 : Int32).toInt = -500 := by decide
  have c2 : (500 : Int32).toInt = 500 := by decide
  have d1 : (0 : Int32).toInt = 0 := by decide
  have d2 : (20000 : Int32).toInt = 20000 := by decide
  unfold tprT
  rw [e1, Int32.toInt_sub, bm32 (by omega) (by omega)]
  omega
theorem rule_nat {σ : Mem} (hR : IR σ) : (1 ≤ (gI σ 29 0).toInt ∧ (gI σ 29 0).toInt ≤ 300) ∧ gI σ 29 2 = nI (rI (gI σ 29 2)) ∧ 1 ≤ rI (gI σ 29 2) ∧ rI (gI σ 29 2) ≤ 12 := by
  obtain ⟨-, a1, a2⟩ := hR 0 (by decide)
  obtain ⟨-, b1, b2⟩ := hR 2 (by decide)
  have a1 : (1 : Int32) ≤ gI σ 29 0 := a1
  have a2 : gI σ 29 0 ≤ 300 := a2
  have b1 : (1 : Int32) ≤ gI σ 29 2 := b1
  have b2 : gI σ 29 2 ≤ 12 := b2
  obtain ⟨j, hj, ej⟩ := nI_of2 (n := 12) (by decide) (Int32.not_lt.mpr (Int32.le_trans (by decide) b1)) b2
  have rj : rI (gI σ 29 2) = j := by rw [ej]; exact rI_nI (by omega)
  rw [leI] at a1 a2
  refine ⟨⟨a1, a2⟩, by rw [rj]; exact ej, ?_, by omega⟩
  rw [rj]
  rw [ej] at b1
  exact (nI_leI (a := 1) (by omega) (by omega)).mp b1
theorem datO_ok {σ : Mem} {lo : Int32} {nT nH nC nD : Nat} (hA : IT σ nT ∧ IH σ nT nH ∧ IC σ nC ∧ ID σ nD) (hR : IR σ) : okD (datO σ lo nT nH) ∧ DX (datO σ lo nT nH) σ lo ∧ RLD (datO σ lo nT nH) σ := by
  obtain ⟨hT, hH, hC, hD⟩ := hA
  obtain ⟨hw, he, h1, h2⟩ := rule_nat hR
  have h30 := hT.1
  have rk : ∀ h, h < nH → gI σ 5 h = nI (rI (gI σ 5 h)) ∧ rI (gI σ 5 h) < nT := fun h hh => by
    obtain ⟨-, ⟨j, j1, j2⟩, -⟩ := hH.2.2.2 h hh
    have : rI (gI σ 5 h) = j := by rw [j2]; exact rI_nI (by omega)
    rw [this]
    exact ⟨j2, j1⟩
  refine ⟨⟨⟨hT.1, hH.1⟩, fun h hc => (datO_C.mp hc).1, fun h hh => ⟨(rk h hh).2, tpr_bd hH hC hh⟩, fun a b z => ?_, ⟨?_, hw.2⟩, h1⟩, ⟨hH.2.1, (cnC hC).1, (cnD hD).1, fun h hh => ⟨(rk h hh).1, rfl, ?_⟩⟩, ⟨fun a b ha hb => ?_, rfl, he, h2⟩⟩
  · show sqT σ b a ≤ gI σ 29 1 * gI σ 29 1
    rw [sqT_comm]
    exact z
  · show 0 ≤ (gI σ 29 0).toInt
    omega
  · rw [datO_C]
    exact ⟨fun z => z.2, fun z => ⟨hh, z⟩⟩
  · show sqT σ a b ≤ _ ↔ sqT σ b a ≤ _
    rw [sqT_comm]
theorem datO_M {σ : Mem} {lo lo' : Int32} {nT nH nC nD : Nat} (hA : IT σ nT ∧ IH σ nT nH ∧ IC σ nC ∧ ID σ nD) (hR : IR σ) (hl : ∀ h, h < nH → (gI σ 5 h = lo ↔ gI σ 5 h = lo')) : RM (datO σ lo nT nH) σ ∧ DXM (datO σ lo nT nH) σ lo' := by
  have dx := (datO_ok (lo := lo) hA hR).2.1
  obtain ⟨hT, hH, hC, hD⟩ := hA
  obtain ⟨hw, he, h1, h2⟩ := rule_nat hR
  have e0 := (hR 0 (by decide)).1
  have e1 := (hR 1 (by decide)).1
  have e2 := (hR 2 (by decide)).1
  have e3 := (hR 3 (by decide)).1
  refine ⟨⟨fun a b ha hb => ?_, by rw [e0]; rfl, by rw [e2]; exact he, h2, hT.2.2.1, hH.2.2.1⟩, (cnC hC).2.1, (cnD hD).2.1, fun h hh => ?_⟩
  · have ha : a < nT := ha
    have hb : b < nT := hb
    rw [e1]
    show sqM σ a b ≤ _ ↔ sqT σ a b ≤ _
    unfold sqM sqT
    rw [(hT.2.2.2 a ha).1, (hT.2.2.2 a ha).2.1, (hT.2.2.2 b hb).1, (hT.2.2.2 b hb).2.1]
  · have hh : h < nH := hh
    obtain ⟨⟨a1, a2, a3, a4⟩, ho⟩ := hH.2.2.2 h hh
    obtain ⟨d1, -, -⟩ := dx.2.2.2 h hh
    refine ⟨by rw [a1]; exact d1, rt_eq hH hC hh, ?_⟩
    rw [datO_C, e3, a3, a4, am_eq ho, lk_iff hH hD hh, a1, hl h hh]
    unfold dwnT
    exact ⟨fun z => ⟨z.2.1, z.2.2.2, z.2.2.1⟩, fun z => ⟨hh, z.1, z.2.2, z.2.1⟩⟩
/-- a least hit -/
theorem least_ex (D : Dat) (P : Nat → Prop) : ∀ N, (∃ x, x < N ∧ P x) → ∃ y, y < N ∧ P y ∧ ∀ x, x < N → P x → x = y ∨ ahd D y x
  | 0, ⟨x, h, _⟩ => absurd h (Nat.not_lt_zero x)
  | N + 1, ⟨x, hx, px⟩ => by
    by_cases c : ∃ x, x < N ∧ P x
    · obtain ⟨y, y1, y2, y3⟩ := least_ex D P N c
      by_cases d : P N ∧ ahd D N y
      · refine ⟨N, by omega, d.1, fun x hx px => ?_⟩
        rcases Nat.lt_or_ge x N with w | w
        · rcases y3 x w px with u | u
          · rw [u]; exact Or.inr d.2
          · exact Or.inr (d.2.trans u)
        · exact Or.inl (by omega)
      · refine ⟨y, by omega, y2, fun x hx px => ?_⟩
        rcases Nat.lt_or_ge x N with w | w
        · exact y3 x w px
        · have e : x = N := by omega
          rw [e] at px ⊢
          rcases ahd.tot D y N with u | u | u
          · exact Or.inr u
          · exact Or.inl u.symm
          · exact absurd ⟨px, u⟩ d
    · refine ⟨x, hx, px, fun z hz pz => ?_⟩
      have : x = N := by
        rcases Nat.lt_or_ge x N with w | w
        · exact absurd ⟨x, w, px⟩ c
        · omega
      have : z = N := by
        rcases Nat.lt_or_ge z N with w | w
        · exact absurd ⟨z, w, pz⟩ c
        · omega
      exact Or.inl (by omega)
theorem bsr_ex {D : Dat} (ok : okD D) {f t : Nat} (hf : dC D f = true) (h : hsT D f t = true) : ∃ x, bsr D f t x := by
  obtain ⟨x, x1, x2⟩ := hsT_iff.mp h
  obtain ⟨y, -, y2, y3⟩ := least_ex D (fun x => cc D f x ∧ dK D x = t) (nHD D) ⟨x, ok.2.1 x (x1.ct hf), x1, x2⟩
  exact ⟨y, y2.1, y2.2, fun z z1 z2 => y3 z (ok.2.1 z (z1.ct hf)) ⟨z1, z2⟩⟩
theorem int_bd {x : Int32} (h1 : -500 ≤ x.toInt) (h2 : x.toInt ≤ 20500) : -500 ≤ x ∧ x ≤ 20500 := by
  rw [leI, leI]
  have c1 : (-500 : Int32).toInt = -500 := by decide
  have c2 : (20500 : Int32).toInt = 20500 := by decide
  omega
/-- what a building keeps is what the invariant asks for -/
theorem BD.evc {D : Dat} (ok : okD D) {τ : Mem} {b : Nat} {F : Nat → Nat} {n : Nat} (h : BD D τ b F n) (ev : evS D F n) (hn : n ≤ 240) : EvC τ b n (stF D F) (fun p => rI (gI τ (b + 3) p)) (nHD D) ∧ ∀ p, p < stF D F n → ∃ e t x, e < n ∧ bsr D (F e) t x ∧ p = stF D F e + ctN (hsT D (F e)) t ∧ rI (gI τ (b + 3) p) = x := by
  obtain ⟨h1, h2, h3, h4, h5⟩ := h
  have hH := ok.1.2
  have at' : ∀ p, p < stF D F n → ∃ e t x, e < n ∧ bsr D (F e) t x ∧ p = stF D F e + ctN (hsT D (F e)) t ∧ x < nHD D ∧ gI τ (b + 3) p = nI x ∧ gI τ (b + 4) p = dTm D x ∧ gI τ (b + 5) x = nI e ∧ rI (gI τ (b + 3) p) = x := by
    intro p hp
    obtain ⟨e, t, a1, a2, a3, a4⟩ := stF_pos hp
    obtain ⟨x, hx⟩ := bsr_ex ok (ev.ct a1) a3
    obtain ⟨m1, m2, m3⟩ := h4 e t x a1 hx
    have hxl := (hx.lt ok (ev.ct a1)).2
    rw [← a4] at m1 m2
    exact ⟨e, t, x, a1, hx, a4, hxl, m1, m2, m3, by rw [m1]; exact rI_nI (by omega)⟩
  have pos : ∀ e t x, e < n → bsr D (F e) t x → stF D F e + ctN (hsT D (F e)) t < stF D F n := fun e t x he hx => by
    have := nk_lt (hx.lt ok (ev.ct he)).1 hx.hs
    have m : stF D F e + nk D (F e) ≤ stF D F n := stF_mo (D := D) (F := F) (show e + 1 ≤ n by omega)
    omega
  refine ⟨⟨hn, h1, rfl, fun e he => ?_, Nat.le_trans (ev.le ok (Nat.le_refl n)) hH, h2, fun p hp => ?_, fun p q hp hq e => ?_, fun e p he hp1 hp2 => ?_, fun x hx hno => ?_⟩, fun p hp => ?_⟩
  · have l := ((ev.2 (F e)).mpr ⟨e, he, rfl⟩).2.2
    have l1 := ok.2.2.2.2.2
    have l2 : nk D (F e) ≤ nTD D := ctN_le _ _
    have l3 := ok.1.1
    show stF D F e < stF D F e + nk D (F e) ∧ stF D F e + nk D (F e) ≤ stF D F e + 30
    omega
  · obtain ⟨e, t, x, a1, a2, a3, a4, a5, a6, a7, a8⟩ := at' p hp
    refine ⟨?_, ?_, ?_⟩
    · show gI τ (b + 3) p = nI (rI (gI τ (b + 3) p))
      rw [a8]; exact a5
    · show rI (gI τ (b + 3) p) < nHD D
      rw [a8]; exact a4
    · rw [a6]
      have := (ok.2.2.1 x a4).2
      exact int_bd this.1 this.2
  · obtain ⟨e1, t1, x1, a1, a2, a3, -, -, -, a7, a8⟩ := at' p hp
    obtain ⟨e2, t2, x2, b1, b2, b3, -, -, -, b7, b8⟩ := at' q hq
    have e : rI (gI τ (b + 3) p) = rI (gI τ (b + 3) q) := e
    rw [a8, b8] at e
    subst e
    have ee : e1 = e2 := by
      rcases Nat.lt_trichotomy e1 e2 with w | w | w
      · exact absurd (a2.1.trans (b2.1.symm ok)) (ev.dis ok w b1)
      · exact w
      · exact absurd (b2.1.trans (a2.1.symm ok)) (ev.dis ok w a1)
    subst ee
    have et : t1 = t2 := a2.2.1.symm.trans b2.2.1
    subst et
    rw [a3, b3]
  · have hp : p < stF D F n := by
      have m : stF D F (e + 1) ≤ stF D F n := stF_mo (D := D) (F := F) (show e + 1 ≤ n by omega)
      omega
    obtain ⟨e1, t1, x1, a1, a2, a3, -, -, -, a7, a8⟩ := at' p hp
    show gI τ (b + 5) (rI (gI τ (b + 3) p)) = nI e
    rw [a8, a7]
    have lt := nk_lt (a2.lt ok (ev.ct a1)).1 a2.hs
    have ee : e1 = e := by
      rcases Nat.lt_trichotomy e1 e with w | w | w
      · have m : stF D F e1 + nk D (F e1) ≤ stF D F e := stF_mo (D := D) (F := F) (show e1 + 1 ≤ e by omega)
        omega
      · exact w
      · have m : stF D F (e + 1) ≤ stF D F e1 := stF_mo (D := D) (F := F) (show e + 1 ≤ e1 by omega)
        omega
    rw [ee]
  · refine h5 x hx (fun i t hi hb => ?_)
    have hp := pos i t x hi hb
    refine hno _ hp ?_
    show rI (gI τ (b + 3) _) = x
    rw [(h4 i t x hi hb).1]
    exact rI_nI (by omega)
  · obtain ⟨e, t, x, a1, a2, a3, -, -, -, -, a8⟩ := at' p hp
    exact ⟨e, t, x, a1, a2, a3, a8⟩
/-- and the reference keeps the same -/
theorem KN.evm {D : Dat} (ok : okD D) {τ : Mem} {b : Nat} {F : Nat → Nat} {n : Nat} (h : BD D τ b F n) (k : KN D τ F n) (ev : evS D F n) (hn : n ≤ 240) : EvM τ b n (stF D F) (fun p => rI (gI τ (b + 3) p)) := by
  have hx := (h.evc ok ev hn).2
  obtain ⟨k1, k2, k3, k4, k5⟩ := k
  refine ⟨k1, k2, k3, fun p hp => ?_, fun e he => ?_⟩
  · obtain ⟨e, t, x, a1, a2, a3, a4⟩ := hx p hp
    obtain ⟨m1, m2⟩ := k5 e t x a1 a2
    obtain ⟨n1, n2, n3⟩ := h.2.2.2.1 e t x a1 a2
    rw [← a3] at m1 m2 n1 n2
    refine ⟨?_, by rw [m2, n2]⟩
    show gI τ 66 p = nI (rI (gI τ (b + 3) p))
    rw [a4]; exact m1
  · rw [k4 e he, h.2.2.1 e he]
