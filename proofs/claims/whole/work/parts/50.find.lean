def csX9_findEvents : Cs := [(233, 1, true, spX9_collectHits), (242, 4, true, spX4_gather), (246, 1, true, spX4_findFirsts), (249, 2, true, spX4_keep)]
def S2 (k _j : Nat) : Prop := 21 ≤ k ∧ k ≤ 27
def SE (b k j : Nat) : Prop := S2 k j ∨ SKb b k j
def RLD (D : Dat) (τ : Mem) : Prop := LKD D τ (gI τ 29 1 * gI τ 29 1) ∧ (gI τ 29 0).toInt = dW D ∧ gI τ 29 2 = nI (lsD D) ∧ lsD D ≤ 12
theorem RLD.fr {D : Dat} {S : Nat → Nat → Prop} {τ τ' : Mem} (h : RLD D τ) (f : Fr S τ τ') (hS : ∀ k j, S k j → ¬ (k = 2 ∨ k = 3 ∨ k = 29)) : RLD D τ' := by
  obtain ⟨h1, h2, h3, h4⟩ := h
  have g : ∀ j, gI τ' 29 j = gI τ 29 j := fun j => f.1 _ _ (fun z => hS _ _ z (by omega))
  refine ⟨?_, by rw [g]; exact h2, by rw [g]; exact h3, h4⟩
  rw [g]
  exact h1.fr f (fun k j z y => hS k j z (by omega))
theorem GG.size {D : Dat} {m : Nat} {pl : Nat → Nat} {T0 : Nat → Prop} {s : Nat} {τ : Mem} {n : Nat} {gr : Nat → Nat} (h : GG D m pl T0 s τ n gr) (ok : okD D) (hP : PL D τ m pl) (hs : s < m) : n = szG D (pl s) := by
  have cts := (hP.2.2.1 s hs).2.2.2
  have e := ctN_map (f := fun i => pl (gr i)) (N := nHD D) (fun _ => true) (m := n) (fun i hi => ok.2.1 _ (hP.2.2.1 (gr i) (h.1.2.1 i hi).2.1).2.2.2) (fun i j hi hj z => h.1.2.2.1 i j hi hj (hP.ne (h.1.2.1 i hi).2.1 (h.1.2.1 j hj).2.1 z))
  rw [ctN_all] at e
  refine e.trans (ctN_congr (fun x hx => ?_))
  show (true && (List.range n).any (fun i => pl (gr i) == x)) = inG D (pl s) x
  rw [Bool.true_and, Bool.eq_iff_iff, inG_iff, List.any_eq_true]
  constructor
  · rintro ⟨i, i1, i2⟩
    have i1 := List.mem_range.mp i1
    have i2 : pl (gr i) = x := by simpa using i2
    rw [← i2]
    exact (h.2 _ (h.1.2.1 i i1).2.1).mp ⟨i, i1, rfl⟩
  · intro c
    obtain ⟨p, p1, p2⟩ := hP.2.2.2.2 x (c.ct cts)
    rw [← p2] at c
    obtain ⟨i, i1, i2⟩ := (h.2 p p1).mpr c
    exact ⟨i, List.mem_range.mpr i1, by simp [i2, p2]⟩
theorem TS.congr {τ : Mem} {m : Nat} {T T' : Nat → Prop} (h : TS τ m T) (e : ∀ p, p < m → (T p ↔ T' p)) : TS τ m T' := fun p hp => by rw [← e p hp]; exact h p hp
/-- what has been found ahead of seed s -/
def FE (D : Dat) (m : Nat) (pl : Nat → Nat) (s : Nat) (F : Nat → Nat) (e : Nat) : Prop := (∀ i j, i < j → j < e → ahd D (F i) (F j)) ∧ (∀ f, (∃ p, p < s ∧ pl p = f ∧ isE D f) ↔ ∃ i, i < e ∧ F i = f) ∧ e ≤ s
theorem FE.ev {D : Dat} {m : Nat} {pl : Nat → Nat} {s : Nat} {F : Nat → Nat} {e : Nat} (h : FE D m pl s F e) {i : Nat} (hi : i < e) : isE D (F i) := by
  obtain ⟨p, p1, p2, p3⟩ := (h.2.1 (F i)).mpr ⟨i, hi, rfl⟩
  exact p3
theorem FE.skip {D : Dat} {m : Nat} {pl : Nat → Nat} {s : Nat} {F : Nat → Nat} {e : Nat} (h : FE D m pl s F e) (hn : ¬ isE D (pl s)) : FE D m pl (s + 1) F e := by
  obtain ⟨h1, h2, h3⟩ := h
  refine ⟨h1, fun f => ?_, by omega⟩
  rw [← h2 f]
  constructor
  · rintro ⟨p, p1, p2, p3⟩
    rcases Nat.lt_or_ge p s with y | y
    · exact ⟨p, y, p2, p3⟩
    · have : p = s := by omega
      rw [this] at p2
      rw [← p2] at p3
      exact absurd p3 hn
  · rintro ⟨p, p1, p2, p3⟩
    exact ⟨p, by omega, p2, p3⟩
theorem FE.add {D : Dat} {τ : Mem} {m : Nat} {pl : Nat → Nat} {s : Nat} {F : Nat → Nat} {e : Nat} (h : FE D m pl s F e) (hP : PL D τ m pl) (hs : s < m) (hy : isE D (pl s)) : FE D m pl (s + 1) (ups F e (pl s)) (e + 1) := by
  have h0 := h
  obtain ⟨h1, h2, h3⟩ := h
  refine ⟨fun i j hij hj => ?_, fun f => ?_, by omega⟩
  · rw [ups_of (by omega)]
    by_cases c : j = e
    · rw [c, ups_at]
      obtain ⟨p, p1, p2, -⟩ := (h2 (F i)).mpr ⟨i, by omega, rfl⟩
      rw [← p2]
      exact hP.2.2.2.1 p s p1 hs
    · rw [ups_of c]
      exact h1 i j hij (by omega)
  · constructor
    · rintro ⟨p, p1, p2, p3⟩
      rcases Nat.lt_or_ge p s with y | y
      · obtain ⟨i, i1, i2⟩ := (h2 f).mp ⟨p, y, p2, p3⟩
        exact ⟨i, by omega, by rw [ups_of (by omega)]; exact i2⟩
      · have : p = s := by omega
        rw [this] at p2
        exact ⟨e, by omega, by rw [ups_at]; exact p2⟩
    · rintro ⟨i, i1, i2⟩
      by_cases c : i = e
      · rw [c, ups_at] at i2
        exact ⟨s, by omega, i2, by rw [← i2]; exact hy⟩
      · rw [ups_of c] at i2
        obtain ⟨p, p1, p2, p3⟩ := (h2 f).mpr ⟨i, by omega, i2⟩
        exact ⟨p, by omega, p2, p3⟩
def spX9_findEvents : SP := G [(2, [0]), (0, []), (0, [])] (fun vs τ K => ∃ (D : Dat) (lo kp : Int32) (b : Nat), vs = [.ref 0, .int lo, .int kp] ∧ (b = 30 ∨ b = 36) ∧ gP τ = b ∧ okD D ∧ DX D τ lo ∧ RLD D τ ∧ (kp = 0 ∨ kp = 1) ∧ (kp = 1 → BD D τ b (fun _ => 0) 0) ∧ ∀ τ' F n, n ≤ 240 → evS D F n → Fr (SE b) τ τ' → (kp = 0 → Fr S2 τ τ') → (kp = 1 → BD D τ' b F n) → K (some (.int (nI n))) τ')
theorem mnX9_findEvents : Mono spX9_findEvents := fun vs σ K1 K2 hK h => by
  obtain ⟨h1, D, lo, kp, b, g1, g2, g3, g4, g5, g6, g7, g8, g9⟩ := h
  exact ⟨h1, D, lo, kp, b, g1, g2, g3, g4, g5, g6, g7, g8, fun τ' F n q1 q2 q3 q4 q5 => hK _ _ (g9 τ' F n q1 q2 q3 q4 q5)⟩
set_option maxHeartbeats 4000000 in
theorem bdX9_findEvents : Body 6 pgX9_findEvents roM csX9_findEvents lcX9 false spX9_findEvents := by
  intro vs τ K h Ok hst
  obtain ⟨-, D, lo, kp, b, rfl, hb, hgp, ok, hD, hR, hkp, hBD, hk⟩ := h
  have r0 : rI 0 = 0 := by decide
  have r1 : rI 1 = 1 := by decide
  have r2 : rI 2 = 2 := by decide
  have v04 : vp_in 0 4 := inI (n := 0) (by decide) (by decide)
  have v14 : vp_in 1 4 := inI (n := 1) (by decide) (by decide)
  have v24 : vp_in 2 4 := inI (n := 2) (by decide) (by decide)
  have main : ∀ (m : Nat) (pl : Nat → Nat) (τ1 : Mem), PL D τ1 m pl → ∀ d s e F τ', s + d = m → Fr (SE b) τ τ' → (kp = 0 → Fr S2 τ τ') → (kp = 1 → BD D τ' b F e) → PL D τ' m pl → TS τ' m (fun p => ∃ s', s' < s ∧ cc D (pl s') (pl p)) → FE D m pl s F e → ∀ x5, Ok 7 [some (.ref 0), some (.int lo), some (.int kp), some (.int (nI e)), some (.int (nI s)), x5] [] τ' := by
    intro m pl τ1 hPL1 d
    have hm := hPL1.2.1
    induction d with
    | zero =>
      intro s e F τ' hs hF h0 h1 hPL hTS hFE x5
      have es : s = m := by omega
      subst es
      have le : gI τ' 21 4 ≤ nI s := by rw [hPL.1]; exact Int32.le_refl _
      have ev : evS D F e := ⟨hFE.1, fun f => by
        rw [← hFE.2.1 f]
        constructor
        · intro hf
          obtain ⟨p, p1, p2⟩ := hPL.2.2.2.2 f hf.1
          exact ⟨p, p1, p2, hf⟩
        · rintro ⟨p, p1, p2, p3⟩
          exact p3⟩
      have fk := hk τ' F e (by have := hFE.2.2; omega) ev hF h0 h1
      refine hst [7] 60 _ _ _ _ ?_
      exact br_t le fk
    | succ d ih =>
      intro s e F τ' hs hF h0 h1 hPL hTS hFE x5
      have hsm : s < m := by omega
      have nle : ¬ gI τ' 21 4 ≤ nI s := by rw [hPL.1]; exact nI_ge (by omega) (by omega)
      have vs : vp_in (nI s) 240 := inI (by omega) (by decide)
      have rs : rI (nI s) = s := rI_nI (by omega)
      have cts := (hPL.2.2.1 s hsm).2.2.2
      rcases hTS s hsm with ⟨t1, t2⟩ | ⟨t1, t2⟩
      · -- a new group
        have led_s : led D (pl s) := by
          intro x c
          obtain ⟨p, p1, p2⟩ := hPL.2.2.2.2 x (c.ct cts)
          rw [← p2] at c ⊢
          rcases Nat.lt_trichotomy p s with y | y | y
          · exact absurd ⟨p, y, c.symm ok⟩ t2
          · exact Or.inl (by rw [y])
          · exact Or.inr (hPL.2.2.2.1 s p y p1)
        have c0 : gI τ' 25 (rI (nI s)) = 0 := by rw [rs]; exact t1
        have SEr : ∀ k j, SE b k j → ¬ (k = 2 ∨ k = 3 ∨ k = 29) := fun k j z => by unfold SE S2 SKb at z; omega
        have hR' := hR.fr hF SEr
        have tail : ∀ e2 F2 τ3 x5, Fr (SE b) τ τ3 → (kp = 0 → Fr S2 τ τ3) → (kp = 1 → BD D τ3 b F2 e2) → PL D τ3 m pl → TS τ3 m (fun p => ∃ s', s' < s + 1 ∧ cc D (pl s') (pl p)) → FE D m pl (s + 1) F2 e2 → Ok 7 [some (.ref 0), some (.int lo), some (.int kp), some (.int (nI e2)), some (.int (nI s + 1)), x5] [] τ3 := by
          intro e2 F2 τ3 x5 a1 a2 a3 a4 a5 a6
          rw [nI_1]
          exact ih (s + 1) e2 F2 τ3 (by omega) a1 a2 a3 a4 a5 a6 x5
        have call1 : spX4_gather [.ref 21, .int (nI s), .ref 1, .int (gI τ' 29 (rI 0)), .int (gI τ' 29 (rI 1))] τ' (fun v σ' => ∃ n, v = some (.int (nI n)) ∧ Ok 34 [some (.ref 0), some (.int lo), some (.int kp), some (.int (nI e)), some (.int (nI s)), some (.int (nI n))] [] σ') := by
          rw [r0, r1]
          refine And.intro rfl ⟨D, m, s, pl, _, _, _, rfl, ok, hPL, hTS, fun p q hp hq ⟨s', z1, z2⟩ rr => ⟨s', z1, z2.step rr⟩, hR'.1, hR'.2.1, hsm, t2, fun τ2 n gr hG hF2 => ⟨n, rfl, ?_⟩⟩
          have pl2 := hPL.fr hF2 SG_pl
          have hR2 := hR'.fr hF2 (fun k j z => by unfold SG at z; omega)
          have hn := hG.size ok pl2 hsm
          have fr2 : Fr (SE b) τ τ2 := hF.trans (hF2.mono (fun k j z => by unfold SG at z; unfold SE S2; omega))
          have f02 : kp = 0 → Fr S2 τ τ2 := fun z => (h0 z).trans (hF2.mono (fun k j z => by unfold SG at z; unfold S2; omega))
          have ts2 : TS τ2 m (fun p => ∃ s', s' < s + 1 ∧ cc D (pl s') (pl p)) := by
            refine TS.congr (T := tkn (fun p => ∃ s', s' < s ∧ cc D (pl s') (pl p)) gr n) hG.1.2.2.2 (fun p hp => ?_)
            unfold tkn
            rw [hG.2 p hp]
            constructor
            · rintro (⟨s', z1, z2⟩ | z)
              · exact ⟨s', by omega, z2⟩
              · exact ⟨s, by omega, z⟩
            · rintro ⟨s', z1, z2⟩
              rcases Nat.lt_or_ge s' s with y | y
              · exact Or.inl ⟨s', y, z2⟩
              · have : s' = s := by omega
                rw [this] at z2
                exact Or.inr z2
          have call2 : spX4_findFirsts [.ref 21, .int (nI n)] τ2 (fun v σ' => ∃ k, v = some (.int (nI k)) ∧ (gI σ' 29 (rI 2) ≤ nI k → Ok 44 [some (.ref 0), some (.int lo), some (.int kp), some (.int (nI e)), some (.int (nI s)), some (.int (nI n))] [] σ') ∧ (¬ gI σ' 29 (rI 2) ≤ nI k → Ok 53 [some (.ref 0), some (.int lo), some (.int kp), some (.int (nI e)), some (.int (nI s)), some (.int (nI n))] [] σ')) := by
            rw [r2]
            refine And.intro rfl ⟨D, m, s, n, pl, gr, _, rfl, ok, pl2, hG, hsm, fun τ3 hF3 hFT => ⟨nk D (pl s), rfl, ?_⟩⟩
            have S27r : ∀ k j, S27 k j → ¬ (k = 22 ∨ k = 23 ∨ k = 24 ∨ (k = 21 ∧ j = 4)) := fun k j z => by unfold S27 at z; omega
            have pl3 := pl2.fr hF3 S27r
            have hR3 := hR2.fr hF3 (fun k j z => by unfold S27 at z; omega)
            have nk30 : nk D (pl s) ≤ 30 := Nat.le_trans (ctN_le _ _) ok.1.1
            have hls := hR3.2.2.2
            have fr3 : Fr (SE b) τ τ3 := fr2.trans (hF3.mono (fun k j z => by unfold S27 at z; unfold SE S2; omega))
            have f03 : kp = 0 → Fr S2 τ τ3 := fun z => (f02 z).trans (hF3.mono (fun k j z => by unfold S27 at z; unfold S2; omega))
            have ts3 : TS τ3 m (fun p => ∃ s', s' < s + 1 ∧ cc D (pl s') (pl p)) := fun p hp => by
              rw [hF3.1 _ _ (fun z => by unfold S27 at z; omega)]
              exact ts2 p hp
            have bd3 : kp = 1 → BD D τ3 b F e := fun z => ((h1 z).fr hF2 (fun k j z => by unfold SG at z; omega)).fr hF3 (fun k j z => by unfold S27 at z; omega)
            rw [hR3.2.2.1]
            refine ⟨fun c => ?_, fun c => ?_⟩
            · have yes : isE D (pl s) := ⟨cts, led_s, (nI_leI (by omega) (by omega)).mp c⟩
              have fe := hFE.add hPL hsm yes
              have he := hFE.2.2
              rcases hkp with rfl | rfl
              · refine hst [7] 60 _ _ _ _ ?_
                have tl := tail (e + 1) (ups F e (pl s)) τ3 (some (.int (nI n))) fr3 f03 (fun z => absurd z (by decide)) pl3 ts3 fe
                rw [← nI_1] at tl
                exact br_t rfl tl
              · have hgp3 : gP τ3 = b := fr3.2.2.1.trans hgp
                have dis : ∀ i j, i < j → j < e + 1 → ¬ cc D (ups F e (pl s) i) (ups F e (pl s) j) := fun i j hij hj c => by
                  have l1 := (fe.ev (i := i) (by omega)).2.1
                  have l2 := (fe.ev hj).2.1
                  have := l1.uniq ok l2 c
                  have o := fe.1 i j hij hj
                  rw [this] at o
                  exact o.irr
                have cts2 : ∀ i, i < e + 1 → dC D (ups F e (pl s) i) = true := fun i hi => (fe.ev hi).1
                have s240 := stF_240 ok cts2 dis
                have hH := ok.1.2
                have call3 : spX4_keep [.ref 21, .ref (gP τ3), .int (nI n)] τ3 (fun _ σ' => Ok 53 [some (.ref 0), some (.int lo), some (.int 1), some (.int (nI e + 1)), some (.int (nI s)), some (.int (nI n))] [] σ') := by
                  rw [hgp3]
                  refine And.intro (by rcases hb with rfl | rfl <;> rfl) ⟨D, m, b, e, pl, ups F e (pl s), by rw [ups_at, ← hn], hb, ok, pl3, by rw [ups_at]; exact hFT, (bd3 rfl).congr (fun i hi => (ups_of (by omega)).symm), by omega, fun i hi => dis i e hi (by omega), fun i hi => cts2 i (by omega), by omega, fun τ4 hF4 hB4 => ?_⟩
                  have SKr : ∀ k j, SKb b k j → ¬ (k = 22 ∨ k = 23 ∨ k = 24 ∨ (k = 21 ∧ j = 4)) := fun k j z => by unfold SKb at z; omega
                  have pl4 := pl3.fr hF4 SKr
                  have ts4 : TS τ4 m (fun p => ∃ s', s' < s + 1 ∧ cc D (pl s') (pl p)) := fun p hp => by
                    rw [hF4.1 _ _ (fun z => by unfold SKb at z; omega)]
                    exact ts3 p hp
                  have tl := tail (e + 1) (ups F e (pl s)) τ4 (some (.int (nI n))) (fr3.trans (hF4.mono (fun k j z => Or.inr z))) (fun z => absurd z (by decide)) (fun _ => hB4) pl4 ts4 fe
                  rw [← nI_1] at tl
                  refine hst [7] 60 _ _ _ _ ?_
                  exact tl
                refine hst [53] 60 _ _ _ _ ?_
                exact br_f ne10 (And.intro (Nat.le_of_ble_eq_true rfl) call3)
            · have no : ¬ isE D (pl s) := fun z => c (nI_le z.2.2 (by omega))
              refine hst [7] 60 _ _ _ _ ?_
              exact tail e F τ3 _ fr3 f03 bd3 pl3 ts3 (hFE.skip no)
          refine hst [44, 53] 60 _ _ _ _ ?_
          refine And.intro (Nat.le_of_ble_eq_true rfl) (mnX4_findFirsts _ _ _ _ (fun v σ' y => ?_) call2)
          obtain ⟨k, rfl, y1, y2⟩ := y
          exact And.intro v24 (And.intro y1 y2)
        refine hst [7, 34] 60 _ _ _ _ ?_
        refine br_f nle (And.intro vs (br_t c0 (And.intro v04 (And.intro v14 (And.intro (Nat.le_of_ble_eq_true rfl) (mnX4_gather _ _ _ _ (fun v σ' y => ?_) call1))))))
        obtain ⟨n, rfl, y⟩ := y
        exact y
      · -- taken before
        have c0 : ¬ gI τ' 25 (rI (nI s)) = 0 := by rw [rs, t1]; decide
        have no : ¬ isE D (pl s) := fun z => by
          obtain ⟨s', s1, s2⟩ := t2
          rcases z.2.1 (pl s') (s2.symm ok) with y | y
          · have := hPL.ne (by omega) hsm y
            omega
          · exact y.asym (hPL.2.2.2.1 s' s s1 hsm)
        have ts' : TS τ' m (fun p => ∃ s', s' < s + 1 ∧ cc D (pl s') (pl p)) := hTS.congr (fun p hp => by
          constructor
          · rintro ⟨s', z1, z2⟩
            exact ⟨s', by omega, z2⟩
          · rintro ⟨s', z1, z2⟩
            rcases Nat.lt_or_ge s' s with y | y
            · exact ⟨s', y, z2⟩
            · have : s' = s := by omega
              rw [this] at z2
              obtain ⟨s0, y1, y2⟩ := t2
              exact ⟨s0, y1, y2.trans z2⟩)
        have nx := ih (s + 1) e F τ' (by omega) hF h0 h1 hPL ts' (hFE.skip no) x5
        rw [← nI_1] at nx
        refine hst [7] 60 _ _ _ _ ?_
        exact br_f nle (And.intro vs (br_f c0 nx))
  refine hst [7] 60 _ _ _ _ ?_
  refine And.intro (Nat.le_of_ble_eq_true rfl) (And.intro rfl ⟨D, lo, rfl, ok, hD, fun τ1 m pl f1 hPL hTS => ?_⟩)
  have SCr : ∀ k j, SC k j → SE b k j := fun k j z => by unfold SC at z; unfold SE S2; omega
  have SC2 : ∀ k j, SC k j → S2 k j := fun k j z => by unfold SC at z; unfold S2; omega
  refine main m pl τ1 hPL m 0 0 (fun _ => 0) τ1 (Nat.zero_add _) (f1.mono SCr) (fun _ => f1.mono SC2) (fun z => (hBD z).fr f1 (fun k j z => by unfold SC at z; omega)) hPL (hTS.congr (fun p hp => ⟨False.elim, fun ⟨s', z, _⟩ => absurd z (Nat.not_lt_zero s')⟩)) ⟨fun i j _ hj => absurd hj (Nat.not_lt_zero j), fun f => ⟨fun ⟨p, z, _⟩ => absurd z (Nat.not_lt_zero p), fun ⟨i, z, _⟩ => absurd z (Nat.not_lt_zero i)⟩, Nat.le_refl _⟩ none
