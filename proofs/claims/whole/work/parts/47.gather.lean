def csX4_gather : Cs := [(38, 1, true, spX4_take), (42, 4, true, spX4_takeNear)]
/-- the group of seed s -/
def GG (D : Dat) (m : Nat) (pl : Nat → Nat) (T0 : Nat → Prop) (s : Nat) (τ : Mem) (n : Nat) (gr : Nat → Nat) : Prop := GS τ m T0 n gr ∧ ∀ p, p < m → ((∃ i, i < n ∧ gr i = p) ↔ cc D (pl s) (pl p))
def TS (τ : Mem) (m : Nat) (T0 : Nat → Prop) : Prop := ∀ p, p < m → (gI τ 25 p = 0 ∧ ¬ T0 p) ∨ (gI τ 25 p = 1 ∧ T0 p)
def spX4_gather : SP := G [(2, [21]), (0, []), (2, [1]), (0, []), (0, [])] (fun vs τ K => ∃ (D : Dat) (m s : Nat) (pl : Nat → Nat) (T0 : Nat → Prop) (w r : Int32), vs = [.ref 21, .int (nI s), .ref 1, .int w, .int r] ∧ okD D ∧ PL D τ m pl ∧ TS τ m T0 ∧ (∀ p q, p < m → q < m → T0 p → Rd D (pl p) (pl q) → T0 q) ∧ LKD D τ (r * r) ∧ w.toInt = dW D ∧ s < m ∧ ¬ T0 s ∧ ∀ τ' n gr, GG D m pl T0 s τ' n gr → Fr SG τ τ' → K (some (.int (nI n))) τ')
theorem mnX4_gather : Mono spX4_gather := fun vs σ K1 K2 hK h => by
  obtain ⟨h1, D, m, s, pl, T0, w, r, g1, g2, g3, g4, g5, g6, g7, g8, g9, g10⟩ := h
  exact ⟨h1, D, m, s, pl, T0, w, r, g1, g2, g3, g4, g5, g6, g7, g8, g9, fun τ' n gr q1 q2 => hK _ _ (g10 τ' n gr q1 q2)⟩
set_option maxHeartbeats 4000000 in
theorem bdX4_gather : Body 6 pgX4_gather roM csX4_gather lcX4 false spX4_gather := by
  intro vs τ K h Ok hst
  obtain ⟨-, D, m, s, pl, T0, w, r, rfl, ok, hPL, hTS, hcl, hLK, hw, hsm, hns, hk⟩ := h
  have hm := hPL.2.1
  have fin : ∀ τ' n gr, GS τ' m T0 n gr → Fr SG τ τ' → gr 0 = s → 0 < n → (∀ i, i < n → cc D (pl s) (pl (gr i))) → (∀ i, i < n → ∀ p, p < m → Rd D (pl (gr i)) (pl p) → tkn T0 gr n p) → K (some (.int (nI n))) τ' := by
    intro τ' n gr hG hF h0 hn hcc hcl2
    refine hk τ' n gr ⟨hG, fun p hp => ⟨fun ⟨i, i1, i2⟩ => ?_, fun c => ?_⟩⟩ hF
    · rw [← i2]; exact hcc i i1
    · have : ∃ i, i < n ∧ pl (gr i) = pl p := c.ind (P := fun h => ∃ i, i < n ∧ pl (gr i) = h) ⟨0, hn, by rw [h0]⟩ (fun c b ⟨i, i1, i2⟩ rr => by
        obtain ⟨q, q1, q2⟩ := hPL.2.2.2.2 b rr.2.1
        rw [← i2, ← q2] at rr
        rcases hcl2 i i1 q q1 rr with z | ⟨j, z1, z2⟩
        · exact absurd (hcl q (gr i) q1 (hG.2.1 i i1).2.1 z (rr.symm ok)) (hG.2.1 i i1).2.2
        · exact ⟨j, z1, by rw [z2]; exact q2⟩)
      obtain ⟨i, i1, i2⟩ := this
      exact ⟨i, i1, hPL.ne (hG.2.1 i i1).2.1 hp i2⟩
  have loop : ∀ d g τ' n gr, g + d = m → GS τ' m T0 n gr → Fr SG τ τ' → gr 0 = s → 0 < n → (∀ i, i < n → cc D (pl s) (pl (gr i))) → g ≤ n → (∀ i, i < g → ∀ p, p < m → Rd D (pl (gr i)) (pl p) → tkn T0 gr n p) → Ok 8 [some (.ref 21), some (.int (nI s)), some (.ref 1), some (.int w), some (.int r), some (.int (nI g))] [] τ' := by
    intro d
    induction d with
    | zero =>
      intro g τ' n gr hg hG hF h0 hn hcc hgn hcl2
      have hle := hG.le
      have e : g = n := by omega
      have le : gI τ' 21 6 ≤ nI g := by rw [hG.1, e]; exact Int32.le_refl _
      have fk := fin τ' n gr hG hF h0 hn hcc (fun i hi => hcl2 i (by omega))
      rw [← hG.1] at fk
      refine hst [8] 40 _ _ _ _ ?_
      exact br_t le fk
    | succ d ih =>
      intro g τ' n gr hg hG hF h0 hn hcc hgn hcl2
      have hle := hG.le
      by_cases e : g = n
      · have le : gI τ' 21 6 ≤ nI g := by rw [hG.1, e]; exact Int32.le_refl _
        have fk := fin τ' n gr hG hF h0 hn hcc (fun i hi => hcl2 i (by omega))
        rw [← hG.1] at fk
        refine hst [8] 40 _ _ _ _ ?_
        exact br_t le fk
      · have pl' := hPL.fr hF SG_pl
        have lk' := hLK.fr hF SG_lk
        have nle : ¬ gI τ' 21 6 ≤ nI g := by rw [hG.1]; exact nI_ge (by omega) (by omega)
        have nle2 : ¬ gI τ' 21 4 ≤ nI g := by rw [pl'.1]; exact nI_ge (by omega) (by omega)
        have vg : vp_in (nI g) 240 := inI (by omega) (by decide)
        have eg : gI τ' 26 (rI (nI g)) = nI (gr g) := by rw [rI_nI (by omega)]; exact (hG.2.1 g (by omega)).1
        have call : spX4_takeNear [.ref 21, .int (gI τ' 26 (rI (nI g))), .ref 1, .int w, .int (r * r)] τ' (fun _ σ' => Ok 8 [some (.ref 21), some (.int (nI s)), some (.ref 1), some (.int w), some (.int r), some (.int (nI g + 1))] [] σ') := by
          rw [eg]
          refine And.intro rfl ⟨D, m, n, gr g, pl, gr, T0, w, r * r, rfl, ok, pl', hG, lk', hw, (hG.2.1 g (by omega)).2.1, fun τ'' n'' gr'' hTN hnew => ?_⟩
          obtain ⟨t1, t2, t3, t4, t5⟩ := hTN
          have up : ∀ p, tkn T0 gr n p → tkn T0 gr'' n'' p := fun p z => by
            rcases z with z | ⟨i, z1, z2⟩
            · exact Or.inl z
            · exact Or.inr ⟨i, by omega, by rw [t3 i z1]; exact z2⟩
          rw [nI_1]
          refine ih (g + 1) τ'' n'' gr'' (by omega) t1 (hF.trans t5) (by rw [t3 0 hn]; exact h0) (by omega) (fun i hi => ?_) (by omega) (fun i hi p hp rr => ?_)
          · rcases Nat.lt_or_ge i n with y | y
            · rw [t3 i y]; exact hcc i y
            · exact (hcc g (by omega)).step (t4 i y hi)
          · rw [t3 i (by omega)] at rr
            rcases Nat.lt_or_ge i g with y | y
            · exact up p (hcl2 i y p hp rr)
            · have e2 : i = g := by omega
              rw [e2] at rr
              exact hnew p hp rr
        refine hst [8] 40 _ _ _ _ ?_
        exact br_f nle (br_f nle2 (And.intro vg (And.intro (Nat.le_of_ble_eq_true rfl) call)))
  have f1 : Fr SG τ (sI τ 21 6 0) := (Fr.refl SG τ).put (Or.inr (Or.inr ⟨rfl, rfl⟩))
  have g0 : GS (sI τ 21 6 0) m T0 0 (fun _ => 0) := by
    refine ⟨gI_on ⟨rfl, rfl⟩, fun i hi => absurd hi (Nat.not_lt_zero i), fun i j hi => absurd hi (Nat.not_lt_zero i), fun p hp => ?_⟩
    rw [gI_off (by omega)]
    have e : tkn T0 (fun _ => 0) 0 p ↔ T0 p := ⟨fun z => by
      rcases z with z | ⟨i, z, -⟩
      · exact z
      · exact absurd z (Nat.not_lt_zero i), Or.inl⟩
    rw [e]
    exact hTS p hp
  have ts : gI (sI τ 21 6 0) 25 s = 0 := by
    rw [gI_off (by omega)]
    rcases hTS s hsm with z | z
    · exact z.1
    · exact absurd z.2 hns
  obtain ⟨-, g2, g3⟩ := g0.take hm hsm ts
  have l0 := loop m 0 (tkM (sI τ 21 6 0) s) 1 (ups (fun _ => 0) 0 s) (Nat.zero_add _) g2 (f1.trans g3) (ups_at _ _ _) (by omega) (fun i hi => by
    have : i = 0 := by omega
    rw [this, ups_at]
    exact cc.refl D _) (by omega) (fun i hi => absurd hi (Nat.not_lt_zero i))
  refine hst [8] 40 _ _ _ _ ?_
  exact And.intro (Nat.le_of_ble_eq_true rfl) (And.intro rfl ⟨s, rfl, by omega, by rw [gI_on ⟨rfl, rfl⟩]; exact inI (n := 0) (by decide) (by decide), l0⟩)
def csX4_findFirsts : Cs := [(56, 2, false, spJ7_fill_53178)]
def S27 (k j : Nat) : Prop := k = 27 ∧ j < 30
def FT (D : Dat) (τ : Mem) (m : Nat) (pl : Nat → Nat) (f : Nat) : Prop := ∀ t, t < 30 → (gI τ 27 t = -9 ∧ hsT D f t = false) ∨ ∃ p, p < m ∧ gI τ 27 t = nI p ∧ bsr D f t (pl p)
def seenB (k : Nat → Nat) (g t : Nat) : Bool := (List.range g).any (fun i => k i == t)
theorem seenB_iff {k : Nat → Nat} {g t : Nat} : seenB k g t = true ↔ ∃ i, i < g ∧ k i = t := by
  unfold seenB
  rw [List.any_eq_true]
  constructor
  · rintro ⟨i, h1, h2⟩
    exact ⟨i, List.mem_range.mp h1, by simpa using h2⟩
  · rintro ⟨i, h1, h2⟩
    exact ⟨i, List.mem_range.mpr h1, by simpa using h2⟩
theorem seenB_no {k : Nat → Nat} {g t : Nat} (h : ¬ ∃ i, i < g ∧ k i = t) : seenB k g t = false := by
  cases e : seenB k g t with
  | false => rfl
  | true => exact absurd (seenB_iff.mp e) h
theorem seenB_ne {k : Nat → Nat} {g t : Nat} (h : k g ≠ t) : seenB k (g + 1) t = seenB k g t := by
  rw [Bool.eq_iff_iff, seenB_iff, seenB_iff]
  constructor
  · rintro ⟨i, h1, h2⟩
    rcases Nat.lt_or_ge i g with y | y
    · exact ⟨i, y, h2⟩
    · have : i = g := by omega
      rw [this] at h2
      exact absurd h2 h
  · rintro ⟨i, h1, h2⟩
    exact ⟨i, by omega, h2⟩
/-- the firsts among the g first of the group -/
def FTg (τ : Mem) (k gr : Nat → Nat) (g : Nat) : Prop := ∀ t, t < 30 → (gI τ 27 t = -9 ∧ ∀ i, i < g → k i ≠ t) ∨ ∃ i, i < g ∧ gI τ 27 t = nI (gr i) ∧ k i = t ∧ ∀ j, j < g → k j = t → gr i ≤ gr j
theorem ctN_ext {p : Nat → Bool} {n : Nat} : ∀ {N : Nat}, n ≤ N → (∀ i, n ≤ i → i < N → p i = false) → ctN p N = ctN p n := by
  intro N h hp
  induction N with
  | zero => have : n = 0 := by omega
            rw [this]
  | succ N ih =>
    rcases Nat.lt_or_ge N n with y | y
    · have : n = N + 1 := by omega
      rw [this]
    · rw [ctN_F (hp N y (Nat.lt_succ_self N))]
      exact ih y (fun i h1 h2 => hp i h1 (by omega))
theorem hsT_30 {D : Dat} (ok : okD D) {f : Nat} (hf : dC D f = true) {t : Nat} (ht : nTD D ≤ t) : hsT D f t = false := by
  cases e : hsT D f t with
  | false => rfl
  | true =>
    obtain ⟨h, h1, h2⟩ := hsT_iff.mp e
    have := (ok.2.2.1 h (ok.2.1 h (h1.ct hf))).1
    omega
theorem nk_30 {D : Dat} (ok : okD D) {f : Nat} (hf : dC D f = true) : ctN (hsT D f) 30 = nk D f := ctN_ext ok.1.1 (fun t h1 _ => hsT_30 ok hf h1)
def spX4_findFirsts : SP := G [(2, [21]), (0, [])] (fun vs τ K => ∃ (D : Dat) (m s n : Nat) (pl gr : Nat → Nat) (T0 : Nat → Prop), vs = [.ref 21, .int (nI n)] ∧ okD D ∧ PL D τ m pl ∧ GG D m pl T0 s τ n gr ∧ s < m ∧ ∀ τ', Fr S27 τ τ' → FT D τ' m pl (pl s) → K (some (.int (nI (nk D (pl s))))) τ')
theorem mnX4_findFirsts : Mono spX4_findFirsts := fun vs σ K1 K2 hK h => by
  obtain ⟨h1, D, m, s, n, pl, gr, T0, g1, g2, g3, g4, g5, g6⟩ := h
  exact ⟨h1, D, m, s, n, pl, gr, T0, g1, g2, g3, g4, g5, fun τ' q1 q2 => hK _ _ (g6 τ' q1 q2)⟩
set_option maxHeartbeats 4000000 in
theorem bdX4_findFirsts : Body 5 pgX4_findFirsts roM csX4_findFirsts lcX4 false spX4_findFirsts := by
  intro vs τ K h Ok hst
  obtain ⟨-, D, m, s, n, pl, gr, T0, rfl, ok, hPL, hGG, hsm, hk⟩ := h
  have hm := hPL.2.1
  have hnm := hGG.1.le
  have h30 := ok.1.1
  have cts := (hPL.2.2.1 s hsm).2.2.2
  have kb : ∀ i, i < n → dK D (pl (gr i)) < 30 := fun i hi => by
    have := (ok.2.2.1 _ (ok.2.1 _ (hPL.2.2.1 (gr i) (hGG.1.2.1 i hi).2.1).2.2.2)).1
    omega
  have sn : ∀ t, seenB (fun i => dK D (pl (gr i))) n t = hsT D (pl s) t := fun t => by
    rw [Bool.eq_iff_iff, seenB_iff, hsT_iff]
    constructor
    · rintro ⟨i, i1, i2⟩
      exact ⟨pl (gr i), (hGG.2 _ (hGG.1.2.1 i i1).2.1).mp ⟨i, i1, rfl⟩, i2⟩
    · rintro ⟨h, h1, h2⟩
      obtain ⟨p, p1, p2⟩ := hPL.2.2.2.2 h (h1.ct cts)
      rw [← p2] at h1 h2
      obtain ⟨i, i1, i2⟩ := (hGG.2 p p1).mpr h1
      exact ⟨i, i1, by show dK D (pl (gr i)) = t; rw [i2]; exact h2⟩
  have loop : ∀ d g τ', g + d = n → Fr S27 τ τ' → FTg τ' (fun i => dK D (pl (gr i))) gr g → ∀ x4, Ok 8 [some (.ref 21), some (.int (nI n)), some (.int (nI (ctN (seenB (fun i => dK D (pl (gr i))) g) 30))), some (.int (nI g)), x4] [] τ' := by
    intro d
    induction d with
    | zero =>
      intro g τ' hg hF hFT x4
      have e : g = n := by omega
      subst e
      have ec : ctN (seenB (fun i => dK D (pl (gr i))) g) 30 = nk D (pl s) := by
        rw [ctN_congr (fun t _ => sn t)]
        exact nk_30 ok cts
      have ft : FT D τ' m pl (pl s) := by
        intro t ht
        rcases hFT t ht with ⟨a1, a2⟩ | ⟨i, a1, a2, a3, a4⟩
        · refine Or.inl ⟨a1, ?_⟩
          rw [← sn t]
          exact seenB_no (fun ⟨i, i1, i2⟩ => a2 i i1 i2)
        · have b := hGG.1.2.1 i a1
          refine Or.inr ⟨gr i, b.2.1, a2, (hGG.2 _ b.2.1).mp ⟨i, a1, rfl⟩, a3, fun x c kx => ?_⟩
          obtain ⟨p, p1, p2⟩ := hPL.2.2.2.2 x (c.ct cts)
          rw [← p2] at c kx
          obtain ⟨j, j1, j2⟩ := (hGG.2 p p1).mpr c
          have := a4 j j1 (by show dK D (pl (gr j)) = t; rw [j2]; exact kx)
          rw [j2] at this
          rcases Nat.lt_or_ge (gr i) p with y | y
          · right; rw [← p2]; exact hPL.2.2.2.1 _ _ y p1
          · left; rw [← p2]; congr 1; omega
      have fk := hk τ' hF ft
      rw [← ec] at fk
      refine hst [8] 40 _ _ _ _ ?_
      exact br_t (Int32.le_refl _) fk
    | succ d ih =>
      intro g τ' hg hF hFT x4
      have pl' : PL D τ' m pl := hPL.fr hF (fun k j z => by unfold S27 at z; omega)
      have b := hGG.1.2.1 g (by omega)
      have kg := kb g (by omega)
      have nlt : ¬ nI n ≤ nI g := nI_ge (by omega) (by omega)
      have vg : vp_in (nI g) 240 := inI (by omega) (by decide)
      have e26 : gI τ' 26 (rI (nI g)) = nI (gr g) := by rw [rI_nI (by omega), hF.1 _ _ (fun z => by unfold S27 at z; omega)]; exact b.1
      have v26 : vp_in (gI τ' 26 (rI (nI g))) 240 := by rw [e26]; exact inI (by omega) (by decide)
      have e23 : gI τ' 23 (rI (gI τ' 26 (rI (nI g)))) = nI (dK D (pl (gr g))) := by rw [e26, rI_nI (by omega)]; exact (pl'.2.2.1 (gr g) b.2.1).2.1
      have rk : rI (nI (dK D (pl (gr g)))) = dK D (pl (gr g)) := rI_nI (by omega)
      have vk : vp_in (nI (dK D (pl (gr g)))) 30 := inI (by omega) (by decide)
      have put : ∀ (P : ∀ j, j < g → dK D (pl (gr j)) = dK D (pl (gr g)) → gr g ≤ gr j) , FTg (sI τ' 27 (dK D (pl (gr g))) (nI (gr g))) (fun i => dK D (pl (gr i))) gr (g + 1) := by
        intro P t ht
        by_cases e : t = dK D (pl (gr g))
        · refine Or.inr ⟨g, by omega, ?_, e.symm, fun j hj hkj => ?_⟩
          · rw [gI_on ⟨rfl, e⟩]
          · rcases Nat.lt_or_ge j g with y | y
            · exact P j y (hkj.trans e)
            · have : j = g := by omega
              rw [this]; exact Nat.le_refl _
        · rw [gI_off (by omega)]
          rcases hFT t ht with ⟨a1, a2⟩ | ⟨i, a1, a2, a3, a4⟩
          · refine Or.inl ⟨a1, fun i hi => ?_⟩
            rcases Nat.lt_or_ge i g with y | y
            · exact a2 i y
            · have : i = g := by omega
              rw [this]; exact Ne.symm e
          · refine Or.inr ⟨i, by omega, a2, a3, fun j hj hkj => ?_⟩
            rcases Nat.lt_or_ge j g with y | y
            · exact a4 j y hkj
            · have : j = g := by omega
              rw [this] at hkj
              exact absurd hkj.symm e
      have fput : Fr S27 τ (sI τ' 27 (dK D (pl (gr g))) (nI (gr g))) := hF.put ⟨rfl, by omega⟩
      have h19 : Ok 19 [some (.ref 21), some (.int (nI n)), some (.int (nI (ctN (seenB (fun i => dK D (pl (gr i))) g) 30))), some (.int (nI g)), some (.int (nI (dK D (pl (gr g)))))] [] τ' := by
        refine hst [8] 60 _ _ _ _ ?_
        refine And.intro vk ?_
        rcases hFT (dK D (pl (gr g))) (by omega) with ⟨a1, a2⟩ | ⟨i, a1, a2, a3, a4⟩
        · have c : gI τ' 27 (rI (nI (dK D (pl (gr g))))) = -9 := by rw [rk]; exact a1
          have ec : ctN (seenB (fun i => dK D (pl (gr i))) (g + 1)) 30 = ctN (seenB (fun i => dK D (pl (gr i))) g) 30 + 1 := by
            refine ctN_one (a := dK D (pl (gr g))) kg (seenB_no (fun ⟨i, i1, i2⟩ => a2 i i1 i2)) (seenB_iff.mpr ⟨g, by omega, rfl⟩) (fun t _ hne => seenB_ne (Ne.symm hne))
          have nx := ih (g + 1) _ (by omega) fput (put (fun j hj hkj => absurd hkj (a2 j hj))) (some (.int (nI (dK D (pl (gr g))))))
          rw [ec, ← nI_1, ← nI_1, ← e26] at nx
          have nx2 : Ok 8 [some (.ref 21), some (.int (nI n)), some (.int (nI (ctN (seenB (fun i => dK D (pl (gr i))) g) 30) + 1)), some (.int (nI g + 1)), some (.int (nI (dK D (pl (gr g)))))] [] (sI τ' 27 (rI (nI (dK D (pl (gr g))))) (gI τ' 26 (rI (nI g)))) := by rw [rk]; exact nx
          exact br_t c (And.intro vg (And.intro vk nx2))
        · have c : ¬ gI τ' 27 (rI (nI (dK D (pl (gr g))))) = -9 := by
            rw [rk, a2]
            exact nI_n9 (by have := (hGG.1.2.1 i (by omega)).2.1; omega)
          have bi := (hGG.1.2.1 i (by omega)).2.1
          have ec : ctN (seenB (fun i => dK D (pl (gr i))) (g + 1)) 30 = ctN (seenB (fun i => dK D (pl (gr i))) g) 30 := by
            refine ctN_congr (fun t _ => ?_)
            by_cases e : dK D (pl (gr g)) = t
            · rw [Bool.eq_iff_iff, seenB_iff, seenB_iff]
              exact ⟨fun _ => ⟨i, a1, a3.trans e⟩, fun _ => ⟨g, by omega, e⟩⟩
            · exact seenB_ne e
          by_cases q : gr i ≤ gr g
          · have le : gI τ' 27 (rI (nI (dK D (pl (gr g))))) ≤ gI τ' 26 (rI (nI g)) := by rw [rk, a2, e26]; exact nI_le q (by omega)
            have keepF : FTg τ' (fun i => dK D (pl (gr i))) gr (g + 1) := by
              intro t ht
              by_cases e : t = dK D (pl (gr g))
              · refine Or.inr ⟨i, by omega, by rw [e]; exact a2, by rw [e]; exact a3, fun j hj hkj => ?_⟩
                rcases Nat.lt_or_ge j g with y | y
                · exact a4 j y (hkj.trans e)
                · have : j = g := by omega
                  rw [this]; exact q
              · rcases hFT t ht with ⟨z1, z2⟩ | ⟨i', z1, z2, z3, z4⟩
                · refine Or.inl ⟨z1, fun x hx => ?_⟩
                  rcases Nat.lt_or_ge x g with y | y
                  · exact z2 x y
                  · have : x = g := by omega
                    rw [this]; exact Ne.symm e
                · refine Or.inr ⟨i', by omega, z2, z3, fun j hj hkj => ?_⟩
                  rcases Nat.lt_or_ge j g with y | y
                  · exact z4 j y hkj
                  · have : j = g := by omega
                    rw [this] at hkj
                    exact absurd hkj.symm e
            have nx := ih (g + 1) τ' (by omega) hF keepF (some (.int (nI (dK D (pl (gr g))))))
            rw [ec, ← nI_1] at nx
            exact br_f c (And.intro vg (And.intro vk (br_t le nx)))
          · have nle : ¬ gI τ' 27 (rI (nI (dK D (pl (gr g))))) ≤ gI τ' 26 (rI (nI g)) := by rw [rk, a2, e26]; exact nI_ge (by omega) (by omega)
            have nx := ih (g + 1) _ (by omega) fput (put (fun j hj hkj => by have := a4 j hj hkj; omega)) (some (.int (nI (dK D (pl (gr g))))))
            rw [ec, ← nI_1, ← e26] at nx
            have nx2 : Ok 8 [some (.ref 21), some (.int (nI n)), some (.int (nI (ctN (seenB (fun i => dK D (pl (gr i))) g) 30))), some (.int (nI g + 1)), some (.int (nI (dK D (pl (gr g)))))] [] (sI τ' 27 (rI (nI (dK D (pl (gr g))))) (gI τ' 26 (rI (nI g)))) := by rw [rk]; exact nx
            exact br_f c (And.intro vg (And.intro vk (br_f nle (And.intro vg (And.intro vk nx2)))))
      rw [← e23] at h19
      refine hst [8, 19] 40 _ _ _ _ ?_
      exact br_f nlt (And.intro vg (And.intro v26 h19))
  have f1 : Fr S27 τ (fillM τ 27 0 30 (-9)) := by
    refine ⟨fun k j hn => ?_, fun _ _ => rfl, rfl, rfl⟩
    rw [gI_fillM, if_neg (fun z => hn ⟨z.1, by omega⟩)]
  have l0 := loop n 0 (fillM τ 27 0 30 (-9)) (Nat.zero_add _) f1 (fun t ht => Or.inl ⟨by rw [gI_fillM, if_pos ⟨rfl, by omega, by omega⟩], fun i hi => absurd hi (Nat.not_lt_zero i)⟩) none
  have z0 : ctN (seenB (fun i => dK D (pl (gr i))) 0) 30 = 0 := ctN_zero (fun t _ => seenB_no (fun ⟨i, i1, _⟩ => absurd i1 (Nat.not_lt_zero i)))
  rw [z0] at l0
  refine hst [8] 40 _ _ _ _ ?_
  exact c5 (Nat.le_of_ble_eq_true rfl) (Nat.le_of_ble_eq_true rfl) rfl ⟨30, rfl, by decide⟩ l0
