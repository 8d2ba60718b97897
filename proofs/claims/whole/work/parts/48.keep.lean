/-! the events of a building, as they are kept -/
def MB (D : Dat) (τ : Mem) (b : Nat) (F : Nat → Nat) (i t h : Nat) : Prop := gI τ (b + 3) (stF D F i + ctN (hsT D (F i)) t) = nI h ∧ gI τ (b + 4) (stF D F i + ctN (hsT D (F i)) t) = dTm D h ∧ gI τ (b + 5) h = nI i
def BD (D : Dat) (τ : Mem) (b : Nat) (F : Nat → Nat) (e : Nat) : Prop := gI τ b 0 = nI e ∧ (∀ i, i ≤ e → gI τ (b + 1) i = nI (stF D F i)) ∧ (∀ i, i < e → gI τ (b + 2) i = nI (szG D (F i))) ∧ (∀ i t h, i < e → bsr D (F i) t h → MB D τ b F i t h) ∧ ∀ h, h < 240 → (∀ i t, i < e → ¬ bsr D (F i) t h) → gI τ (b + 5) h = -9
theorem BD.congr {D : Dat} {τ : Mem} {b : Nat} {F F' : Nat → Nat} {e : Nat} (h : BD D τ b F e) (hF : ∀ i, i < e → F i = F' i) : BD D τ b F' e := by
  obtain ⟨h1, h2, h3, h4, h5⟩ := h
  have hs : ∀ i, i ≤ e → stF D F i = stF D F' i := fun i hi => stF_congr (fun j hj => hF j (by omega))
  refine ⟨h1, fun i hi => by rw [← hs i hi]; exact h2 i hi, fun i hi => by rw [← hF i hi]; exact h3 i hi, fun i t h hi hb => ?_, fun h hh hn => h5 h hh (fun i t hi z => hn i t hi (by rw [← hF i hi]; exact z))⟩
  have := h4 i t h hi (by rw [hF i hi]; exact hb)
  unfold MB at *
  rw [← hs i (by omega), ← hF i hi]
  exact this
theorem BD.fr {D : Dat} {S : Nat → Nat → Prop} {τ τ' : Mem} {b : Nat} {F : Nat → Nat} {e : Nat} (h : BD D τ b F e) (f : Fr S τ τ') (hS : ∀ k j, S k j → ¬ (b ≤ k ∧ k ≤ b + 5)) : BD D τ' b F e := by
  have g : ∀ c j, c ≤ 5 → gI τ' (b + c) j = gI τ (b + c) j := fun c j hc => f.1 _ _ (fun z => hS _ _ z (by omega))
  obtain ⟨h1, h2, h3, h4, h5⟩ := h
  refine ⟨(g 0 0 (by omega)).trans h1, fun i hi => (g 1 i (by omega)).trans (h2 i hi), fun i hi => (g 2 i (by omega)).trans (h3 i hi), fun i t h hi hb => ?_, fun h hh hn => (g 5 h (by omega)).trans (h5 h hh hn)⟩
  obtain ⟨a1, a2, a3⟩ := h4 i t h hi hb
  exact ⟨(g 3 _ (by omega)).trans a1, (g 4 _ (by omega)).trans a2, (g 5 _ (by omega)).trans a3⟩
def opM (τ : Mem) (b e : Nat) (z : Int32) : Mem := sI (sI (sI τ (b + 2) e z) (b + 1) (e + 1) (gI τ (b + 1) e)) b 0 (nI (e + 1))
def amK (τ : Mem) (b e p h : Nat) (tm : Int32) : Mem := sI (sI (sI (sI τ (b + 3) p (nI h)) (b + 4) p tm) (b + 5) h (nI e)) (b + 1) (e + 1) (nI (p + 1))
def SKb (b k _j : Nat) : Prop := b ≤ k ∧ k ≤ b + 5
/-- midway: the tanks ahead of t are through -/
def PB (D : Dat) (τ : Mem) (b : Nat) (F : Nat → Nat) (e t : Nat) : Prop := gI τ b 0 = nI (e + 1) ∧ (∀ i, i ≤ e → gI τ (b + 1) i = nI (stF D F i)) ∧ gI τ (b + 1) (e + 1) = nI (stF D F e + ctN (hsT D (F e)) t) ∧ (∀ i, i ≤ e → gI τ (b + 2) i = nI (szG D (F i))) ∧ (∀ i t' h, i < e → bsr D (F i) t' h → MB D τ b F i t' h) ∧ (∀ t' h, t' < t → bsr D (F e) t' h → MB D τ b F e t' h) ∧ ∀ h, h < 240 → (∀ i t', i < e → ¬ bsr D (F i) t' h) → (∀ t', t' < t → ¬ bsr D (F e) t' h) → gI τ (b + 5) h = -9
theorem BD.opn {D : Dat} {τ : Mem} {b : Nat} {F : Nat → Nat} {e : Nat} (h : BD D τ b F e) : PB D (opM τ b e (nI (szG D (F e)))) b F e 0 ∧ Fr (SKb b) τ (opM τ b e (nI (szG D (F e)))) := by
  obtain ⟨h1, h2, h3, h4, h5⟩ := h
  refine ⟨⟨?_, fun i hi => ?_, ?_, fun i hi => ?_, fun i t h hi hb => ?_, fun t h ht => absurd ht (Nat.not_lt_zero t), fun h hh hn _ => ?_⟩, ?_⟩
  · unfold opM; rw [gI_on ⟨rfl, rfl⟩]
  · unfold opM; rw [gI_off (by omega), gI_off (by omega), gI_off (by omega)]; exact h2 i hi
  · unfold opM; rw [gI_off (by omega), gI_on ⟨rfl, rfl⟩]
    exact h2 e (Nat.le_refl _)
  · unfold opM; rw [gI_off (by omega), gI_off (by omega)]
    by_cases c : i = e
    · rw [gI_on ⟨rfl, c⟩, c]
    · rw [gI_off (by omega)]; exact h3 i (by omega)
  · obtain ⟨a1, a2, a3⟩ := h4 i t h hi hb
    unfold opM
    refine ⟨?_, ?_, ?_⟩
    · rw [gI_off (by omega), gI_off (by omega), gI_off (by omega)]; exact a1
    · rw [gI_off (by omega), gI_off (by omega), gI_off (by omega)]; exact a2
    · rw [gI_off (by omega), gI_off (by omega), gI_off (by omega)]; exact a3
  · unfold opM; rw [gI_off (by omega), gI_off (by omega), gI_off (by omega)]; exact h5 h hh hn
  · unfold opM
    exact (((Fr.refl (SKb b) τ).put ⟨by omega, by omega⟩).put ⟨by omega, by omega⟩).put ⟨by omega, by omega⟩
theorem PB.skip {D : Dat} {τ : Mem} {b : Nat} {F : Nat → Nat} {e t : Nat} (h : PB D τ b F e t) (hn : hsT D (F e) t = false) : PB D τ b F e (t + 1) := by
  obtain ⟨h1, h2, h3, h4, h5, h6, h7⟩ := h
  have no : ∀ x, ¬ bsr D (F e) t x := fun x z => by
    have := hsT_iff.mpr ⟨x, z.1, z.2.1⟩
    rw [hn] at this
    cases this
  refine ⟨h1, h2, by rw [ctN_F hn]; exact h3, h4, h5, fun t' h ht hb => ?_, fun h hh n1 n2 => h7 h hh n1 (fun t' ht => n2 t' (by omega))⟩
  rcases Nat.lt_or_ge t' t with y | y
  · exact h6 t' h y hb
  · have : t' = t := by omega
    rw [this] at hb
    exact absurd hb (no h)
theorem bsr.lt {D : Dat} (ok : okD D) {f t x : Nat} (h : bsr D f t x) (hf : dC D f = true) : t < nTD D ∧ x < nHD D := by
  have hx := ok.2.1 x (h.1.ct hf)
  have := (ok.2.2.1 x hx).1
  rw [h.2.1] at this
  exact ⟨this, hx⟩
theorem bsr.hs {D : Dat} {f t x : Nat} (h : bsr D f t x) : hsT D f t = true := hsT_iff.mpr ⟨x, h.1, h.2.1⟩
/-- places of different members are different -/
theorem pos_ne {D : Dat} (ok : okD D) {F : Nat → Nat} {i e t' t : Nat} (hi : i < e) (ci : dC D (F i) = true) (h : hsT D (F i) t' = true) : stF D F i + ctN (hsT D (F i)) t' < stF D F e + ctN (hsT D (F e)) t := by
  have ht : t' < nTD D := by
    rcases Nat.lt_or_ge t' (nTD D) with y | y
    · exact y
    · rw [hsT_30 ok ci y] at h; cases h
  have := nk_lt ht h
  have m : stF D F i + nk D (F i) ≤ stF D F e := stF_mo (D := D) (F := F) (show i + 1 ≤ e by omega)
  omega
theorem PB.add {D : Dat} {τ : Mem} {b : Nat} {F : Nat → Nat} {e t x : Nat} (h : PB D τ b F e t) (hx : bsr D (F e) t x) (dis : ∀ i, i < e → ¬ cc D (F i) (F e)) (ct : ∀ i, i ≤ e → dC D (F i) = true) (ok : okD D) : PB D (amK τ b e (stF D F e + ctN (hsT D (F e)) t) x (dTm D x)) b F e (t + 1) ∧ Fr (SKb b) τ (amK τ b e (stF D F e + ctN (hsT D (F e)) t) x (dTm D x)) := by
  obtain ⟨h1, h2, h3, h4, h5, h6, h7⟩ := h
  have ht := hx.hs
  refine ⟨⟨?_, fun i hi => ?_, ?_, fun i hi => ?_, fun i t' h hi hb => ?_, fun t' h ht' hb => ?_, fun h hh n1 n2 => ?_⟩, ?_⟩
  · unfold amK; rw [gI_off (by omega), gI_off (by omega), gI_off (by omega), gI_off (by omega)]; exact h1
  · unfold amK; rw [gI_off (by omega), gI_off (by omega), gI_off (by omega), gI_off (by omega)]; exact h2 i hi
  · unfold amK; rw [gI_on ⟨rfl, rfl⟩, ctN_T ht]; rfl
  · unfold amK; rw [gI_off (by omega), gI_off (by omega), gI_off (by omega), gI_off (by omega)]; exact h4 i hi
  · obtain ⟨a1, a2, a3⟩ := h5 i t' h hi hb
    have lt := pos_ne ok (t := t) hi (ct i (by omega)) hb.hs
    have hne : h ≠ x := fun z => by
      rw [z] at hb
      exact dis i hi (hb.1.trans (hx.1.symm ok))
    unfold amK
    refine ⟨?_, ?_, ?_⟩
    · rw [gI_off (by omega), gI_off (by omega), gI_off (by omega), gI_off (by omega)]; exact a1
    · rw [gI_off (by omega), gI_off (by omega), gI_off (by omega), gI_off (by omega)]; exact a2
    · rw [gI_off (by omega), gI_off (by omega), gI_off (by omega), gI_off (by omega)]; exact a3
  · by_cases c : t' = t
    · subst c
      have eh := hb.uniq hx
      subst eh
      unfold amK
      refine ⟨?_, ?_, ?_⟩
      · rw [gI_off (by omega), gI_off (by omega), gI_off (by omega), gI_on ⟨rfl, rfl⟩]
      · rw [gI_off (by omega), gI_off (by omega), gI_on ⟨rfl, rfl⟩]
      · rw [gI_off (by omega), gI_on ⟨rfl, rfl⟩]
    · obtain ⟨a1, a2, a3⟩ := h6 t' h (by omega) hb
      have lt : ctN (hsT D (F e)) t' ≠ ctN (hsT D (F e)) t := fun z => c (ctN_inj hb.hs ht z)
      have hne : h ≠ x := fun z => by
        rw [z] at hb
        exact c (hb.2.1.symm.trans hx.2.1)
      unfold amK
      refine ⟨?_, ?_, ?_⟩
      · rw [gI_off (by omega), gI_off (by omega), gI_off (by omega), gI_off (by omega)]; exact a1
      · rw [gI_off (by omega), gI_off (by omega), gI_off (by omega), gI_off (by omega)]; exact a2
      · rw [gI_off (by omega), gI_off (by omega), gI_off (by omega), gI_off (by omega)]; exact a3
  · have hne : h ≠ x := fun z => n2 t (by omega) (by rw [z]; exact hx)
    unfold amK
    rw [gI_off (by omega), gI_off (by omega), gI_off (by omega), gI_off (by omega)]
    exact h7 h hh n1 (fun t' ht' => n2 t' (by omega))
  · unfold amK
    exact ((((Fr.refl (SKb b) τ).put ⟨by omega, by omega⟩).put ⟨by omega, by omega⟩).put ⟨by omega, by omega⟩).put ⟨by omega, by omega⟩
theorem PB.close {D : Dat} {τ : Mem} {b : Nat} {F : Nat → Nat} {e : Nat} (h : PB D τ b F e 30) (ok : okD D) (ct : dC D (F e) = true) : BD D τ b F (e + 1) := by
  obtain ⟨h1, h2, h3, h4, h5, h6, h7⟩ := h
  have h30 := ok.1.1
  refine ⟨h1, fun i hi => ?_, fun i hi => h4 i (by omega), fun i t h hi hb => ?_, fun h hh hn => h7 h hh (fun i t hi => hn i t (by omega)) (fun t _ => hn e t (by omega))⟩
  · rcases Nat.lt_or_ge i (e + 1) with y | y
    · exact h2 i (by omega)
    · have : i = e + 1 := by omega
      rw [this, h3, nk_30 ok ct]
      rfl
  · rcases Nat.lt_or_ge i e with y | y
    · exact h5 i t h y hb
    · have c : i = e := by omega
      subst c
      have := (hb.lt ok ct).1
      exact h6 t h (by omega) hb
def csX0_open : Cs := []
def spX0_open : SP := G [(2, [30, 36]), (0, [])] (fun vs τ K => ∃ (b e : Nat) (z : Int32), vs = [.ref b, .int z] ∧ (b = 30 ∨ b = 36) ∧ e < 240 ∧ gI τ b 0 = nI e ∧ K none (opM τ b e z))
theorem mnX0_open : Mono spX0_open := fun vs σ K1 K2 hK h => by
  obtain ⟨h1, b, e, z, g1, g2, g3, g4, g5⟩ := h
  exact ⟨h1, b, e, z, g1, g2, g3, g4, hK _ _ g5⟩
theorem bdX0_open : Body 2 pgX0_open roM csX0_open lcX0 false spX0_open := by
  intro vs τ K h Ok hst
  obtain ⟨-, b, e, z, rfl, hb, he, hc, hk⟩ := h
  have v1 : vp_in (gI τ b 0) 240 := by rw [hc]; exact inI he (by decide)
  have v2 : vp_in (gI τ b 0) 241 := by rw [hc]; exact inI (by omega) (by decide)
  have v3 : vp_in (gI τ b 0 + 1) 241 := by rw [hc, nI_1]; exact inI (by omega) (by decide)
  have hk : K none (sI (sI (sI τ (b + 2) (rI (gI τ b 0)) z) (b + 1) (rI (gI τ b 0 + 1)) (gI τ (b + 1) (rI (gI τ b 0)))) b 0 (gI τ b 0 + 1)) := by
    rw [hc, nI_1, rI_nI (by omega), rI_nI (by omega)]
    exact hk
  refine hst [] 30 _ _ _ _ ?_
  rcases hb with rfl | rfl
  · exact And.intro v1 (And.intro v2 (And.intro v3 hk))
  · exact And.intro v1 (And.intro v2 (And.intro v3 hk))
def csX0_addMember : Cs := []
def spX0_addMember : SP := G [(2, [30, 36]), (0, []), (0, [])] (fun vs τ K => ∃ (b e p h : Nat) (tm : Int32), vs = [.ref b, .int (nI h), .int tm] ∧ (b = 30 ∨ b = 36) ∧ (e < 240 ∧ p < 240 ∧ h < 240) ∧ gI τ b 0 = nI (e + 1) ∧ gI τ (b + 1) (e + 1) = nI p ∧ K none (amK τ b e p h tm))
theorem mnX0_addMember : Mono spX0_addMember := fun vs σ K1 K2 hK h => by
  obtain ⟨h1, b, e, p, x, tm, g1, g2, g3, g4, g5, g6⟩ := h
  exact ⟨h1, b, e, p, x, tm, g1, g2, g3, g4, g5, hK _ _ g6⟩
set_option maxHeartbeats 2000000 in
theorem bdX0_addMember : Body 4 pgX0_addMember roM csX0_addMember lcX0 false spX0_addMember := by
  intro vs τ K h Ok hst
  obtain ⟨-, b, e, p, x, tm, rfl, hb, ⟨he, hp, hx⟩, hc, hs, hk⟩ := h
  have es : gI τ (b + 1) (rI (gI τ b 0)) = nI p := by rw [hc, rI_nI (by omega)]; exact hs
  have v1 : vp_in (gI τ b 0) 241 := by rw [hc]; exact inI (by omega) (by decide)
  have v2 : vp_in (gI τ (b + 1) (rI (gI τ b 0))) 240 := by rw [es]; exact inI (by omega) (by decide)
  have v3 : vp_in (nI x) 240 := inI (by omega) (by decide)
  have hk : K none (sI (sI (sI (sI τ (b + 3) (rI (gI τ (b + 1) (rI (gI τ b 0)))) (nI x)) (b + 4) (rI (gI τ (b + 1) (rI (gI τ b 0)))) tm) (b + 5) (rI (nI x)) (gI τ b 0 - 1)) (b + 1) (rI (gI τ b 0)) (gI τ (b + 1) (rI (gI τ b 0)) + 1)) := by
    rw [es, hc, nI_pred, nI_1, rI_nI (by omega), rI_nI (by omega), rI_nI (by omega)]
    exact hk
  refine hst [] 40 _ _ _ _ ?_
  rcases hb with rfl | rfl
  · exact And.intro v1 (And.intro v2 (And.intro v2 (And.intro v3 (And.intro v1 hk))))
  · exact And.intro v1 (And.intro v2 (And.intro v2 (And.intro v3 (And.intro v1 hk))))
def csX4_keep : Cs := [(62, 1, true, spX0_open), (67, 2, true, spX0_addMember)]
def spX4_keep : SP := G [(2, [21]), (2, [30, 36]), (0, [])] (fun vs τ K => ∃ (D : Dat) (m b e : Nat) (pl F : Nat → Nat), vs = [.ref 21, .ref b, .int (nI (szG D (F e)))] ∧ (b = 30 ∨ b = 36) ∧ okD D ∧ PL D τ m pl ∧ FT D τ m pl (F e) ∧ BD D τ b F e ∧ e < 240 ∧ (∀ i, i < e → ¬ cc D (F i) (F e)) ∧ (∀ i, i ≤ e → dC D (F i) = true) ∧ stF D F (e + 1) ≤ 240 ∧ ∀ τ', Fr (SKb b) τ τ' → BD D τ' b F (e + 1) → K none τ')
theorem mnX4_keep : Mono spX4_keep := fun vs σ K1 K2 hK h => by
  obtain ⟨h1, D, m, b, e, pl, F, g1, g2, g3, g4, g5, g6, g7, g8, g9, g10, g11⟩ := h
  exact ⟨h1, D, m, b, e, pl, F, g1, g2, g3, g4, g5, g6, g7, g8, g9, g10, fun τ' q1 q2 => hK _ _ (g11 τ' q1 q2)⟩
set_option maxHeartbeats 4000000 in
theorem bdX4_keep : Body 5 pgX4_keep roM csX4_keep lcX4 false spX4_keep := by
  intro vs τ K h Ok hst
  obtain ⟨-, D, m, b, e, pl, F, rfl, hb, ok, hPL, hFT, hBD, he, dis, ct, h240, hk⟩ := h
  have hm := hPL.2.1
  have h30 := ok.1.1
  have hH := ok.1.2
  have loop : ∀ d t τ', t + d = 30 → Fr (SKb b) τ τ' → PB D τ' b F e t → ∀ x4, Ok 5 [some (.ref 21), some (.ref b), some (.int (nI (szG D (F e)))), some (.int (nI t)), x4] [] τ' := by
    intro d
    induction d with
    | zero =>
      intro t τ' ht hF hP x4
      have e30 : t = 30 := by omega
      subst e30
      have fk := hk τ' hF (hP.close ok (ct e (Nat.le_refl _)))
      refine hst [5] 40 _ _ _ _ ?_
      exact br_t (by decide) fk
    | succ d ih =>
      intro t τ' ht hF hP x4
      have nlt : ¬ (30 : Int32) ≤ nI t := by
        have : ¬ nI 30 ≤ nI t := nI_ge (by omega) (by omega)
        exact this
      have fS : ∀ k j, SKb b k j → ¬ (k = 22 ∨ k = 23 ∨ k = 24 ∨ (k = 21 ∧ j = 4)) := fun k j z => by unfold SKb at z; omega
      have pl' : PL D τ' m pl := hPL.fr hF fS
      have e27 : ∀ t, gI τ' 27 t = gI τ 27 t := fun t => hF.1 _ _ (fun z => by unfold SKb at z; omega)
      have vt : vp_in (nI t) 30 := inI (by omega) (by decide)
      have rt : rI (nI t) = t := rI_nI (by omega)
      rcases hFT t (by omega) with ⟨a1, a2⟩ | ⟨p, p1, p2, p3⟩
      · have c : gI τ' 27 (rI (nI t)) = -9 := by rw [rt, e27]; exact a1
        have nx := ih (t + 1) τ' (by omega) hF (hP.skip a2) (some (.int (gI τ' 27 (rI (nI t)))))
        rw [← nI_1] at nx
        refine hst [5] 40 _ _ _ _ ?_
        exact br_f nlt (And.intro vt (br_t c nx))
      · have c0 : gI τ' 27 (rI (nI t)) = nI p := by rw [rt, e27]; exact p2
        have c : ¬ gI τ' 27 (rI (nI t)) = -9 := by rw [c0]; exact nI_n9 (by omega)
        have vp : vp_in (gI τ' 27 (rI (nI t))) 240 := by rw [c0]; exact inI (by omega) (by decide)
        have a := pl'.2.2.1 p p1
        have eh : gI τ' 22 (rI (gI τ' 27 (rI (nI t)))) = nI (pl p) := by rw [c0, rI_nI (by omega)]; exact a.1
        have et : gI τ' 24 (rI (gI τ' 27 (rI (nI t)))) = dTm D (pl p) := by rw [c0, rI_nI (by omega)]; exact a.2.2.1
        have bl := p3.lt ok (ct e (Nat.le_refl _))
        have hlt := nk_lt bl.1 p3.hs
        have h240 : stF D F e + nk D (F e) ≤ 240 := h240
        obtain ⟨n1, n2⟩ := hP.add p3 dis ct ok
        have call : spX0_addMember [.ref b, .int (gI τ' 22 (rI (gI τ' 27 (rI (nI t))))), .int (gI τ' 24 (rI (gI τ' 27 (rI (nI t)))))] τ' (fun _ σ' => Ok 5 [some (.ref 21), some (.ref b), some (.int (nI (szG D (F e)))), some (.int (nI t + 1)), some (.int (gI τ' 27 (rI (nI t))))] [] σ') := by
          rw [eh, et]
          refine And.intro ?_ ⟨b, e, stF D F e + ctN (hsT D (F e)) t, pl p, dTm D (pl p), rfl, hb, ⟨he, by omega, by omega⟩, hP.1, hP.2.2.1, ?_⟩
          · rcases hb with rfl | rfl <;> rfl
          · rw [nI_1]
            exact ih (t + 1) _ (by omega) (hF.trans n2) n1 _
        refine hst [5] 40 _ _ _ _ ?_
        rcases hb with rfl | rfl
        · exact br_f nlt (And.intro vt (br_f c (And.intro vp (And.intro vp (And.intro (Nat.le_of_ble_eq_true rfl) call)))))
        · exact br_f nlt (And.intro vt (br_f c (And.intro vp (And.intro vp (And.intro (Nat.le_of_ble_eq_true rfl) call)))))
  obtain ⟨o1, o2⟩ := hBD.opn
  have l0 := loop 30 0 _ (Nat.zero_add _) o2 o1 none
  refine hst [5] 40 _ _ _ _ ?_
  rcases hb with rfl | rfl
  · exact And.intro (Nat.le_of_ble_eq_true rfl) (And.intro rfl ⟨30, e, _, rfl, Or.inl rfl, he, hBD.1, l0⟩)
  · exact And.intro (Nat.le_of_ble_eq_true rfl) (And.intro rfl ⟨36, e, _, rfl, Or.inr rfl, he, hBD.1, l0⟩)
