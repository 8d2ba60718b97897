def csX10_join : Cs := [(145, 1, true, spX10_isLooked), (154, 1, true, spX10_rightTime), (157, 1, true, spX10_amountOf), (166, 2, true, spX10_isNear)]
def SJ (k _j : Nat) : Prop := k = 59 ∨ k = 60 ∨ k = 61
def DXM (D : Dat) (τ : Mem) (lo : Int32) : Prop := cn (gI τ 42 10) 20 ∧ cn (gI τ 42 14) 20 ∧ ∀ h, h < nHD D → gI τ 45 h = nI (dK D h) ∧ rtM τ h = dTm D h ∧ (dC D h = true ↔ ¬ gI τ 45 h = lo ∧ dutF (gI τ 52) (gI τ 53) (gI τ 54) (gI τ 45 h) (gI τ 46 h) (rI (gI τ 42 14)) = -9 ∧ gI τ 58 3 ≤ amM (gI τ 47 h) (gI τ 48 h))
theorem DXM.fr {D : Dat} {S : Nat → Nat → Prop} {τ τ' : Mem} {lo : Int32} (h : DXM D τ lo) (f : Fr S τ τ') (hS : ∀ k j, S k j → ¬ ((45 ≤ k ∧ k ≤ 54) ∨ k = 58 ∨ (k = 42 ∧ (j = 10 ∨ j = 14)))) : DXM D τ' lo := by
  have g : ∀ k, ((45 ≤ k ∧ k ≤ 54) ∨ k = 58) → gI τ' k = gI τ k := fun k hk => funext fun j => f.1 _ _ (fun z => hS _ _ z (by omega))
  have g1 : gI τ' 42 10 = gI τ 42 10 := f.1 _ _ (fun z => hS _ _ z (by omega))
  have g2 : gI τ' 42 14 = gI τ 42 14 := f.1 _ _ (fun z => hS _ _ z (by omega))
  obtain ⟨h1, h2, h3⟩ := h
  refine ⟨by rw [g1]; exact h1, by rw [g2]; exact h2, fun h hh => ?_⟩
  have := h3 h hh
  unfold rtM at *
  rw [g1, g2, g 45 (by omega), g 46 (by omega), g 47 (by omega), g 48 (by omega), g 49 (by omega), g 50 (by omega), g 51 (by omega), g 52 (by omega), g 53 (by omega), g 54 (by omega), g 58 (by omega)]
  exact this
def root (D : Dat) (r x : Nat) : Prop := dC D r = true ∧ cc D r x ∧ ∀ y, cc D r y → r ≤ y
def AH (D : Dat) (h x : Nat) : Prop := ∃ r, r < h ∧ dC D r = true ∧ cc D r x
def JS (D : Dat) (τ : Mem) (h : Nat) : Prop := ∀ x, x < nHD D → (dC D x = false ∧ gI τ 59 x = -1) ∨ (dC D x = true ∧ ¬ AH D h x ∧ gI τ 59 x = -9) ∨ (dC D x = true ∧ ∃ r, r < h ∧ gI τ 59 x = nI r ∧ root D r x)
def JQ (D : Dat) (τ : Mem) (h n : Nat) (qu : Nat → Nat) : Prop := (∀ i, i < n → gI τ 61 i = nI (qu i) ∧ qu i < nHD D ∧ cc D h (qu i)) ∧ (∀ i j, i < n → j < n → qu i = qu j → i = j) ∧ ∀ x, x < nHD D → (dC D x = false ∧ gI τ 59 x = -1) ∨ (dC D x = true ∧ (∃ i, i < n ∧ qu i = x) ∧ gI τ 59 x = nI h) ∨ (dC D x = true ∧ (¬ ∃ i, i < n ∧ qu i = x) ∧ ¬ AH D h x ∧ gI τ 59 x = -9) ∨ (dC D x = true ∧ ∃ r, r < h ∧ gI τ 59 x = nI r ∧ root D r x)
def JG (D : Dat) (τ : Mem) : Prop := ∀ x, x < nHD D → (dC D x = false ∧ gI τ 59 x = -1) ∨ (dC D x = true ∧ ∃ r, r < nHD D ∧ gI τ 59 x = nI r ∧ root D r x)
def qM (τ : Mem) (h g n : Nat) : Mem := sI (sI τ 59 g (nI h)) 61 n (nI g)
theorem JQ.add {D : Dat} {τ : Mem} {h n : Nat} {qu : Nat → Nat} (q : JQ D τ h n qu) {g : Nat} (hg : g < nHD D) (cg : dC D g = true) (c : cc D h g) (nq : ¬ ∃ i, i < n ∧ qu i = g) : n < nHD D ∧ JQ D (qM τ h g n) h (n + 1) (ups qu n g) := by
  obtain ⟨h1, h2, h3⟩ := q
  have hb : ∀ i, i < n + 1 → ups qu n g i < nHD D := fun i hi => by
    by_cases e : i = n
    · rw [e, ups_at]; exact hg
    · rw [ups_of e]; exact (h1 i (by omega)).2.1
  have hi : ∀ i j, i < n + 1 → j < n + 1 → ups qu n g i = ups qu n g j → i = j := fun i j hi hj e => by
    by_cases e1 : i = n
    · by_cases e2 : j = n
      · omega
      · rw [e1, ups_at, ups_of e2] at e
        exact absurd ⟨j, by omega, e.symm⟩ nq
    · by_cases e2 : j = n
      · rw [e2, ups_at, ups_of e1] at e
        exact absurd ⟨i, by omega, e⟩ nq
      · rw [ups_of e1, ups_of e2] at e
        exact h2 i j (by omega) (by omega) e
  have hn := inj_le hb hi
  refine ⟨by omega, fun i hi => ⟨?_, hb i hi, ?_⟩, hi, fun x hx => ?_⟩
  · unfold qM
    by_cases e : i = n
    · rw [gI_on ⟨rfl, e⟩, e, ups_at]
    · rw [gI_off (by omega), gI_off (by omega), ups_of e]; exact (h1 i (by omega)).1
  · by_cases e : i = n
    · rw [e, ups_at]; exact c
    · rw [ups_of e]; exact (h1 i (by omega)).2.2
  · unfold qM
    rw [gI_off (by omega)]
    by_cases e : x = g
    · rw [gI_on ⟨rfl, e⟩]
      exact Or.inr (Or.inl ⟨by rw [e]; exact cg, ⟨n, by omega, by rw [ups_at]; exact e.symm⟩, rfl⟩)
    · rw [gI_off (by omega)]
      rcases h3 x hx with z | ⟨z1, ⟨i, z2, z3⟩, z4⟩ | ⟨z1, z2, z3⟩ | z
      · exact Or.inl z
      · exact Or.inr (Or.inl ⟨z1, ⟨i, by omega, by rw [ups_of (by omega)]; exact z3⟩, z4⟩)
      · refine Or.inr (Or.inr (Or.inl ⟨z1, fun ⟨i, y1, y2⟩ => ?_, z3⟩))
        by_cases e1 : i = n
        · rw [e1, ups_at] at y2; exact e y2.symm
        · rw [ups_of e1] at y2; exact z2 ⟨i, by omega, y2⟩
      · exact Or.inr (Or.inr (Or.inr z))
theorem JQ.done {D : Dat} (ok : okD D) {τ : Mem} {h n : Nat} {qu : Nat → Nat} (q : JQ D τ h n qu) (ch : dC D h = true) (h0 : qu 0 = h) (hn : 0 < n) (na : ¬ AH D h h) (cl : ∀ i, i < n → ∀ x, x < nHD D → Rd D (qu i) x → AH D h x ∨ ∃ j, j < n ∧ qu j = x) : JS D τ (h + 1) := by
  obtain ⟨h1, h2, h3⟩ := q
  have nah : ∀ x, cc D h x → ¬ AH D h x := fun x c ⟨r, r1, r2, r3⟩ => na ⟨r, r1, r2, r3.trans (c.symm ok)⟩
  have all : ∀ x, cc D h x → ∃ i, i < n ∧ qu i = x := fun x c => c.ind (P := fun x => ∃ i, i < n ∧ qu i = x) ⟨0, hn, h0⟩ (fun c b ⟨i, i1, i2⟩ rr => by
    rw [← i2] at rr
    rcases cl i i1 b (ok.2.1 b rr.2.1) rr with z | z
    · exact absurd z (nah b ((h1 i i1).2.2.step rr))
    · exact z)
  intro x hx
  rcases h3 x hx with z | ⟨z1, ⟨i, z2, z3⟩, z4⟩ | ⟨z1, z2, z3, z4⟩ | ⟨z1, r, z2, z3, z4⟩
  · exact Or.inl z
  · refine Or.inr (Or.inr ⟨z1, h, by omega, z4, ch, by rw [← z3]; exact (h1 i z2).2.2, fun y c => ?_⟩)
    rcases Nat.lt_or_ge y h with w | w
    · exact absurd ⟨y, w, c.ct ch, c.symm ok⟩ na
    · exact w
  · refine Or.inr (Or.inl ⟨z1, fun ⟨r, r1, r2, r3⟩ => ?_, z4⟩)
    rcases Nat.lt_or_ge r h with w | w
    · exact z3 ⟨r, w, r2, r3⟩
    · have : r = h := by omega
      rw [this] at r3
      exact z2 (all x r3)
  · exact Or.inr (Or.inr ⟨z1, r, by omega, z3, z4⟩)
def spX10_join : SP := G [(2, [42]), (0, [])] (fun vs τ K => ∃ (D : Dat) (lo : Int32), vs = [.ref 42, .int lo] ∧ okD D ∧ RM D τ ∧ DXM D τ lo ∧ ∀ τ', Fr SJ τ τ' → RG D τ' → JG D τ' → K none τ')
theorem mnX10_join : Mono spX10_join := fun vs σ K1 K2 hK h => by
  obtain ⟨h1, D, lo, g1, g2, g3, g4, g5⟩ := h
  exact ⟨h1, D, lo, g1, g2, g3, g4, fun τ' q1 q2 q3 => hK _ _ (g5 τ' q1 q2 q3)⟩
set_option maxHeartbeats 8000000 in
theorem bdX10_join : Body 6 pgX10_join roM csX10_join lcX10 false spX10_join := by
  intro vs τ K h Ok hst
  obtain ⟨-, D, lo, rfl, ok, hR, hD, hk⟩ := h
  have hH := ok.1.2
  have h30 := ok.1.1
  have SJa : ∀ k j, SJ k j → ¬ (k = 43 ∨ k = 44 ∨ k = 58 ∨ (k = 42 ∧ (j = 2 ∨ j = 5))) := fun k j z => by unfold SJ at z; omega
  have SJd : ∀ k j, SJ k j → ¬ ((45 ≤ k ∧ k ≤ 54) ∨ k = 58 ∨ (k = 42 ∧ (j = 10 ∨ j = 14))) := fun k j z => by unfold SJ at z; omega
  have loopB : ∀ d h τ', h + d = nHD D → Fr SJ τ τ' → RG D τ' → JS D τ' h → ∀ x3 x4 x5, Ok 48 [some (.ref 42), some (.int lo), some (.int (nI h)), x3, x4, x5] [] τ' := by
    intro d
    induction d with
    | zero =>
      intro h τ' hd hF hG hJ x3 x4 x5
      have hR' := hR.fr hF SJa
      have e : h = nHD D := by omega
      have le : gI τ' 42 5 ≤ nI h := by rw [hR'.2.2.2.2.2, e]; exact Int32.le_refl _
      have jg : JG D τ' := fun x hx => by
        rcases hJ x hx with z | ⟨z1, z2, -⟩ | ⟨z1, r, z2, z3⟩
        · exact Or.inl z
        · exact absurd ⟨x, by omega, z1, cc.refl D x⟩ z2
        · exact Or.inr ⟨z1, r, by omega, z3⟩
      have fk := hk τ' hF hG jg
      refine hst [48] 60 _ _ _ _ ?_
      exact br_t le fk
    | succ d ih =>
      intro h τ' hd hF hG hJ x3 x4 x5
      have hR' := hR.fr hF SJa
      have nle : ¬ gI τ' 42 5 ≤ nI h := by rw [hR'.2.2.2.2.2]; exact nI_ge (by omega) (by omega)
      have vh : vp_in (nI h) 240 := inI (by omega) (by decide)
      have rh : rI (nI h) = h := rI_nI (by omega)
      rcases hJ h (by omega) with ⟨z1, z2⟩ | ⟨z1, z2, z3⟩ | ⟨z1, r, z2, z3, z4⟩
      · have c0 : ¬ gI τ' 59 (rI (nI h)) = -9 := by rw [rh, z2]; decide
        have nx := ih (h + 1) τ' (by omega) hF hG (fun x hx => by
          rcases hJ x hx with y | ⟨y1, y2, y3⟩ | ⟨y1, r, y2, y3⟩
          · exact Or.inl y
          · refine Or.inr (Or.inl ⟨y1, fun ⟨r, r1, r2, r3⟩ => ?_, y3⟩)
            rcases Nat.lt_or_ge r h with w | w
            · exact y2 ⟨r, w, r2, r3⟩
            · have : r = h := by omega
              rw [this, z1] at r2
              cases r2
          · exact Or.inr (Or.inr ⟨y1, r, by omega, y3⟩)) x3 x4 x5
        rw [← nI_1] at nx
        refine hst [48] 60 _ _ _ _ ?_
        exact br_f nle (And.intro vh (br_f c0 nx))
      · -- a new group, from h on
        have c0 : gI τ' 59 (rI (nI h)) = -9 := by rw [rh]; exact z3
        have loopC : ∀ d k n qu τ', k + d = nHD D → Fr SJ τ τ' → RG D τ' → JQ D τ' h n qu → qu 0 = h → 0 < n → k ≤ n → (∀ i, i < k → ∀ x, x < nHD D → Rd D (qu i) x → AH D h x ∨ ∃ j, j < n ∧ qu j = x) → ∀ x5, Ok 73 [some (.ref 42), some (.int lo), some (.int (nI h)), some (.int (nI n)), some (.int (nI k)), x5] [] τ' := by
          intro d
          have exit : ∀ k n qu τ', k = n → n ≤ nHD D → Fr SJ τ τ' → RG D τ' → JQ D τ' h n qu → qu 0 = h → 0 < n → (∀ i, i < k → ∀ x, x < nHD D → Rd D (qu i) x → AH D h x ∨ ∃ j, j < n ∧ qu j = x) → ∀ x5, Ok 73 [some (.ref 42), some (.int lo), some (.int (nI h)), some (.int (nI n)), some (.int (nI k)), x5] [] τ' := by
            intro k n qu τ' e hn hF hG hQ h0 hn0 hcl x5
            subst e
            have nx := ih (h + 1) τ' (by omega) hF hG (hQ.done ok z1 h0 hn0 z2 hcl) (some (.int (nI k))) (some (.int (nI k))) x5
            rw [← nI_1] at nx
            refine hst [48, 73] 60 _ _ _ _ ?_
            exact br_t (Int32.le_refl _) nx
          induction d with
          | zero =>
            intro k n qu τ' hd hF hG hQ h0 hn0 hkn hcl x5
            have hn := inj_le (fun i hi => (hQ.1 i hi).2.1) hQ.2.1
            exact exit k n qu τ' (by omega) hn hF hG hQ h0 hn0 hcl x5
          | succ d ihC =>
            intro k n qu τ' hd hF hG hQ h0 hn0 hkn hcl x5
            have hn := inj_le (fun i hi => (hQ.1 i hi).2.1) hQ.2.1
            by_cases e : k = n
            · exact exit k n qu τ' e hn hF hG hQ h0 hn0 hcl x5
            · have nlek : ¬ nI n ≤ nI k := nI_ge (by omega) (by omega)
              have loopD : ∀ d g n qu τ', g + d = nHD D → Fr SJ τ τ' → RG D τ' → JQ D τ' h n qu → qu 0 = h → k < n → (∀ i, i < k → ∀ x, x < nHD D → Rd D (qu i) x → AH D h x ∨ ∃ j, j < n ∧ qu j = x) → (∀ x, x < g → Rd D (qu k) x → AH D h x ∨ ∃ j, j < n ∧ qu j = x) → Ok 78 [some (.ref 42), some (.int lo), some (.int (nI h)), some (.int (nI n)), some (.int (nI k)), some (.int (nI g))] [] τ' := by
                intro d
                induction d with
                | zero =>
                  intro g n qu τ' hd' hF hG hQ h0 hkn' hcl hg
                  have hR' := hR.fr hF SJa
                  have e : g = nHD D := by omega
                  have le : gI τ' 42 5 ≤ nI g := by rw [hR'.2.2.2.2.2, e]; exact Int32.le_refl _
                  have nx := ihC (k + 1) n qu τ' (by omega) hF hG hQ h0 (by omega) (by omega) (fun i hi x hx rr => by
                    rcases Nat.lt_or_ge i k with w | w
                    · exact hcl i w x hx rr
                    · have : i = k := by omega
                      rw [this] at rr
                      exact hg x (by omega) rr) (some (.int (nI g)))
                  rw [← nI_1] at nx
                  refine hst [73, 78] 60 _ _ _ _ ?_
                  exact br_t le nx
                | succ d ihD =>
                  intro g n qu τ' hd' hF hG hQ h0 hkn' hcl hg
                  have hR' := hR.fr hF SJa
                  have hn := inj_le (fun i hi => (hQ.1 i hi).2.1) hQ.2.1
                  have nleg : ¬ gI τ' 42 5 ≤ nI g := by rw [hR'.2.2.2.2.2]; exact nI_ge (by omega) (by omega)
                  have vg : vp_in (nI g) 240 := inI (by omega) (by decide)
                  have rg : rI (nI g) = g := rI_nI (by omega)
                  have vk : vp_in (nI k) 240 := inI (by omega) (by decide)
                  have a := hQ.1 k hkn'
                  have ek : gI τ' 61 (rI (nI k)) = nI (qu k) := by rw [rI_nI (by omega)]; exact a.1
                  have stay : (Rd D (qu k) g → AH D h g ∨ ∃ j, j < n ∧ qu j = g) → Ok 78 [some (.ref 42), some (.int lo), some (.int (nI h)), some (.int (nI n)), some (.int (nI k)), some (.int (nI g + 1))] [] τ' := by
                    intro y
                    rw [nI_1]
                    refine ihD (g + 1) n qu τ' (by omega) hF hG hQ h0 hkn' hcl (fun x hx rr => ?_)
                    rcases Nat.lt_or_ge x g with w | w
                    · exact hg x w rr
                    · have : x = g := by omega
                      rw [this] at rr ⊢
                      exact y rr
                  by_cases c : gI τ' 59 g = -9
                  · have c' : gI τ' 59 (rI (nI g)) = -9 := by rw [rg]; exact c
                    have st : dC D g = true ∧ (¬ ∃ i, i < n ∧ qu i = g) ∧ ¬ AH D h g := by
                      rcases hQ.2.2 g (by omega) with ⟨-, y⟩ | ⟨-, -, y⟩ | ⟨y1, y2, y3, -⟩ | ⟨-, r, y1, y2, -⟩
                      · rw [y] at c; exact absurd c (by decide)
                      · rw [y] at c; exact absurd c (nI_n9 (by omega))
                      · exact ⟨y1, y2, y3⟩
                      · rw [y2] at c; exact absurd c (nI_n9 (by omega))
                    have cq := a.2.2.ct z1
                    have call : spX10_isNear [.ref 42, .int (gI τ' 61 (rI (nI k))), .int (nI g)] τ' (fun v σ' => ∃ b : Int32, v = some (.int b) ∧ (b = 0 → Ok 107 [some (.ref 42), some (.int lo), some (.int (nI h)), some (.int (nI n)), some (.int (nI k)), some (.int (nI g))] [] σ') ∧ (¬ b = 0 → Ok 96 [some (.ref 42), some (.int lo), some (.int (nI h)), some (.int (nI n)), some (.int (nI k)), some (.int (nI g))] [] σ')) := by
                      rw [ek]
                      refine And.intro rfl ⟨D, qu k, g, rfl, ok, hR', hG, a.2.1, by omega, fun nr => ⟨1, rfl, fun z => absurd z ne10, fun _ => ?_⟩, fun nr => ⟨0, rfl, fun _ => ?_, fun z => absurd rfl z⟩⟩
                      · have rr : Rd D (qu k) g := ⟨cq, st.1, nr⟩
                        obtain ⟨n1, n2⟩ := hQ.add (by omega) st.1 (a.2.2.step rr) st.2.1
                        have f2 : Fr SJ τ (qM τ' h g n) := (hF.put (Or.inl rfl)).put (Or.inr (Or.inr rfl))
                        have g2 : RG D (qM τ' h g n) := fun x hx => by
                          unfold qM
                          rw [gI_off (by omega), gI_off (by omega), gI_off (by omega), gI_off (by omega)]
                          exact hG x hx
                        have vn : vp_in (nI n) 240 := inI (by omega) (by decide)
                        have upq : ∀ x, (∃ j, j < n ∧ qu j = x) → ∃ j, j < n + 1 ∧ ups qu n g j = x := fun x ⟨j, j1, j2⟩ => ⟨j, by omega, by rw [ups_of (by omega)]; exact j2⟩
                        have nx := ihD (g + 1) (n + 1) (ups qu n g) (qM τ' h g n) (by omega) f2 g2 n2 (by rw [ups_of (by omega)]; exact h0) (by omega) (fun i hi x hx r2 => by
                          rw [ups_of (by omega)] at r2
                          rcases hcl i hi x hx r2 with w | w
                          · exact Or.inl w
                          · exact Or.inr (upq x w)) (fun x hx r2 => by
                          rw [ups_of (by omega)] at r2
                          rcases Nat.lt_or_ge x g with w | w
                          · rcases hg x w r2 with v | v
                            · exact Or.inl v
                            · exact Or.inr (upq x v)
                          · have : x = g := by omega
                            exact Or.inr ⟨n, by omega, by rw [ups_at]; exact this.symm⟩)
                        rw [← nI_1, ← nI_1] at nx
                        have nx2 : Ok 78 [some (.ref 42), some (.int lo), some (.int (nI h)), some (.int (nI n + 1)), some (.int (nI k)), some (.int (nI g + 1))] [] (sI (sI τ' 59 (rI (nI g)) (nI h)) 61 (rI (nI n)) (nI g)) := by
                          rw [rg, rI_nI (by omega)]
                          exact nx
                        refine hst [78] 60 _ _ _ _ ?_
                        exact And.intro vg (And.intro vn nx2)
                      · refine hst [78] 60 _ _ _ _ ?_
                        exact stay (fun rr => absurd rr.2.2 nr)
                    refine hst [78, 96, 107] 60 _ _ _ _ ?_
                    refine br_f nleg (And.intro vg (br_t c' (And.intro vk (And.intro (Nat.le_of_ble_eq_true rfl) (mnX10_isNear _ _ _ _ (fun v σ' y => ?_) call)))))
                    obtain ⟨b, rfl, y1, y2⟩ := y
                    exact And.intro y1 y2
                  · have c' : ¬ gI τ' 59 (rI (nI g)) = -9 := by rw [rg]; exact c
                    refine hst [78] 60 _ _ _ _ ?_
                    refine br_f nleg (And.intro vg (br_f c' (stay (fun rr => ?_))))
                    rcases hQ.2.2 g (by omega) with ⟨y, -⟩ | ⟨-, y, -⟩ | ⟨-, -, -, y⟩ | ⟨-, r, y1, y2, y3⟩
                    · rw [rr.2.1] at y; cases y
                    · exact Or.inr y
                    · exact absurd y c
                    · exact Or.inl ⟨r, y1, y3.1, y3.2.1⟩
              have l0 := loopD (nHD D) 0 n qu τ' (Nat.zero_add _) hF hG hQ h0 (by omega) hcl (fun x hx => absurd hx (Nat.not_lt_zero x))
              refine hst [73, 78] 60 _ _ _ _ ?_
              exact br_f nlek l0
        have v0 : vp_in 0 240 := inI (n := 0) (by decide) (by decide)
        have r0 : rI 0 = 0 := by decide
        have f1 : Fr SJ τ (qM τ' h h 0) := (hF.put (Or.inl rfl)).put (Or.inr (Or.inr rfl))
        have g1 : RG D (qM τ' h h 0) := fun x hx => by
          unfold qM
          rw [gI_off (by omega), gI_off (by omega), gI_off (by omega), gI_off (by omega)]
          exact hG x hx
        have q0 : JQ D τ' h 0 (fun _ => h) := ⟨fun i hi => absurd hi (Nat.not_lt_zero i), fun i j hi => absurd hi (Nat.not_lt_zero i), fun x hx => by
          rcases hJ x hx with y | ⟨y1, y2, y3⟩ | y
          · exact Or.inl y
          · exact Or.inr (Or.inr (Or.inl ⟨y1, fun ⟨i, w, _⟩ => absurd w (Nat.not_lt_zero i), y2, y3⟩))
          · exact Or.inr (Or.inr (Or.inr y))⟩
        have q1 := (q0.add (by omega) z1 (cc.refl D h) (fun ⟨i, w, _⟩ => absurd w (Nat.not_lt_zero i))).2
        have l0 := loopC (nHD D) 0 1 (ups (fun _ => h) 0 h) (qM τ' h h 0) (Nat.zero_add _) f1 g1 q1 (ups_at _ _ _) (by omega) (by omega) (fun i hi => absurd hi (Nat.not_lt_zero i)) x5
        have l1 : Ok 73 [some (.ref 42), some (.int lo), some (.int (nI h)), some (.int 1), some (.int 0), x5] [] (sI (sI τ' 59 (rI (nI h)) (nI h)) 61 (rI 0) (nI h)) := by
          rw [rh, r0]
          exact l0
        refine hst [48, 73] 60 _ _ _ _ ?_
        exact br_f nle (And.intro vh (br_t c0 (And.intro vh (And.intro v0 l1))))
      · have c0 : ¬ gI τ' 59 (rI (nI h)) = -9 := by rw [rh, z3]; exact nI_n9 (by omega)
        have nx := ih (h + 1) τ' (by omega) hF hG (fun x hx => by
          rcases hJ x hx with y | ⟨y1, y2, y3⟩ | ⟨y1, r', y2, y3⟩
          · exact Or.inl y
          · refine Or.inr (Or.inl ⟨y1, fun ⟨r', r1, r2, r3⟩ => ?_, y3⟩)
            rcases Nat.lt_or_ge r' h with w | w
            · exact y2 ⟨r', w, r2, r3⟩
            · have : r' = h := by omega
              rw [this] at r3
              exact y2 ⟨r, z2, z4.1, z4.2.1.trans r3⟩
          · exact Or.inr (Or.inr ⟨y1, r', by omega, y3⟩)) x3 x4 x5
        rw [← nI_1] at nx
        refine hst [48] 60 _ _ _ _ ?_
        exact br_f nle (And.intro vh (br_f c0 nx))
  have loopA : ∀ d h τ', h + d = nHD D → Fr SJ τ τ' → (∀ x, x < h → gI τ' 60 x = dTm D x ∧ ((dC D x = false ∧ gI τ' 59 x = -1) ∨ (dC D x = true ∧ gI τ' 59 x = -9))) → ∀ x3, Ok 2 [some (.ref 42), some (.int lo), some (.int (nI h)), x3, none, none] [] τ' := by
    intro d
    induction d with
    | zero =>
      intro h τ' hd hF hA x3
      have hR' := hR.fr hF SJa
      have hD' := hD.fr hF SJd
      have e : h = nHD D := by omega
      have le : gI τ' 42 5 ≤ nI h := by rw [hR'.2.2.2.2.2, e]; exact Int32.le_refl _
      have l0 := loopB (nHD D) 0 τ' (Nat.zero_add _) hF (fun x hx => ⟨(hA x (by omega)).1, (hD'.2.2 x hx).1⟩) (fun x hx => by
        rcases (hA x (by omega)).2 with y | y
        · exact Or.inl y
        · exact Or.inr (Or.inl ⟨y.1, fun ⟨r, w, _⟩ => absurd w (Nat.not_lt_zero r), y.2⟩)) x3 none none
      refine hst [2, 48] 60 _ _ _ _ ?_
      exact br_t le l0
    | succ d ih =>
      intro h τ' hd hF hA x3
      have hR' := hR.fr hF SJa
      have hD' := hD.fr hF SJd
      have nle : ¬ gI τ' 42 5 ≤ nI h := by rw [hR'.2.2.2.2.2]; exact nI_ge (by omega) (by omega)
      have vh : vp_in (nI h) 240 := inI (by omega) (by decide)
      have rh : rI (nI h) = h := rI_nI (by omega)
      have v34 : vp_in 3 4 := inI (n := 3) (by decide) (by decide)
      have r3 : rI 3 = 3 := by decide
      have f1 : Fr SJ τ (sI τ' 60 h (dTm D h)) := hF.put (Or.inr (Or.inl rfl))
      have h13 : ∀ τ1, τ1 = sI τ' 60 h (dTm D h) → Ok 13 [some (.ref 42), some (.int lo), some (.int (nI h)), x3, none, none] [] τ1 := by
        intro τ1 e1
        have f1 : Fr SJ τ τ1 := by rw [e1]; exact f1
        have hD1 := hD.fr f1 SJd
        obtain ⟨d1, d2, d3⟩ := hD1.2.2 h (by omega)
        have nx : ∀ v x3, ((dC D h = false ∧ v = -1) ∨ (dC D h = true ∧ v = -9)) → Ok 2 [some (.ref 42), some (.int lo), some (.int (nI h + 1)), x3, none, none] [] (sI τ1 59 (rI (nI h)) v) := by
          intro v x3 hv
          rw [nI_1, rh]
          refine ih (h + 1) _ (by omega) (f1.put (Or.inl rfl)) (fun x hx => ?_) x3
          by_cases c : x = h
          · rw [c, gI_off (by omega), gI_on ⟨rfl, rfl⟩, e1, gI_on ⟨rfl, rfl⟩]
            exact ⟨rfl, hv⟩
          · rw [gI_off (by omega), gI_off (by omega), e1, gI_off (by omega), gI_off (by omega)]
            exact hA x (by omega)
        have no : ¬ (¬ gI τ1 45 h = lo ∧ dutF (gI τ1 52) (gI τ1 53) (gI τ1 54) (gI τ1 45 h) (gI τ1 46 h) (rI (gI τ1 42 14)) = -9 ∧ gI τ1 58 3 ≤ amM (gI τ1 47 h) (gI τ1 48 h)) → dC D h = false := fun z => by
          cases e : dC D h with
          | false => rfl
          | true => exact absurd (d3.mp e) z
        clear e1
        by_cases c1 : gI τ1 45 h = lo
        · have c1' : gI τ1 45 (rI (nI h)) = lo := by rw [rh]; exact c1
          have nx := nx (-1) (some (.int 0)) (Or.inl ⟨no (fun z => z.1 c1), rfl⟩)
          refine hst [2] 60 _ _ _ _ ?_
          exact And.intro vh (br_t c1' (br_t rfl (And.intro vh nx)))
        · have c1' : ¬ gI τ1 45 (rI (nI h)) = lo := by rw [rh]; exact c1
          by_cases c2 : dutF (gI τ1 52) (gI τ1 53) (gI τ1 54) (gI τ1 45 h) (gI τ1 46 h) (rI (gI τ1 42 14)) = -9
          · have c2' : dutF (gI τ1 52) (gI τ1 53) (gI τ1 54) (gI τ1 45 (rI (nI h))) (gI τ1 46 (rI (nI h))) (rI (gI τ1 42 14)) = -9 := by rw [rh]; exact c2
            by_cases d3' : gI τ1 58 3 ≤ amM (gI τ1 47 h) (gI τ1 48 h)
            · have d4' : ¬ amM (gI τ1 47 (rI (nI h))) (gI τ1 48 (rI (nI h))) < gI τ1 58 (rI 3) := by rw [rh, r3]; exact Int32.not_lt.mpr d3'
              have nx := nx (-9) (some (.int 1)) (Or.inr ⟨d3.mpr ⟨c1, c2, d3'⟩, rfl⟩)
              refine hst [2] 60 _ _ _ _ ?_
              exact And.intro vh (br_f c1' (c4 (Nat.le_of_ble_eq_true rfl) rfl ⟨vh, hD1.2.1⟩ (brbT c2' (c4 (Nat.le_of_ble_eq_true rfl) rfl vh (And.intro v34 (br_f d4' (br_f ne10 (And.intro vh nx))))))))
            · have d4' : amM (gI τ1 47 (rI (nI h))) (gI τ1 48 (rI (nI h))) < gI τ1 58 (rI 3) := by rw [rh, r3]; exact Int32.not_le.mp d3'
              have nx := nx (-1) (some (.int 0)) (Or.inl ⟨no (fun z => d3' z.2.2), rfl⟩)
              refine hst [2] 60 _ _ _ _ ?_
              exact And.intro vh (br_f c1' (c4 (Nat.le_of_ble_eq_true rfl) rfl ⟨vh, hD1.2.1⟩ (brbT c2' (c4 (Nat.le_of_ble_eq_true rfl) rfl vh (And.intro v34 (br_t d4' (br_t rfl (And.intro vh nx))))))))
          · have c2' : ¬ dutF (gI τ1 52) (gI τ1 53) (gI τ1 54) (gI τ1 45 (rI (nI h))) (gI τ1 46 (rI (nI h))) (rI (gI τ1 42 14)) = -9 := by rw [rh]; exact c2
            have nx := nx (-1) (some (.int 0)) (Or.inl ⟨no (fun z => c2 z.2.1), rfl⟩)
            refine hst [2] 60 _ _ _ _ ?_
            exact And.intro vh (br_f c1' (c4 (Nat.le_of_ble_eq_true rfl) rfl ⟨vh, hD1.2.1⟩ (brbF c2' (br_t rfl (And.intro vh nx)))))
      have h13' : Ok 13 [some (.ref 42), some (.int lo), some (.int (nI h)), x3, none, none] [] (sI τ' 60 (rI (nI h)) (rtM τ' (rI (nI h)))) := by
        rw [rh, (hD'.2.2 h (by omega)).2.1]
        exact h13 _ rfl
      refine hst [2, 13] 60 _ _ _ _ ?_
      exact br_f nle (c4 (Nat.le_of_ble_eq_true rfl) rfl ⟨vh, hD'.1⟩ (And.intro vh h13'))
  refine hst [2] 60 _ _ _ _ ?_
  exact loopA (nHD D) 0 τ (Nat.zero_add _) (Fr.refl SJ τ) (fun x hx => absurd hx (Nat.not_lt_zero x)) none
