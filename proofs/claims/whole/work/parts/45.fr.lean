/-! what else stays; the class's places, what is taken -/
def Fr (S : Nat → Nat → Prop) (σ τ : Mem) : Prop := (∀ k j, ¬ S k j → gI τ k j = gI σ k j) ∧ (∀ k j, gL τ k j = gL σ k j) ∧ gP τ = gP σ ∧ gQ τ = gQ σ
theorem Fr.refl (S : Nat → Nat → Prop) (σ : Mem) : Fr S σ σ := ⟨fun _ _ _ => rfl, fun _ _ => rfl, rfl, rfl⟩
theorem Fr.trans {S : Nat → Nat → Prop} {σ τ υ : Mem} (a : Fr S σ τ) (b : Fr S τ υ) : Fr S σ υ := ⟨fun k j h => (b.1 k j h).trans (a.1 k j h), fun k j => (b.2.1 k j).trans (a.2.1 k j), b.2.2.1.trans a.2.2.1, b.2.2.2.trans a.2.2.2⟩
theorem Fr.put {S : Nat → Nat → Prop} {σ τ : Mem} (a : Fr S σ τ) {k j : Nat} {v : Int32} (h : S k j) : Fr S σ (sI τ k j v) := by
  refine ⟨fun x y hn => ?_, a.2.1, a.2.2.1, a.2.2.2⟩
  rw [gI_off (fun z => hn (by rw [z.1, z.2]; exact h))]
  exact a.1 x y hn
theorem Fr.mono {S S' : Nat → Nat → Prop} {σ τ : Mem} (h : ∀ k j, S k j → S' k j) (a : Fr S σ τ) : Fr S' σ τ := ⟨fun k j hn => a.1 k j (fun z => hn (h k j z)), a.2⟩
theorem nb1 : vp_nar .boolean 1 = 1 := by decide
theorem nb0 : vp_nar .boolean 0 = 0 := by decide
theorem bm32 {x : Int} (h1 : -2 ^ 31 ≤ x) (h2 : x < 2 ^ 31) : x.bmod (2 ^ 32) = x := by
  rw [Int.bmod_eq_of_le] <;> omega
def SG (k j : Nat) : Prop := k = 25 ∨ k = 26 ∨ (k = 21 ∧ j = 6)
def PL (D : Dat) (τ : Mem) (m : Nat) (pl : Nat → Nat) : Prop := gI τ 21 4 = nI m ∧ m ≤ 240 ∧ (∀ p, p < m → gI τ 22 p = nI (pl p) ∧ gI τ 23 p = nI (dK D (pl p)) ∧ gI τ 24 p = dTm D (pl p) ∧ dC D (pl p) = true) ∧ (∀ p q, p < q → q < m → ahd D (pl p) (pl q)) ∧ ∀ h, dC D h = true → ∃ p, p < m ∧ pl p = h
theorem PL.fr {D : Dat} {S : Nat → Nat → Prop} {τ τ' : Mem} {m : Nat} {pl : Nat → Nat} (h : PL D τ m pl) (f : Fr S τ τ') (hS : ∀ k j, S k j → ¬ (k = 22 ∨ k = 23 ∨ k = 24 ∨ (k = 21 ∧ j = 4))) : PL D τ' m pl := by
  obtain ⟨h1, h2, h3, h4⟩ := h
  refine ⟨?_, h2, fun p hp => ?_, h4⟩
  · rw [f.1 _ _ (fun z => hS _ _ z (by omega))]; exact h1
  · rw [f.1 _ _ (fun z => hS _ _ z (by omega)), f.1 _ _ (fun z => hS _ _ z (by omega)), f.1 _ _ (fun z => hS _ _ z (by omega))]; exact h3 p hp
theorem PL.ne {D : Dat} {τ : Mem} {m : Nat} {pl : Nat → Nat} (h : PL D τ m pl) {p q : Nat} (hp : p < m) (hq : q < m) (e : pl p = pl q) : p = q := by
  rcases Nat.lt_trichotomy p q with g | g | g
  · have := h.2.2.2.1 p q g hq
    rw [e] at this
    exact this.irr.elim
  · exact g
  · have := h.2.2.2.1 q p g hp
    rw [e] at this
    exact this.irr.elim
def tkn (T0 : Nat → Prop) (gr : Nat → Nat) (n p : Nat) : Prop := T0 p ∨ ∃ i, i < n ∧ gr i = p
def GS (τ : Mem) (m : Nat) (T0 : Nat → Prop) (n : Nat) (gr : Nat → Nat) : Prop := gI τ 21 6 = nI n ∧ (∀ i, i < n → gI τ 26 i = nI (gr i) ∧ gr i < m ∧ ¬ T0 (gr i)) ∧ (∀ i j, i < n → j < n → gr i = gr j → i = j) ∧ ∀ p, p < m → (gI τ 25 p = 0 ∧ ¬ tkn T0 gr n p) ∨ (gI τ 25 p = 1 ∧ tkn T0 gr n p)
def ups (gr : Nat → Nat) (n p : Nat) : Nat → Nat := fun i => if i = n then p else gr i
theorem ups_at (gr : Nat → Nat) (n p : Nat) : ups gr n p n = p := if_pos rfl
theorem ups_of {gr : Nat → Nat} {n p i : Nat} (h : i ≠ n) : ups gr n p i = gr i := if_neg h
theorem ctN_all : ∀ k, ctN (fun _ => true) k = k
  | 0 => rfl
  | k + 1 => by
    show ctN (fun _ => true) k + 1 = k + 1
    rw [ctN_all k]
theorem inj_le {gr : Nat → Nat} {n m : Nat} (h1 : ∀ i, i < n → gr i < m) (h2 : ∀ i j, i < n → j < n → gr i = gr j → i = j) : n ≤ m := by
  have := ctN_into (p := fun _ => true) (q := fun _ => true) (g := gr) (n := n) (N := m) (fun t ht _ => ⟨h1 t ht, rfl⟩) (fun t t' ht ht' _ _ => h2 t t' ht ht')
  rw [ctN_all, ctN_all] at this
  exact this
theorem GS.le {τ : Mem} {m : Nat} {T0 : Nat → Prop} {n : Nat} {gr : Nat → Nat} (h : GS τ m T0 n gr) : n ≤ m := inj_le (fun i hi => (h.2.1 i hi).2.1) h.2.2.1
theorem tkn.up {T0 : Nat → Prop} {gr : Nat → Nat} {n p j : Nat} (h : tkn T0 gr n p) : tkn T0 (ups gr n j) (n + 1) p := by
  rcases h with h | ⟨i, h1, h2⟩
  · exact Or.inl h
  · exact Or.inr ⟨i, by omega, by rw [ups_of (by omega)]; exact h2⟩
theorem tkn.new (T0 : Nat → Prop) (gr : Nat → Nat) (n j : Nat) : tkn T0 (ups gr n j) (n + 1) j := Or.inr ⟨n, by omega, ups_at _ _ _⟩
def tkM (τ : Mem) (p : Nat) : Mem := sI (sI (sI τ 25 p 1) 26 (rI (gI τ 21 6)) (nI p)) 21 6 (gI τ 21 6 + 1)
theorem GS.take {τ : Mem} {m : Nat} {T0 : Nat → Prop} {n : Nat} {gr : Nat → Nat} (h : GS τ m T0 n gr) (hm : m ≤ 240) {p : Nat} (hp : p < m) (ht : gI τ 25 p = 0) : n < m ∧ GS (tkM τ p) m T0 (n + 1) (ups gr n p) ∧ Fr SG τ (tkM τ p) := by
  obtain ⟨h1, h2, h3, h4⟩ := h
  have hnt : ¬ tkn T0 gr n p := by
    rcases h4 p hp with q | q
    · exact q.2
    · rw [q.1] at ht; exact absurd ht (by decide)
  have hb : ∀ i, i < n + 1 → ups gr n p i < m := fun i hi => by
    by_cases e : i = n
    · rw [e, ups_at]; exact hp
    · rw [ups_of e]; exact (h2 i (by omega)).2.1
  have hi : ∀ i j, i < n + 1 → j < n + 1 → ups gr n p i = ups gr n p j → i = j := fun i j hi hj e => by
    by_cases e1 : i = n
    · by_cases e2 : j = n
      · omega
      · rw [e1, ups_at, ups_of e2] at e
        exact absurd (Or.inr ⟨j, by omega, e.symm⟩) hnt
    · by_cases e2 : j = n
      · rw [e2, ups_at, ups_of e1] at e
        exact absurd (Or.inr ⟨i, by omega, e⟩) hnt
      · rw [ups_of e1, ups_of e2] at e
        exact h3 i j (by omega) (by omega) e
  have hnm := inj_le hb hi
  have er : rI (gI τ 21 6) = n := by rw [h1]; exact rI_nI (by omega)
  refine ⟨by omega, ⟨?_, fun i hi => ⟨?_, hb i hi, ?_⟩, hi, fun q hq => ?_⟩, ?_⟩
  · unfold tkM
    rw [gI_on ⟨rfl, rfl⟩, h1, nI_1]
  · unfold tkM
    rw [gI_off (by omega), er]
    by_cases e : i = n
    · rw [gI_on ⟨rfl, e⟩, e, ups_at]
    · rw [gI_off (by omega), gI_off (by omega), ups_of e]
      exact (h2 i (by omega)).1
  · by_cases e : i = n
    · rw [e, ups_at]; exact fun z => hnt (Or.inl z)
    · rw [ups_of e]; exact (h2 i (by omega)).2.2
  · unfold tkM
    rw [gI_off (by omega), gI_off (by omega)]
    by_cases e : q = p
    · rw [gI_on ⟨rfl, e⟩, e]
      exact Or.inr ⟨rfl, tkn.new T0 gr n p⟩
    · rw [gI_off (by omega)]
      rcases h4 q hq with g | g
      · refine Or.inl ⟨g.1, fun z => g.2 ?_⟩
        rcases z with z | ⟨i, z1, z2⟩
        · exact Or.inl z
        · by_cases e1 : i = n
          · rw [e1, ups_at] at z2; exact absurd z2.symm e
          · rw [ups_of e1] at z2; exact Or.inr ⟨i, by omega, z2⟩
      · exact Or.inr ⟨g.1, g.2.up⟩
  · unfold tkM
    exact (((Fr.refl SG τ).put (Or.inl rfl)).put (Or.inr (Or.inl rfl))).put (Or.inr (Or.inr ⟨rfl, rfl⟩))
def sqT (σ : Mem) (a b : Nat) : Int32 := (gI σ 2 a - gI σ 2 b) * (gI σ 2 a - gI σ 2 b) + (gI σ 3 a - gI σ 3 b) * (gI σ 3 a - gI σ 3 b)
def LKD (D : Dat) (τ : Mem) (sq : Int32) : Prop := ∀ a b, a < nTD D → b < nTD D → (sqT τ a b ≤ sq ↔ dL D b a)
theorem LKD.fr {D : Dat} {S : Nat → Nat → Prop} {τ τ' : Mem} {sq : Int32} (h : LKD D τ sq) (f : Fr S τ τ') (hS : ∀ k j, S k j → ¬ (k = 2 ∨ k = 3)) : LKD D τ' sq := by
  intro a b ha hb
  have := h a b ha hb
  unfold sqT at *
  rw [f.1 _ _ (fun z => hS _ _ z (by omega)), f.1 _ _ (fun z => hS _ _ z (by omega)), f.1 _ _ (fun z => hS _ _ z (by omega)), f.1 _ _ (fun z => hS _ _ z (by omega))]
  exact this
theorem SG_pl : ∀ k j, SG k j → ¬ (k = 22 ∨ k = 23 ∨ k = 24 ∨ (k = 21 ∧ j = 4)) := fun k j h => by unfold SG at h; omega
theorem SG_lk : ∀ k j, SG k j → ¬ (k = 2 ∨ k = 3) := fun k j h => by unfold SG at h; omega
theorem d_sub {D : Dat} (ok : okD D) {g h : Nat} (hg : g < nHD D) (hh : h < nHD D) : (dTm D g - dTm D h).toInt = dM D g - dM D h := by
  have a := ok.2.2.1 g hg
  have b := ok.2.2.1 h hh
  have e : (dTm D g - dTm D h).toInt = ((dTm D g).toInt - (dTm D h).toInt).bmod (2 ^ 32) := Int32.toInt_sub ..
  unfold dM at *
  unfold dTm at *
  rw [e, bm32 (by omega) (by omega)]
def csX4_clear : Cs := []
def spX4_clear : SP := G [(2, [21])] (slf 1 pgX4_clear csX4_clear lcX4 false 5)
theorem bdX4_clear : Body 1 pgX4_clear roM csX4_clear lcX4 false spX4_clear := Body.slf
theorem mnX4_clear : Mono spX4_clear := Mono.slf csM_nil
def csX4_take : Cs := []
def spX4_take : SP := G [(2, [21]), (0, [])] (fun vs τ K => ∃ p : Nat, vs = [.ref 21, .int (nI p)] ∧ p < 240 ∧ vp_in (gI τ 21 6) 240 ∧ K none (tkM τ p))
theorem mnX4_take : Mono spX4_take := fun vs σ K1 K2 hK h => by
  obtain ⟨h1, p, g1, g2, g3, g4⟩ := h
  exact ⟨h1, p, g1, g2, g3, hK _ _ g4⟩
theorem bdX4_take : Body 2 pgX4_take roM csX4_take lcX4 false spX4_take := by
  intro vs τ K h Ok hst
  obtain ⟨-, p, rfl, hp, hin, hk⟩ := h
  have hk : K none (sI (sI (sI τ 25 (rI (nI p)) (vp_nar .boolean 1)) 26 (rI (gI τ 21 6)) (nI p)) 21 6 (gI τ 21 6 + 1)) := by
    rw [nb1, rI_nI (by omega)]
    exact hk
  refine hst [] 30 _ _ _ _ ?_
  exact And.intro (inI hp (by decide)) (And.intro hin hk)
def csX8_squareApart : Cs := []
def spX8_squareApart : SP := G [(2, [1]), (0, []), (0, [])] (spV (fun vs _ => match vs with
  | [_, .int a1, .int a2] => vp_in (a1) 30 ∧ vp_in (a2) 30
  | _ => True) (fun vs σ => match vs with
  | [_, .int a1, .int a2] => (some (.int (sqT σ (rI (a1)) (rI (a2)))), σ)
  | _ => (none, σ)))
theorem mnX8_squareApart : Mono spX8_squareApart := Mono.spV
theorem bdX8_squareApart : Body 5 pgX8_squareApart roM csX8_squareApart lcX8 false spX8_squareApart := by
  intro vs σ K h Ok hst
  obtain ⟨hs, hp9, hk⟩ := h
  obtain ⟨vs, rfl, hs1⟩ := shpR1 hs
  obtain ⟨a, vs, rfl, hs2⟩ := shpI hs1
  obtain ⟨b, vs, rfl, hs3⟩ := shpI hs2
  cases shpN hs3
  obtain ⟨hp1, hp2⟩ := hp9
  refine hst [] 40 _ _ _ _ ?_
  exact And.intro hp1 (And.intro hp2 (And.intro hp1 (And.intro hp2 hk)))
def csX4_takeIfClose : Cs := [(38, 1, true, spX4_take), (50, 2, true, spX8_squareApart)]
def tcP (τ : Mem) (p ka kp : Nat) (sq : Int32) : Prop := gI τ 25 p = 0 ∧ kp ≠ ka ∧ sqT τ kp ka ≤ sq
def spX4_takeIfClose : SP := G [(2, [21]), (0, []), (0, []), (2, [1]), (0, [])] (fun vs τ K => ∃ (a p ka kp : Nat) (sq : Int32), vs = [.ref 21, .int (nI a), .int (nI p), .ref 1, .int sq] ∧ (a < 240 ∧ p < 240 ∧ ka < 30 ∧ kp < 30) ∧ gI τ 23 a = nI ka ∧ gI τ 23 p = nI kp ∧ (tcP τ p ka kp sq → vp_in (gI τ 21 6) 240 ∧ K none (tkM τ p)) ∧ (¬ tcP τ p ka kp sq → K none τ))
theorem mnX4_takeIfClose : Mono spX4_takeIfClose := fun vs σ K1 K2 hK h => by
  obtain ⟨h1, a, p, ka, kp, sq, g1, g2, g3, g4, g5, g6⟩ := h
  exact ⟨h1, a, p, ka, kp, sq, g1, g2, g3, g4, fun q => ⟨(g5 q).1, hK _ _ (g5 q).2⟩, fun q => hK _ _ (g6 q)⟩
set_option maxHeartbeats 2000000 in
theorem bdX4_takeIfClose : Body 5 pgX4_takeIfClose roM csX4_takeIfClose lcX4 false spX4_takeIfClose := by
  intro vs τ K h Ok hst
  obtain ⟨-, a, p, ka, kp, sq, rfl, ⟨ha, hp, hka, hkp⟩, ea, ep, hT, hF⟩ := h
  have ra : rI (nI a) = a := rI_nI (by omega)
  have rp : rI (nI p) = p := rI_nI (by omega)
  have va : vp_in (nI a) 240 := inI ha (by decide)
  have vp : vp_in (nI p) 240 := inI hp (by decide)
  have ea' : gI τ 23 (rI (nI a)) = nI ka := by rw [ra]; exact ea
  have ep' : gI τ 23 (rI (nI p)) = nI kp := by rw [rp]; exact ep
  have v1 : vp_in (gI τ 23 (rI (nI p))) 30 := by rw [ep']; exact inI hkp (by decide)
  have v2 : vp_in (gI τ 23 (rI (nI a))) 30 := by rw [ea']; exact inI hka (by decide)
  have es : sqT τ (rI (gI τ 23 (rI (nI p)))) (rI (gI τ 23 (rI (nI a)))) = sqT τ kp ka := by rw [ea', ep', rI_nI (by omega), rI_nI (by omega)]
  refine hst [] 40 _ _ _ _ ?_
  refine And.intro vp ?_
  by_cases c1 : gI τ 25 p = 0
  · refine br_t (by rw [rp]; exact c1) ?_
    refine And.intro vp (And.intro va ?_)
    by_cases c2 : kp = ka
    · refine br_t (by rw [ea', ep', c2]) ?_
      exact hF (fun z => z.2.1 c2)
    · refine br_f (by rw [ea', ep']; exact fun z => c2 ((nI_eq (by omega) (by omega)).mp z)) ?_
      refine And.intro vp (And.intro va ?_)
      refine c4 (Nat.le_of_ble_eq_true rfl) rfl ⟨v1, v2⟩ ?_
      by_cases d1 : sqT τ kp ka ≤ sq
      · obtain ⟨h1, h2⟩ := hT ⟨c1, c2, d1⟩
        have d2 : ¬ sq < sqT τ (rI (gI τ 23 (rI (nI p)))) (rI (gI τ 23 (rI (nI a)))) := by rw [es]; exact Int32.not_lt.mpr d1
        exact br_f d2 (And.intro (Nat.le_of_ble_eq_true rfl) (And.intro rfl ⟨p, rfl, hp, h1, h2⟩))
      · have d2 : sq < sqT τ (rI (gI τ 23 (rI (nI p)))) (rI (gI τ 23 (rI (nI a)))) := by rw [es]; exact Int32.not_le.mp d1
        exact br_t d2 (hF (fun z => d1 z.2.2))
  · refine br_f (by rw [rp]; exact c1) ?_
    exact hF (fun z => c1 z.1)
