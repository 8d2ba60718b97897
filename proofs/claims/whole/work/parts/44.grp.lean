/-! GROUPS, in numbers: hits that hang together, their order, the events -/
abbrev Dat : Type := (Nat → Int32) × (Nat → Nat) × (Nat → Bool) × Int × (Nat → Nat → Prop) × Nat × Nat × Nat
def dTm (D : Dat) (h : Nat) : Int32 := D.1 h
def dM (D : Dat) (h : Nat) : Int := (D.1 h).toInt
def dK (D : Dat) (h : Nat) : Nat := D.2.1 h
def dC (D : Dat) (h : Nat) : Bool := D.2.2.1 h
def dW (D : Dat) : Int := D.2.2.2.1
def dL (D : Dat) (a b : Nat) : Prop := D.2.2.2.2.1 a b
def nTD (D : Dat) : Nat := D.2.2.2.2.2.1
def nHD (D : Dat) : Nat := D.2.2.2.2.2.2.1
def lsD (D : Dat) : Nat := D.2.2.2.2.2.2.2
def okD (D : Dat) : Prop := (nTD D ≤ 30 ∧ nHD D ≤ 240) ∧ (∀ h, dC D h = true → h < nHD D) ∧ (∀ h, h < nHD D → dK D h < nTD D ∧ -500 ≤ dM D h ∧ dM D h ≤ 20500) ∧ (∀ a b, dL D a b → dL D b a) ∧ (0 ≤ dW D ∧ dW D ≤ 300) ∧ 1 ≤ lsD D
def Rd (D : Dat) (g h : Nat) : Prop := dC D g = true ∧ dC D h = true ∧ dK D g ≠ dK D h ∧ (dM D g - dM D h ≤ dW D ∧ dM D h - dM D g ≤ dW D) ∧ dL D (dK D g) (dK D h)
theorem Rd.symm {D : Dat} (ok : okD D) {g h : Nat} (r : Rd D g h) : Rd D h g := ⟨r.2.1, r.1, Ne.symm r.2.2.1, ⟨r.2.2.2.1.2, r.2.2.2.1.1⟩, ok.2.2.2.1 _ _ r.2.2.2.2⟩
def rch (D : Dat) : Nat → Nat → Nat → Prop
  | 0, a, b => a = b
  | n + 1, a, b => ∃ c, rch D n a c ∧ Rd D c b
def cc (D : Dat) (a b : Nat) : Prop := ∃ n, rch D n a b
theorem cc.refl (D : Dat) (a : Nat) : cc D a a := ⟨0, rfl⟩
theorem cc.step {D : Dat} {a c b : Nat} (h : cc D a c) (r : Rd D c b) : cc D a b := by
  obtain ⟨n, h⟩ := h
  exact ⟨n + 1, c, h, r⟩
theorem cc.ind {D : Dat} {a b : Nat} {P : Nat → Prop} (h : cc D a b) (h0 : P a) (hs : ∀ c b, P c → Rd D c b → P b) : P b := by
  obtain ⟨n, h⟩ := h
  induction n generalizing b with
  | zero => have : a = b := h; rw [← this]; exact h0
  | succ n ih =>
    obtain ⟨c, h1, h2⟩ := h
    exact hs c b (ih h1) h2
theorem cc.trans {D : Dat} {a b c : Nat} (h1 : cc D a b) (h2 : cc D b c) : cc D a c := h2.ind (P := fun x => cc D a x) h1 (fun _ _ p r => p.step r)
theorem cc.symm {D : Dat} (ok : okD D) {a b : Nat} (h : cc D a b) : cc D b a := h.ind (P := fun x => cc D x a) (cc.refl D a) (fun _ _ p r => ((cc.refl D _).step (r.symm ok)).trans p)
theorem cc.ct {D : Dat} {a b : Nat} (h : cc D a b) (ha : dC D a = true) : dC D b = true := h.ind (P := fun x => dC D x = true) ha (fun _ _ _ r => r.2.1)
def ahd (D : Dat) (g h : Nat) : Prop := dM D g < dM D h ∨ (dM D g = dM D h ∧ g < h)
theorem ahd.irr {D : Dat} {g : Nat} (h : ahd D g g) : False := by unfold ahd at h; omega
theorem ahd.asym {D : Dat} {g h : Nat} (h1 : ahd D g h) (h2 : ahd D h g) : False := by unfold ahd at h1 h2; omega
theorem ahd.trans {D : Dat} {a b c : Nat} (h1 : ahd D a b) (h2 : ahd D b c) : ahd D a c := by unfold ahd at *; omega
theorem ahd.tot (D : Dat) (a b : Nat) : ahd D a b ∨ a = b ∨ ahd D b a := by unfold ahd; omega
def led (D : Dat) (h : Nat) : Prop := ∀ x, cc D h x → x = h ∨ ahd D h x
def bsr (D : Dat) (f t h : Nat) : Prop := cc D f h ∧ dK D h = t ∧ ∀ x, cc D f x → dK D x = t → x = h ∨ ahd D h x
theorem bsr.uniq {D : Dat} {f t h h' : Nat} (a : bsr D f t h) (b : bsr D f t h') : h = h' := by
  rcases a.2.2 h' b.1 b.2.1 with e | e
  · exact e.symm
  · rcases b.2.2 h a.1 a.2.1 with e' | e'
    · exact e'
    · exact (e.asym e').elim
theorem bsr.cc {D : Dat} (ok : okD D) {f f' t h : Nat} (c : cc D f f') (a : bsr D f t h) : bsr D f' t h := ⟨(c.symm ok).trans a.1, a.2.1, fun x hx => a.2.2 x (c.trans hx)⟩
noncomputable def hsT (D : Dat) (f t : Nat) : Bool := @decide (∃ h, cc D f h ∧ dK D h = t) (Classical.propDecidable _)
theorem hsT_iff {D : Dat} {f t : Nat} : hsT D f t = true ↔ ∃ h, cc D f h ∧ dK D h = t := by simp [hsT]
theorem hsT_cc {D : Dat} (ok : okD D) {f f' : Nat} (c : cc D f f') : hsT D f = hsT D f' := by
  funext t
  rw [Bool.eq_iff_iff, hsT_iff, hsT_iff]
  exact ⟨fun ⟨h, h1, h2⟩ => ⟨h, (c.symm ok).trans h1, h2⟩, fun ⟨h, h1, h2⟩ => ⟨h, c.trans h1, h2⟩⟩
noncomputable def nk (D : Dat) (f : Nat) : Nat := ctN (hsT D f) (nTD D)
noncomputable def inG (D : Dat) (f h : Nat) : Bool := @decide (cc D f h) (Classical.propDecidable _)
theorem inG_iff {D : Dat} {f h : Nat} : inG D f h = true ↔ cc D f h := by simp [inG]
noncomputable def szG (D : Dat) (f : Nat) : Nat := ctN (inG D f) (nHD D)
theorem szG_cc {D : Dat} (ok : okD D) {f f' : Nat} (c : cc D f f') : szG D f = szG D f' := by
  refine ctN_congr (fun h _ => ?_)
  rw [Bool.eq_iff_iff, inG_iff, inG_iff]
  exact ⟨fun x => (c.symm ok).trans x, fun x => c.trans x⟩
def isE (D : Dat) (f : Nat) : Prop := dC D f = true ∧ led D f ∧ lsD D ≤ nk D f
theorem led.uniq {D : Dat} (ok : okD D) {f f' : Nat} (a : led D f) (b : led D f') (c : cc D f f') : f = f' := by
  rcases a f' c with e | e
  · exact e.symm
  · rcases b f (c.symm ok) with e' | e'
    · exact e'
    · exact (e.asym e').elim
/-- the events in their order -/
def evS (D : Dat) (F : Nat → Nat) (n : Nat) : Prop := (∀ i j, i < j → j < n → ahd D (F i) (F j)) ∧ ∀ f, isE D f ↔ ∃ i, i < n ∧ F i = f
theorem evS.ne {D : Dat} {F : Nat → Nat} {n : Nat} (a : evS D F n) {i j : Nat} (hi : i < n) (hj : j < n) (e : F i = F j) : i = j := by
  rcases Nat.lt_trichotomy i j with g | g | g
  · have := a.1 i j g hj
    rw [e] at this
    exact this.irr.elim
  · exact g
  · have := a.1 j i g hi
    rw [e] at this
    exact this.irr.elim
theorem evS.at {D : Dat} {F F' : Nat → Nat} {n n' : Nat} (a : evS D F n) (b : evS D F' n') : ∀ i, i < n → i < n' ∧ F i = F' i := by
  intro i
  induction i using Nat.strongRecOn with
  | _ i ih =>
    intro hi
    obtain ⟨j, hj, ej⟩ := (b.2 (F i)).mp ((a.2 (F i)).mpr ⟨i, hi, rfl⟩)
    have hij : i ≤ j := by
      rcases Nat.lt_or_ge j i with g | g
      · have := (ih j g (by omega)).2
        rw [ej] at this
        have := a.ne (by omega) hi this
        omega
      · exact g
    refine ⟨by omega, ?_⟩
    rcases Nat.lt_or_ge i j with g | g
    · exfalso
      obtain ⟨k, hk, ek⟩ := (a.2 (F' i)).mp ((b.2 (F' i)).mpr ⟨i, by omega, rfl⟩)
      have h1 := b.1 i j g hj
      rw [ej, ← ek] at h1
      rcases Nat.lt_trichotomy i k with q | q | q
      · exact h1.asym (a.1 i k q hk)
      · rw [← q] at h1; exact h1.irr
      · have := (ih k q hk).2
        rw [ek] at this
        have := b.ne (i := i) (j := k) (by omega) (by omega) this
        omega
    · have : j = i := by omega
      rw [this] at ej
      exact ej.symm
theorem evS.uniq {D : Dat} {F F' : Nat → Nat} {n n' : Nat} (a : evS D F n) (b : evS D F' n') : n = n' ∧ ∀ i, i < n → F i = F' i := by
  refine ⟨?_, fun i hi => (a.at b i hi).2⟩
  rcases Nat.lt_trichotomy n n' with g | g | g
  · have := (b.at a n g).1; omega
  · exact g
  · have := (a.at b n' g).1; omega
/-- where an event's members begin -/
noncomputable def stF (D : Dat) (F : Nat → Nat) : Nat → Nat
  | 0 => 0
  | e + 1 => stF D F e + nk D (F e)
theorem stF_congr {D : Dat} {F F' : Nat → Nat} : ∀ {e : Nat}, (∀ i, i < e → F i = F' i) → stF D F e = stF D F' e
  | 0, _ => rfl
  | e + 1, h => by
    show stF D F e + nk D (F e) = stF D F' e + nk D (F' e)
    rw [stF_congr (fun i hi => h i (Nat.lt_succ_of_lt hi)), h e (Nat.lt_succ_self e)]
theorem ctN_mo (p : Nat → Bool) : ∀ {a b : Nat}, a ≤ b → ctN p a ≤ ctN p b := by
  intro a b h
  induction b with
  | zero => have : a = 0 := by omega
            rw [this]; exact Nat.le_refl _
  | succ b ih =>
    rcases Nat.lt_or_ge a (b + 1) with g | g
    · have := ih (by omega)
      show ctN p a ≤ ctN p b + (bif p b then 1 else 0)
      omega
    · have : a = b + 1 := by omega
      rw [this]; exact Nat.le_refl _
theorem ctN_T {p : Nat → Bool} {n : Nat} (h : p n = true) : ctN p (n + 1) = ctN p n + 1 := by
  show ctN p n + (bif p n then 1 else 0) = ctN p n + 1
  rw [h]; rfl
theorem ctN_F {p : Nat → Bool} {n : Nat} (h : p n = false) : ctN p (n + 1) = ctN p n := by
  show ctN p n + (bif p n then 1 else 0) = ctN p n
  rw [h]; rfl
theorem ctN_sur (p : Nat → Bool) : ∀ {n q : Nat}, q < ctN p n → ∃ t, t < n ∧ p t = true ∧ q = ctN p t
  | 0, q, h => absurd h (Nat.not_lt_zero q)
  | n + 1, q, h => by
    rcases Nat.lt_or_ge q (ctN p n) with g | g
    · obtain ⟨t, h1, h2, h3⟩ := ctN_sur p g
      exact ⟨t, by omega, h2, h3⟩
    · cases hp : p n with
      | false => rw [ctN_F hp] at h; omega
      | true => rw [ctN_T hp] at h; exact ⟨n, by omega, hp, by omega⟩
theorem ctN_inj {p : Nat → Bool} {t t' : Nat} (h : p t = true) (h' : p t' = true) (e : ctN p t = ctN p t') : t = t' := by
  rcases Nat.lt_trichotomy t t' with g | g | g
  · have := ctN_mo p (show t + 1 ≤ t' by omega)
    rw [ctN_T h] at this; omega
  · exact g
  · have := ctN_mo p (show t' + 1 ≤ t by omega)
    rw [ctN_T h'] at this; omega
/-- counting by way of different numbers -/
theorem ctN_into {p : Nat → Bool} {g : Nat → Nat} : ∀ {n : Nat} {q : Nat → Bool} {N : Nat}, (∀ t, t < n → p t = true → g t < N ∧ q (g t) = true) → (∀ t t', t < n → t' < n → p t = true → p t' = true → g t = g t' → t = t') → ctN p n ≤ ctN q N
  | 0, _, _, _, _ => Nat.zero_le _
  | n + 1, q, N, h1, h2 => by
    cases hp : p n with
    | false =>
      rw [ctN_F hp]
      exact ctN_into (fun t ht => h1 t (by omega)) (fun t t' ht ht' => h2 t t' (by omega) (by omega))
    | true =>
      rw [ctN_T hp]
      obtain ⟨g1, g2⟩ := h1 n (Nat.lt_succ_self n) hp
      have e := ctN_one (p := fun x => q x && !decide (x = g n)) (q := q) (a := g n) (n := N) g1 (by simp) g2 (fun i _ hne => by simp [hne])
      have := ctN_into (p := p) (g := g) (n := n) (q := fun x => q x && !decide (x = g n)) (N := N) (fun t ht htp => by
        obtain ⟨k1, k2⟩ := h1 t (by omega) htp
        refine ⟨k1, ?_⟩
        have hne : g t ≠ g n := fun z => by
          have := h2 t n (by omega) (Nat.lt_succ_self n) htp hp z
          omega
        simp [k2, hne]) (fun t t' ht ht' => h2 t t' (by omega) (by omega))
      omega
theorem ctN_or {p q : Nat → Bool} : ∀ {n : Nat}, (∀ i, i < n → p i = true → q i = true → False) → ctN p n + ctN q n = ctN (fun i => p i || q i) n
  | 0, _ => rfl
  | n + 1, h => by
    have ih := ctN_or (p := p) (q := q) (n := n) (fun i hi => h i (by omega))
    have h := h n (Nat.lt_succ_self n)
    show ctN p n + (bif p n then 1 else 0) + (ctN q n + (bif q n then 1 else 0)) = ctN (fun i => p i || q i) n + (bif p n || q n then 1 else 0)
    rw [← ih]
    cases hp : p n with
    | false => cases hq : q n <;> simp <;> omega
    | true => cases hq : q n with
      | false => simp; omega
      | true => exact (h hp hq).elim
/-- a member for each tank of a group -/
theorem nk_le {D : Dat} (ok : okD D) {f : Nat} (hf : dC D f = true) : nk D f ≤ szG D f := by
  have ex : ∀ t, ∃ h, hsT D f t = true → cc D f h ∧ dK D h = t := fun t => by
    by_cases q : ∃ h, cc D f h ∧ dK D h = t
    · obtain ⟨h, q⟩ := q
      exact ⟨h, fun _ => q⟩
    · exact ⟨0, fun z => absurd (hsT_iff.mp z) q⟩
  refine ctN_into (g := fun t => Classical.choose (ex t)) (fun t _ hp => ?_) (fun t t' _ _ hp hp' e => ?_)
  · have := Classical.choose_spec (ex t) hp
    exact ⟨ok.2.1 _ (this.1.ct hf), inG_iff.mpr this.1⟩
  · have h1 := (Classical.choose_spec (ex t) hp).2
    have h2 := (Classical.choose_spec (ex t') hp').2
    have e : Classical.choose (ex t) = Classical.choose (ex t') := e
    rw [← h1, ← h2, e]
noncomputable def inU (D : Dat) (F : Nat → Nat) (e h : Nat) : Bool := @decide (∃ i, i < e ∧ cc D (F i) h) (Classical.propDecidable _)
theorem inU_iff {D : Dat} {F : Nat → Nat} {e h : Nat} : inU D F e h = true ↔ ∃ i, i < e ∧ cc D (F i) h := by simp [inU]
theorem stF_le {D : Dat} (ok : okD D) {F : Nat → Nat} : ∀ {e : Nat}, (∀ i, i < e → dC D (F i) = true) → (∀ i j, i < j → j < e → ¬ cc D (F i) (F j)) → stF D F e ≤ ctN (inU D F e) (nHD D)
  | 0, _, _ => Nat.zero_le _
  | e + 1, h1, h2 => by
    have ih := stF_le ok (F := F) (e := e) (fun i hi => h1 i (by omega)) (fun i j hij hj => h2 i j hij (by omega))
    have k := nk_le ok (h1 e (Nat.lt_succ_self e))
    have o := ctN_or (p := inU D F e) (q := inG D (F e)) (n := nHD D) (fun h _ a b => by
      obtain ⟨i, i1, i2⟩ := inU_iff.mp a
      exact h2 i e i1 (Nat.lt_succ_self e) (i2.trans ((inG_iff.mp b).symm ok)))
    have c : ctN (fun i => inU D F e i || inG D (F e) i) (nHD D) = ctN (inU D F (e + 1)) (nHD D) := ctN_congr (fun h _ => by
      rw [Bool.eq_iff_iff, Bool.or_eq_true, inU_iff, inU_iff, inG_iff]
      constructor
      · rintro (⟨i, a, b⟩ | a)
        · exact ⟨i, by omega, b⟩
        · exact ⟨e, by omega, a⟩
      · rintro ⟨i, a, b⟩
        rcases Nat.lt_or_ge i e with g | g
        · exact Or.inl ⟨i, g, b⟩
        · have : i = e := by omega
          rw [this] at b
          exact Or.inr b)
    show stF D F e + nk D (F e) ≤ _
    unfold szG at k
    omega
theorem stF_240 {D : Dat} (ok : okD D) {F : Nat → Nat} {e : Nat} (h1 : ∀ i, i < e → dC D (F i) = true) (h2 : ∀ i j, i < j → j < e → ¬ cc D (F i) (F j)) : stF D F e ≤ nHD D := Nat.le_trans (stF_le ok h1 h2) (ctN_le _ _)
theorem stF_pos {D : Dat} {F : Nat → Nat} : ∀ {n p : Nat}, p < stF D F n → ∃ e t, e < n ∧ t < nTD D ∧ hsT D (F e) t = true ∧ p = stF D F e + ctN (hsT D (F e)) t
  | 0, p, h => absurd h (Nat.not_lt_zero p)
  | n + 1, p, h => by
    rcases Nat.lt_or_ge p (stF D F n) with g | g
    · obtain ⟨e, t, h1, h2⟩ := stF_pos g
      exact ⟨e, t, by omega, h2⟩
    · have h : p < stF D F n + nk D (F n) := h
      obtain ⟨t, t1, t2, t3⟩ := ctN_sur (hsT D (F n)) (n := nTD D) (q := p - stF D F n) (by unfold nk at h; omega)
      exact ⟨n, t, by omega, t1, t2, by omega⟩
theorem stF_mo {D : Dat} {F : Nat → Nat} : ∀ {a b : Nat}, a ≤ b → stF D F a ≤ stF D F b := by
  intro a b h
  induction b with
  | zero => have : a = 0 := by omega
            rw [this]; exact Nat.le_refl _
  | succ b ih =>
    rcases Nat.lt_or_ge a (b + 1) with g | g
    · have := ih (by omega)
      show stF D F a ≤ stF D F b + nk D (F b)
      omega
    · have : a = b + 1 := by omega
      rw [this]; exact Nat.le_refl _
theorem nk_lt {D : Dat} {f t : Nat} (ht : t < nTD D) (h : hsT D f t = true) : ctN (hsT D f) t < nk D f := by
  have := ctN_mo (hsT D f) (show t + 1 ≤ nTD D by omega)
  rw [ctN_T h] at this
  exact this
