/-! numbers, counting, arguments -/
def bI (p : Prop) [Decidable p] : Int32 := if p then 1 else 0
theorem bI_pos {p : Prop} [Decidable p] (h : p) : bI p = 1 := if_pos h
theorem bI_neg {p : Prop} [Decidable p] (h : ¬ p) : bI p = 0 := if_neg h
theorem bI_0 {p : Prop} [Decidable p] : bI p = 0 ↔ ¬ p := by
  by_cases h : p
  · rw [bI_pos h]; exact ⟨fun z => absurd z (by decide), fun z => absurd h z⟩
  · rw [bI_neg h]; exact ⟨fun _ => h, fun _ => rfl⟩
theorem bI_01 (p : Prop) [Decidable p] : bI p = 0 ∨ bI p = 1 := by
  by_cases h : p
  · exact Or.inr (bI_pos h)
  · exact Or.inl (bI_neg h)
theorem bI_congr {p q : Prop} [Decidable p] [Decidable q] (h : p ↔ q) : bI p = bI q := by
  by_cases hp : p
  · rw [bI_pos hp, bI_pos (h.mp hp)]
  · rw [bI_neg hp, bI_neg (fun z => hp (h.mpr z))]
/-- a branch on a truth value -/
theorem brb {p A B : Prop} [Decidable p] (h1 : p → B) (h2 : ¬ p → A) : (bI p = 0 → A) ∧ (¬ bI p = 0 → B) :=
  ⟨fun h => h2 (bI_0.mp h), fun h => h1 (Decidable.not_not.mp fun z => h (bI_0.mpr z))⟩
def ai (vs : List Value) (i : Nat) : Int32 := match nth vs i with
  | some (.int x) => x
  | _ => 0
def al (vs : List Value) (i : Nat) : Int64 := match nth vs i with
  | some (.long x) => x
  | _ => 0
def ar (vs : List Value) (i : Nat) : Nat := match nth vs i with
  | some (.ref x) => x
  | _ => 0
/-- contracts: by a value; by a relation -/
def spV (pre : List Value → Mem → Prop) (val : List Value → Mem → Option Value × Mem) : SP := fun vs σ K => pre vs σ ∧ (match val vs σ with
  | (r, σ') => K r σ')
def spF (pre : List Value → Mem → Prop) (post : List Value → Mem → Option Value → Mem → Prop) : SP := fun vs σ K => pre vs σ ∧ ∀ r σ', post vs σ r σ' → K r σ'
theorem Mono.spV {sg : List (Nat × List Nat)} {pre : List Value → Mem → Prop} {val : List Value → Mem → Option Value × Mem} : Mono (G sg (spV pre val)) := fun _ _ _ _ hK h => ⟨h.1, h.2.1, hK _ _ h.2.2⟩
theorem Mono.spF {sg : List (Nat × List Nat)} {pre : List Value → Mem → Prop} {post : List Value → Mem → Option Value → Mem → Prop} : Mono (G sg (spF pre post)) := fun _ _ _ _ hK h => ⟨h.1, h.2.1, fun r σ' q => hK _ _ (h.2.2 r σ' q)⟩
theorem shpI {L : List Nat} {sg : List (Nat × List Nat)} {vs : List Value} (h : shp ((0, L) :: sg) vs = true) : ∃ x us, vs = .int x :: us ∧ shp sg us = true := by
  cases vs with
  | nil => cases h
  | cons v us =>
    cases v with
    | int x => exact ⟨x, us, rfl, h⟩
    | _ => cases h
theorem shpL {L : List Nat} {sg : List (Nat × List Nat)} {vs : List Value} (h : shp ((1, L) :: sg) vs = true) : ∃ x us, vs = .long x :: us ∧ shp sg us = true := by
  cases vs with
  | nil => cases h
  | cons v us =>
    cases v with
    | long x => exact ⟨x, us, rfl, h⟩
    | _ => cases h
theorem shpR {L : List Nat} {sg : List (Nat × List Nat)} {vs : List Value} (h : shp ((2, L) :: sg) vs = true) : ∃ x us, vs = .ref x :: us ∧ x ∈ L ∧ shp sg us = true := by
  cases vs with
  | nil => cases h
  | cons v us =>
    cases v with
    | ref x =>
      have h' : (bif inC L x then shp sg us else false) = true := h
      cases hc : inC L x with
      | true => rw [hc] at h'; exact ⟨x, us, rfl, inC_mem hc, h'⟩
      | false => rw [hc] at h'; cases h'
    | _ => cases h
theorem shpR1 {a : Nat} {sg : List (Nat × List Nat)} {vs : List Value} (h : shp ((2, [a]) :: sg) vs = true) : ∃ us, vs = .ref a :: us ∧ shp sg us = true := by
  obtain ⟨x, us, h1, h2, h3⟩ := shpR h
  rw [List.mem_singleton.mp h2] at h1
  exact ⟨us, h1, h3⟩
theorem shpN {vs : List Value} (h : shp [] vs = true) : vs = [] := by
  cases vs with
  | nil => rfl
  | cons v us => cases h
/-- the memory behind a write -/
theorem gI_sI (σ : Mem) (a j : Nat) (v : Int32) (k i : Nat) : gI (sI σ a j v) k i = if k = a ∧ i = j then v else gI σ k i := rfl
theorem gI_sL (σ : Mem) (a j : Nat) (v : Int64) (k i : Nat) : gI (sL σ a j v) k i = gI σ k i := rfl
theorem gL_sL (σ : Mem) (a j : Nat) (v : Int64) (k i : Nat) : gL (sL σ a j v) k i = if k = a ∧ i = j then v else gL σ k i := rfl
theorem gL_sI (σ : Mem) (a j : Nat) (v : Int32) (k i : Nat) : gL (sI σ a j v) k i = gL σ k i := rfl
theorem gI_sP (σ : Mem) (v k i : Nat) : gI (sP σ v) k i = gI σ k i := rfl
theorem gI_sQ (σ : Mem) (v k i : Nat) : gI (sQ σ v) k i = gI σ k i := rfl
theorem gL_sP (σ : Mem) (v k i : Nat) : gL (sP σ v) k i = gL σ k i := rfl
theorem gL_sQ (σ : Mem) (v k i : Nat) : gL (sQ σ v) k i = gL σ k i := rfl
theorem gP_sI (σ : Mem) (a j : Nat) (v : Int32) : gP (sI σ a j v) = gP σ := rfl
theorem gQ_sI (σ : Mem) (a j : Nat) (v : Int32) : gQ (sI σ a j v) = gQ σ := rfl
theorem gP_sL (σ : Mem) (a j : Nat) (v : Int64) : gP (sL σ a j v) = gP σ := rfl
theorem gQ_sL (σ : Mem) (a j : Nat) (v : Int64) : gQ (sL σ a j v) = gQ σ := rfl
theorem gP_sP (σ : Mem) (v : Nat) : gP (sP σ v) = v := rfl
theorem gQ_sP (σ : Mem) (v : Nat) : gQ (sP σ v) = gQ σ := rfl
theorem gP_sQ (σ : Mem) (v : Nat) : gP (sQ σ v) = gP σ := rfl
theorem gQ_sQ (σ : Mem) (v : Nat) : gQ (sQ σ v) = v := rfl
theorem Mem.ext {σ τ : Mem} (h1 : ∀ k j, gI σ k j = gI τ k j) (h2 : ∀ k j, gL σ k j = gL τ k j) (h3 : gP σ = gP τ) (h4 : gQ σ = gQ τ) : σ = τ := by
  obtain ⟨a, b, c, d⟩ := σ
  obtain ⟨a', b', c', d'⟩ := τ
  have e1 : a = a' := funext fun k => funext fun j => h1 k j
  have e2 : b = b' := funext fun k => funext fun j => h2 k j
  cases e1; cases e2; cases h3; cases h4
  rfl
/-- a loop's accumulator, step by step -/
def foldN {α : Type} (f : Nat → α → α) (a : α) : Nat → α
  | 0 => a
  | n + 1 => f n (foldN f a n)
theorem foldN_congr {α : Type} {f g : Nat → α → α} {a b : α} (hab : a = b) : ∀ {n : Nat}, (∀ i, i < n → ∀ x, f i x = g i x) → foldN f a n = foldN g b n
  | 0, _ => hab
  | n + 1, h => by
    show f n (foldN f a n) = g n (foldN g b n)
    rw [foldN_congr hab (fun i hi x => h i (Nat.lt_succ_of_lt hi) x), h n (Nat.lt_succ_self n)]
theorem foldN_inv {α : Type} {f : Nat → α → α} {a : α} (P : Nat → α → Prop) (h0 : P 0 a) : ∀ {n : Nat}, (∀ i x, i < n → P i x → P (i + 1) (f i x)) → P n (foldN f a n)
  | 0, _ => h0
  | n + 1, h => h n _ (Nat.lt_succ_self n) (foldN_inv P h0 (fun i x hi => h i x (Nat.lt_succ_of_lt hi)))
/-- cells n of them from a on become v -/
def fillM (σ : Mem) (k a n : Nat) (v : Int32) : Mem := (fun i j => if i = k ∧ a ≤ j ∧ j < a + n then v else σ.1 i j, σ.2)
theorem gI_fillM (σ : Mem) (k a n : Nat) (v : Int32) (i j : Nat) : gI (fillM σ k a n v) i j = if i = k ∧ a ≤ j ∧ j < a + n then v else gI σ i j := rfl
theorem gL_fillM (σ : Mem) (k a n : Nat) (v : Int32) (i j : Nat) : gL (fillM σ k a n v) i j = gL σ i j := rfl
theorem fillM_0 (σ : Mem) (k a : Nat) (v : Int32) : fillM σ k a 0 v = σ := by
  refine Mem.ext (fun i j => ?_) (fun _ _ => rfl) rfl rfl
  rw [gI_fillM, if_neg (by omega)]
theorem fillM_succ (σ : Mem) (k a n : Nat) (v : Int32) : sI (fillM σ k a n v) k (a + n) v = fillM σ k a (n + 1) v := by
  refine Mem.ext (fun i j => ?_) (fun _ _ => rfl) rfl rfl
  rw [gI_sI, gI_fillM, gI_fillM]
  by_cases h1 : i = k
  · by_cases h2 : j = a + n
    · rw [if_pos ⟨h1, h2⟩, if_pos ⟨h1, by omega, by omega⟩]
    · by_cases h3 : a ≤ j ∧ j < a + n
      · rw [if_neg (by omega), if_pos ⟨h1, h3⟩, if_pos ⟨h1, h3.1, by omega⟩]
      · rw [if_neg (by omega), if_neg (by omega), if_neg (by omega)]
  · rw [if_neg (fun q => h1 q.1), if_neg (fun q => h1 q.1), if_neg (fun q => h1 q.1)]
theorem rI_nI {n : Nat} (h : n < 2 ^ 31) : rI (nI n) = n := nI_clamp h
theorem inI {n N : Nat} (h : n < N) (hN : N < 2 ^ 31) : vp_in (nI n) N := vp_in_nI h hN
