/-! the shapes of arguments; a body that is its own contract; contracts grow with what is asked -/
def shp : List (Nat × List Nat) → List Value → Bool
  | [], [] => true
  | (0, _) :: sg, .int _ :: vs => shp sg vs
  | (1, _) :: sg, .long _ :: vs => shp sg vs
  | (2, L) :: sg, .ref a :: vs => bif inC L a then shp sg vs else false
  | _, _ => false
def G (sg : List (Nat × List Nat)) (f : SP) : SP := fun vs σ K => shp sg vs = true ∧ f vs σ K
def sgW : List (Nat × List Nat) → Nat
  | [] => 0
  | (1, _) :: r => 2 + sgW r
  | _ :: r => 1 + sgW r
theorem shp_sl : ∀ {sg : List (Nat × List Nat)} {vs : List Value}, shp sg vs = true → (lg_sl vs).length ≤ sgW sg := by
  intro sg
  induction sg with
  | nil =>
    intro vs h
    cases vs with
    | nil => exact Nat.le_refl _
    | cons v vs => simp [shp] at h
  | cons a sg ih =>
    intro vs h
    obtain ⟨t, L⟩ := a
    have e : ∀ (u : Value) (us : List Value), lg_sl (u :: us) = (if u.category = 2 then [Slot.val u, Slot.second] else [Slot.val u]) ++ lg_sl us := fun u us => rfl
    cases vs with
    | nil => unfold shp at h; split at h <;> simp_all
    | cons v vs =>
      rw [e, List.length_append]
      unfold shp at h
      split at h
      · simp_all
      · rename_i h1 h2
        cases h1; cases h2
        have := ih h
        simp [sgW, Value.category]; omega
      · rename_i h1 h2
        cases h1; cases h2
        have := ih h
        simp [sgW, Value.category]; omega
      · rename_i b us h1 h2
        cases h1; cases h2
        cases hc : inC L b with
        | false => rw [hc] at h; cases h
        | true =>
          rw [hc] at h
          have := ih h
          simp [sgW, Value.category]; omega
      · cases h
theorem G_sl {sg : List (Nat × List Nat)} {f : SP} {nL : Nat} (h : sgW sg ≤ nL) : ∀ vs σ K, G sg f vs σ K → (lg_sl vs).length ≤ nL := fun _ _ _ h1 => Nat.le_trans (shp_sl h1.1) h
def rcvChk (C : String) : List (Nat × List Nat) → Bool
  | (2, L) :: _ => L.all (fun b => match nth lay b with
    | some (.inr (ci, _)) => (match classes[ci]? with
      | some q => q.1 == C
      | none => false)
    | _ => false)
  | _ => false
theorem inC_mem : ∀ {L : List Nat} {a : Nat}, inC L a = true → a ∈ L
  | [], _, h => by cases h
  | b :: L, a, h => by
    unfold inC at h
    cases e : Nat.beq b a with
    | true => rw [Nat.eq_of_beq_eq_true e]; exact List.mem_cons_self
    | false => rw [e] at h; exact List.mem_cons_of_mem _ (inC_mem h)
theorem rcv_G {C : String} {sg : List (Nat × List Nat)} {f : SP} (h : rcvChk C sg = true) : rcv C (G sg f) := by
  intro vs σ K h1
  have hs := h1.1
  unfold rcvChk at h
  split at h
  · rename_i L r
    cases vs with
    | nil => cases hs
    | cons v vs =>
      cases v with
      | ref b =>
        have hb : inC L b = true := by
          cases hc : inC L b with
          | true => rfl
          | false =>
            have hs' : (bif inC L b then shp r vs else false) = true := hs
            rw [hc] at hs'
            cases hs'
        have h2 := List.all_eq_true.mp h b (inC_mem hb)
        split at h2
        · rename_i ci fds hl
          split at h2
          · rename_i q hq
            exact ⟨b, vs, ci, fds, q, rfl, hl, hq, by simpa using h2⟩
          · cases h2
        · cases h2
      | _ => cases hs
  · cases h
def slf (nL : Nat) (pg : List Ent) (cs : Cs) (lcs : List (Nat × Int64)) (zr : Bool) (N : Nat) : SP := fun vs σ K => wps pg roM cs lcs zr [] (fun _ _ _ _ => False) K N 0 (padL nL (entL vs)) [] σ
theorem wps_nocut {pg : List Ent} {ro : Ro} {cs : Cs} {lcs : List (Nat × Int64)} {zr : Bool} {Ok1 Ok2 : Nat → Lv → List Value → Mem → Prop} {Q : Option Value → Mem → Prop} : ∀ (n : Nat), wps pg ro cs lcs zr [] Ok1 Q n = wps pg ro cs lcs zr [] Ok2 Q n
  | 0 => rfl
  | n + 1 => by
    funext k lv st σ
    show wstep pg ro cs lcs zr Q (fun k lv st σ => wps pg ro cs lcs zr [] Ok1 Q n k lv st σ) k lv st σ = wstep pg ro cs lcs zr Q (fun k lv st σ => wps pg ro cs lcs zr [] Ok2 Q n k lv st σ) k lv st σ
    rw [wps_nocut n]
theorem Body.slf {nL : Nat} {pg : List Ent} {cs : Cs} {lcs : List (Nat × Int64)} {zr : Bool} {N : Nat} {sg : List (Nat × List Nat)} : Body nL pg roM cs lcs zr (G sg (slf nL pg cs lcs zr N)) := by
  intro vs σ K h Ok hst
  refine hst [] N 0 _ _ _ ?_
  have h2 := h.2
  unfold _root_.Jvm.Pilot.CTankFieldLaw_law_r1737_6f1891.slf at h2
  rw [wps_nocut (Ok2 := Ok)] at h2
  exact h2
def Mono (sp : SP) : Prop := ∀ vs σ K1 K2, (∀ v σ', K1 v σ' → K2 v σ') → sp vs σ K1 → sp vs σ K2
def csM (cs : Cs) : Prop := ∀ i n vb sp, fnd cs i = some (n, vb, sp) → Mono sp
theorem csM_nil : csM [] := fun _ _ _ _ h => by cases h
theorem csM_cons {i n : Nat} {vb : Bool} {sp : SP} {r : Cs} (h : Mono sp) (t : csM r) : csM ((i, n, vb, sp) :: r) := by
  intro i' n' vb' sp' h'
  unfold fnd at h'
  cases e : Nat.beq i i' with
  | true => rw [e] at h'; cases h'; exact h
  | false => rw [e] at h'; exact t _ _ _ _ h'
theorem swA_mono {n1 n2 : Nat → Prop} (h : ∀ t, n1 t → n2 t) {x : Int32} {d : Nat} : ∀ {L : List (Int32 × Nat)}, swA n1 x d L → swA n2 x d L
  | [], q => h _ q
  | (_, _) :: _, q => ⟨fun e => h _ (q.1 e), fun e => swA_mono h (q.2 e)⟩
set_option maxHeartbeats 4000000 in
theorem wstep_mono {pg : List Ent} {ro : Ro} {cs : Cs} {lcs : List (Nat × Int64)} {zr : Bool} {Q1 Q2 : Option Value → Mem → Prop} {n1 n2 : Nat → Lv → List Value → Mem → Prop} (hc : csM cs) (hQ : ∀ v σ, Q1 v σ → Q2 v σ) (hn : ∀ k lv st σ, n1 k lv st σ → n2 k lv st σ) {k : Nat} {lv : Lv} {st : List Value} {σ : Mem} (h : wstep pg ro cs lcs zr Q1 n1 k lv st σ) : wstep pg ro cs lcs zr Q2 n2 k lv st σ := by
  unfold wstep at h ⊢
  cases hk : nth pg k with
  | none => rw [hk] at h; exact h.elim
  | some en =>
    obtain ⟨pc, nn, ins, len, ci, j, w, sw⟩ := en
    rw [hk] at h
    dsimp only at h ⊢
    cases ins <;> dsimp only at h ⊢ <;> (try exact h.elim) <;> (try exact hn _ _ _ _ h)
    case invokevirtual i =>
      split at h
      · rename_i n sp hf
        split at h
        · rename_i b rest hd
          exact ⟨h.1, hc _ _ _ _ hf _ _ _ _ (fun v σ' q => hn _ _ _ _ q) h.2⟩
        · exact h.elim
      · exact h.elim
    case invokestatic i =>
      split at h
      · rename_i n sp hf
        exact ⟨h.1, h.2.1, hc _ _ _ _ hf _ _ _ _ (fun v σ' q => hn _ _ _ _ q) h.2.2⟩
      · exact h.elim
    case tableswitch =>
      split at h
      · exact swA_mono (fun t q => hn _ _ _ _ q) h
      · exact h.elim
    case lookupswitch =>
      split at h
      · exact swA_mono (fun t q => hn _ _ _ _ q) h
      · exact h.elim
    case ireturn =>
      split at h
      · cases zr with
        | true => exact ⟨h.1, hQ _ _ h.2⟩
        | false => exact hQ _ _ h
      · exact h.elim
    case lreturn =>
      split at h
      · exact hQ _ _ h
      · exact h.elim
    case return_ =>
      split at h
      · exact hQ _ _ h
      · exact h.elim
    case ifCond c o =>
      split at h
      · split at h <;> exact ⟨fun q => hn _ _ _ _ (h.1 q), fun q => hn _ _ _ _ (h.2 q)⟩
      · exact h.elim
    case if_icmp c o =>
      split at h
      · split at h <;> exact ⟨fun q => hn _ _ _ _ (h.1 q), fun q => hn _ _ _ _ (h.2 q)⟩
      · exact h.elim
    all_goals
      (repeat' split at h) <;> first
        | exact h.elim
        | exact hn _ _ _ _ h
        | exact ⟨h.1, hn _ _ _ _ h.2⟩
        | (simp_all; done)
        | (simp_all; exact hn _ _ _ _ (by assumption))
        | (simp_all; exact ⟨h.1, hn _ _ _ _ h.2⟩)
        | skip
theorem wps_mono {pg : List Ent} {ro : Ro} {cs : Cs} {lcs : List (Nat × Int64)} {zr : Bool} {Q1 Q2 : Option Value → Mem → Prop} {Ok : Nat → Lv → List Value → Mem → Prop} (hc : csM cs) (hQ : ∀ v σ, Q1 v σ → Q2 v σ) {cut : List Nat} : ∀ (n k : Nat) (lv : Lv) (st : List Value) (σ : Mem), wps pg ro cs lcs zr cut Ok Q1 n k lv st σ → wps pg ro cs lcs zr cut Ok Q2 n k lv st σ := by
  intro n
  induction n with
  | zero => intro k lv st σ h; exact h
  | succ n ih =>
    intro k lv st σ h
    refine wstep_mono hc hQ (fun k lv st σ h => ?_) h
    cases hi : inC cut k with
    | true => rw [hi] at h; exact h
    | false => rw [hi] at h; exact ih k lv st σ h
theorem Mono.slf {nL : Nat} {pg : List Ent} {cs : Cs} {lcs : List (Nat × Int64)} {zr : Bool} {N : Nat} {sg : List (Nat × List Nat)} (hc : csM cs) : Mono (G sg (slf nL pg cs lcs zr N)) := fun _ _ _ _ hK h => ⟨h.1, wps_mono hc hK _ _ _ _ _ h.2⟩
theorem cs_nil {l : Launch} {E : En} {rm : Room} {own : String} : ∀ i n vb sp', fnd ([] : Cs) i = some (n, vb, sp') → CE l E rm own i n vb sp' := fun _ _ _ _ h => by cases h
theorem cs_cons {l : Launch} {E : En} {rm : Room} {own : String} {i n : Nat} {vb : Bool} {sp : SP} {r : Cs} (h : CE l E rm own i n vb sp) (t : ∀ i n vb sp', fnd r i = some (n, vb, sp') → CE l E rm own i n vb sp') : ∀ i' n' vb' sp', fnd ((i, n, vb, sp) :: r) i' = some (n', vb', sp') → CE l E rm own i' n' vb' sp' := by
  intro i' n' vb' sp' h'
  unfold fnd at h'
  cases e : Nat.beq i i' with
  | true => rw [e] at h'; cases h'; rw [← Nat.eq_of_beq_eq_true e]; exact h
  | false => rw [e] at h'; exact t _ _ _ _ h'
