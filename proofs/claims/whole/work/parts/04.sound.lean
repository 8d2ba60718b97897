/-! THE ABSTRACT MACHINE IS THE MACHINE -/
abbrev classes : List vw_C := [(RX0, TX0, 6), (RX1, TX1, 4), (RX2, TX2, 4), (RX3, TX3, 14), (RX4, TX4, 8), (RX5, TX5, 5), (RX7, TX7, 3), (RX8, TX8, 3), (RX9, TX9, 13), (RX10, TX10, 40)]
def tT : List Cond := lw_tbl.filter goodWord
def isNest : Cond → Bool
  | .fieldLinkNest .. => true
  | .methodLinkNest .. => true
  | _ => false
def nestW : List Cond := lw_tbl.filter isNest
def conc (ad : Nat → Nat) : Value → Value
  | .ref a => .ref (ad a)
  | v => v
theorem conc_cat (ad : Nat → Nat) (v : Value) : (conc ad v).category = v.category := by cases v <;> rfl
def cnL (ad : Nat → Nat) : Nat → Lv → List (Nat × Value)
  | _, [] => []
  | i, some v :: r => (i, conc ad v) :: cnL ad (i + 1) r
  | i, none :: r => cnL ad (i + 1) r
def concL (ad : Nat → Nat) (lv : Lv) : List (Nat × Value) := cnL ad 0 lv
def afv (σ : Mem) (k j : Nat) (fd : Nat × Nat) : Value := match fd with
  | (0, _) => .int (gI σ k j)
  | (1, _) => .long (gL σ k j)
  | (2, t) => .ref t
  | (3, _) => .ref (gP σ)
  | _ => .ref (gQ σ)
/-- the numbers of the classes and of their slots; the addresses of the cells; the array classes of ints, booleans, longs -/
abbrev En : Type := va_G × (Nat → Nat) × ClassId × ClassId × ClassId
def fdv (E : En) (σ : Mem) (k : Nat) : Nat → List (Nat × Nat) → List Value
  | _, [] => []
  | j, fd :: r => conc E.2.1 (afv σ k j fd) :: fdv E σ k (j + 1) r
def cel (E : En) (σ : Mem) (k : Nat) (c : LC) : va_E := match c with
  | .inl (0, n) => .inl (E.2.2.1, n, .inl (gI σ k))
  | .inl (1, n) => .inl (E.2.2.2.1, n, .inl (gI σ k))
  | .inl (_, n) => .inl (E.2.2.2.2, n, .inr (.inl (gL σ k)))
  | .inr (ci, fds) => .inr (ci, fdv E σ k 0 fds)
def wlf (E : En) (σ : Mem) : Nat → List LC → va_W
  | _, [] => []
  | k, c :: r => (E.2.1 k, cel E σ k c) :: wlf E σ (k + 1) r
def wl (E : En) (σ : Mem) : va_W := wlf E σ 0 lay
def tysE (E : En) : List (ClassId × FieldType) := [(E.2.2.1, .int), (E.2.2.2.1, .boolean), (E.2.2.2.2, .long)]
def AW (E : En) : Nat → Prop := fun q => ∃ k, k < 72 ∧ q = E.2.1 k
def rlo : Nat → Int32 := fun j => if j = 3 then 0 else 1
def rhi : Nat → Int32 := fun j => if j = 2 then 12 else if j = 3 then 4080 else 300
def roM : Ro := [(100, 4, rlo), (101, 4, rhi)]
def Bs (E : En) (U : State) : Prop := va_K E.1 classes (tysE E) U ∧ (∀ i j, i < 72 → j < 72 → E.2.1 i = E.2.1 j → i = j) ∧ (∀ w ∈ nestW, va_Nw w U) ∧
  (va_Z "TankField" "RULE_LOWEST" "[I" (.ref (E.2.1 100)) (AW E) U U.heap ∧ va_T .int (E.2.1 100) 4 (fun j => .int (rlo j)) (AW E) U U.heap) ∧
  (va_Z "TankField" "RULE_HIGHEST" "[I" (.ref (E.2.1 101)) (AW E) U U.heap ∧ va_T .int (E.2.1 101) 4 (fun j => .int (rhi j)) (AW E) U U.heap)
def Wd (E : En) (σ : Mem) (U : State) : Prop := va_P E.1 classes (wl E σ) U.heap ∧ Bs E U
def QcK (E : En) (K : Option Value → Mem → Prop) : Array Value → State → Outcome → State → Prop := fun _ st oc t =>
  (∃ (v : Option Value) (σ' : Mem), oc = .returned (v.map (conc E.2.1)) ∧ K v σ' ∧ Wd E σ' t) ∧ va_F (AW E) st t
def Ctr (l : Launch) (E : En) (y : MethodName) (cc : ByteArray) (nL : Nat) (rt : Option FieldType) (rm : Room) (sp : SP) : Prop :=
  ∀ (vs : List Value) (σ : Mem) (K : Option Value → Mem → Prop), sp vs σ K → Met l y (Cond.code y cc nL rt :: tT) rm (va_Pc (vs.map (conc E.2.1)) (Wd E σ)) (QcK E K) 0 0 (AW E)
-- lists
theorem nth_lt {α : Type} : ∀ {l : List α} {i : Nat} {a : α}, nth l i = some a → i < l.length
  | [], _, _, h => by cases h
  | _ :: _, 0, _, _ => Nat.succ_pos _
  | _ :: l, i + 1, _, h => Nat.succ_lt_succ (nth_lt (l := l) h)
theorem nth_none {α : Type} : ∀ {l : List α} {i : Nat}, nth l i = none → l.length ≤ i
  | [], _, _ => Nat.zero_le _
  | _ :: _, 0, h => by cases h
  | _ :: l, i + 1, h => Nat.succ_le_succ (nth_none (l := l) h)
theorem fnd_mem {α : Type} : ∀ {l : List (Nat × α)} {i : Nat} {a : α}, fnd l i = some a → (i, a) ∈ l
  | [], _, _, h => by cases h
  | (k, b) :: l, i, a, h => by
    unfold fnd at h
    cases e : Nat.beq k i with
    | true =>
      rw [e] at h
      have h1 : b = a := Option.some.inj h
      have h2 : k = i := Nat.eq_of_beq_eq_true e
      subst h1; subst h2
      exact List.mem_cons_self
    | false =>
      rw [e] at h
      exact List.mem_cons_of_mem _ (fnd_mem (l := l) h)
theorem wlf_len (E : En) (σ : Mem) : ∀ (L : List LC) (k : Nat), (wlf E σ k L).length = L.length
  | [], _ => rfl
  | _ :: r, k => congrArg Nat.succ (wlf_len E σ r (k + 1))
theorem wlf_get (E : En) (σ : Mem) : ∀ {L : List LC} {i : Nat} {c : LC} (k : Nat), nth L i = some c → (wlf E σ k L)[i]? = some (E.2.1 (k + i), cel E σ (k + i) c)
  | [], _, _, _, h => by cases h
  | a :: _, 0, c, k, h => by
    have : a = c := Option.some.inj h
    subst this
    rfl
  | _ :: r, i + 1, c, k, h => by
    have := wlf_get E σ (L := r) (i := i) (k + 1) h
    rw [show k + 1 + i = k + (i + 1) by omega] at this
    exact this
theorem wl_get (E : En) (σ : Mem) {i : Nat} {c : LC} (h : nth lay i = some c) : (wl E σ)[i]? = some (E.2.1 i, cel E σ i c) := by
  have := wlf_get E σ 0 h
  rwa [Nat.zero_add] at this
theorem wl_inv (E : En) (σ : Mem) {i : Nat} {q : Nat × va_E} (h : (wl E σ)[i]? = some q) : ∃ c, nth lay i = some c ∧ q = (E.2.1 i, cel E σ i c) := by
  cases hc : nth lay i with
  | none =>
    have h1 := nth_none hc
    have h2 := (List.getElem?_eq_some_iff.mp h).1
    rw [show (wl E σ).length = lay.length from wlf_len E σ lay 0] at h2
    omega
  | some c =>
    refine ⟨c, rfl, ?_⟩
    rw [wl_get E σ hc] at h
    exact (Option.some.inj h).symm
theorem wl_set (E : En) {σ σ' : Mem} {k : Nat} {c : LC} (h : nth lay k = some c) (ho : ∀ i c', i ≠ k → nth lay i = some c' → cel E σ' i c' = cel E σ i c') : (wl E σ).set k (E.2.1 k, cel E σ' k c) = wl E σ' := by
  apply List.ext_getElem?
  intro i
  by_cases hi : i = k
  · subst hi
    rw [List.getElem?_set_self (List.getElem?_eq_some_iff.mp (wl_get E σ h)).1, wl_get E σ' h]
  · rw [List.getElem?_set_ne (Ne.symm hi)]
    cases hc : nth lay i with
    | none =>
      have h1 := nth_none hc
      rw [List.getElem?_eq_none (by rw [show (wl E σ).length = lay.length from wlf_len E σ lay 0]; exact h1), List.getElem?_eq_none (by rw [show (wl E σ').length = lay.length from wlf_len E σ' lay 0]; exact h1)]
    | some c' => rw [wl_get E σ hc, wl_get E σ' hc, ho i c' hi hc]
theorem fdv_len (E : En) (σ : Mem) (k : Nat) : ∀ (L : List (Nat × Nat)) (j : Nat), (fdv E σ k j L).length = L.length
  | [], _ => rfl
  | _ :: r, j => congrArg Nat.succ (fdv_len E σ k r (j + 1))
theorem fdv_get (E : En) (σ : Mem) (k : Nat) : ∀ {L : List (Nat × Nat)} {i : Nat} {fd : Nat × Nat} (j : Nat), nth L i = some fd → (fdv E σ k j L)[i]? = some (conc E.2.1 (afv σ k (j + i) fd))
  | [], _, _, _, h => by cases h
  | a :: _, 0, c, j, h => by
    have : a = c := Option.some.inj h
    subst this
    rfl
  | _ :: r, i + 1, c, j, h => by
    have := fdv_get E σ k (L := r) (i := i) (j + 1) h
    rw [show j + 1 + i = j + (i + 1) by omega] at this
    exact this
theorem fdv_set (E : En) {σ σ' : Mem} {k : Nat} {L : List (Nat × Nat)} {i : Nat} {fd : Nat × Nat} (h : nth L i = some fd) (ho : ∀ j fd', j ≠ i → nth L j = some fd' → afv σ' k j fd' = afv σ k j fd') : (fdv E σ k 0 L).set i (conc E.2.1 (afv σ' k i fd)) = fdv E σ' k 0 L := by
  have g : ∀ (τ : Mem) {j : Nat} {fd' : Nat × Nat}, nth L j = some fd' → (fdv E τ k 0 L)[j]? = some (conc E.2.1 (afv τ k j fd')) := fun τ {j} {fd'} hj => by
    have := fdv_get E τ k 0 hj
    rwa [Nat.zero_add] at this
  apply List.ext_getElem?
  intro j
  by_cases hj : j = i
  · subst hj
    rw [List.getElem?_set_self (List.getElem?_eq_some_iff.mp (g σ h)).1, g σ' h]
  · rw [List.getElem?_set_ne (Ne.symm hj)]
    cases hc : nth L j with
    | none =>
      have h1 := nth_none hc
      rw [List.getElem?_eq_none (by rw [fdv_len]; exact h1), List.getElem?_eq_none (by rw [fdv_len]; exact h1)]
    | some c' => rw [g σ hc, g σ' hc, ho j c' hj hc]
theorem cel_congr (E : En) {σ σ' : Mem} {k : Nat} (c : LC) (hi : gI σ' k = gI σ k) (hl : gL σ' k = gL σ k) (hp : gP σ' = gP σ) (hq : gQ σ' = gQ σ) : cel E σ' k c = cel E σ k c := by
  have hf : ∀ (L : List (Nat × Nat)) (j : Nat), fdv E σ' k j L = fdv E σ k j L := by
    intro L
    induction L with
    | nil => intro j; rfl
    | cons fd r ih =>
      intro j
      have h1 : afv σ' k j fd = afv σ k j fd := by
        unfold afv
        split
        · rw [hi]
        · rw [hl]
        · rfl
        · rw [hp]
        · rw [hq]
      show conc E.2.1 (afv σ' k j fd) :: fdv E σ' k (j + 1) r = conc E.2.1 (afv σ k j fd) :: fdv E σ k (j + 1) r
      rw [h1, ih]
  unfold cel
  split
  · rw [hi]
  · rw [hi]
  · rw [hl]
  · rw [hf]
theorem gI_sI_ne (σ : Mem) {a k : Nat} (h : k ≠ a) (j : Nat) (v : Int32) : gI (sI σ a j v) k = gI σ k := by
  funext b
  simp [gI, sI, h]
theorem gI_sI_eq (σ : Mem) (a j : Nat) (v : Int32) : gI (sI σ a j v) a = upd (gI σ a) j v := by
  funext b
  simp [gI, sI, upd]
theorem gL_sL_ne (σ : Mem) {a k : Nat} (h : k ≠ a) (j : Nat) (v : Int64) : gL (sL σ a j v) k = gL σ k := by
  funext b
  simp [gL, sL, h]
theorem gL_sL_eq (σ : Mem) (a j : Nat) (v : Int64) : gL (sL σ a j v) a = vp_updL (gL σ a) j v := by
  funext b
  simp [gL, sL, vp_updL]
theorem lay_len : lay.length = 72 := by decide +kernel
def kchk (q : vw_C) (i j : Nat) (fd : Nat × Nat) : Bool := match fd with
  | (0, _) => (q.2.1 j).2.2.1 == "I" && !(q.2.1 j).2.2.2
  | (1, _) => (q.2.1 j).2.2.1 == "J" && !(q.2.1 j).2.2.2
  | (2, _) => true
  | (3, _) => (q.2.1 j).2.2.1 == "LTankField$Building;" && !(q.2.1 j).2.2.2 && Nat.beq i 0 && Nat.beq j 8
  | (4, _) => (q.2.1 j).2.2.1 == "LTankField$Building;" && !(q.2.1 j).2.2.2 && Nat.beq i 0 && Nat.beq j 9
  | _ => false
def layChk (i j : Nat) : Bool := match nth lay i with
  | some (.inr (ci, fds)) => (match classes[ci]? with
    | some q => (fds.length == q.2.2) && Nat.ble fds.length 40 && (match nth fds j with
      | some fd => kchk q i j fd
      | none => true)
    | none => false)
  | _ => true
theorem lay_chk : (List.range 72).all (fun i => (List.range 41).all (fun j => layChk i j)) = true := by decide +kernel
theorem lay_at {i j : Nat} (hi : i < 72) (hj : j < 41) : layChk i j = true := List.all_eq_true.mp (List.all_eq_true.mp lay_chk i (List.mem_range.mpr hi)) j (List.mem_range.mpr hj)
theorem lay_kd {a ci j : Nat} {fds : List (Nat × Nat)} {fd : Nat × Nat} (hla : nth lay a = some (.inr (ci, fds))) (hfd : nth fds j = some fd) : ∃ q, classes[ci]? = some q ∧ kchk q a j fd = true ∧ fds.length = q.2.2 := by
  have hai : a < 72 := by have := nth_lt hla; rwa [lay_len] at this
  cases hq : classes[ci]? with
  | none =>
    have := lay_at hai (show 0 < 41 by omega)
    unfold layChk at this
    rw [hla] at this
    dsimp only at this
    rw [hq] at this
    cases this
  | some q =>
    have h40 : fds.length ≤ 40 ∧ fds.length = q.2.2 := by
      have := lay_at hai (show 0 < 41 by omega)
      unfold layChk at this
      rw [hla] at this
      dsimp only at this
      rw [hq] at this
      simp only [Bool.and_eq_true] at this
      exact ⟨Nat.le_of_ble_eq_true this.1.2, by simpa using this.1.1⟩
    have := lay_at hai (show j < 41 by have := nth_lt hfd; omega)
    unfold layChk at this
    rw [hla] at this
    dsimp only at this
    rw [hq] at this
    dsimp only at this
    rw [hfd] at this
    simp only [Bool.and_eq_true] at this
    exact ⟨q, rfl, this.2, h40.2⟩
theorem afv_keep3 (σ : Mem) (x : Nat) {a ci j : Nat} {fds : List (Nat × Nat)} {fd : Nat × Nat} (hla : nth lay a = some (.inr (ci, fds))) (hfd : nth fds j = some fd) (h : ¬ (a = 0 ∧ j = 8)) : afv (sP σ x) a j fd = afv σ a j fd := by
  obtain ⟨q, -, hk, -⟩ := lay_kd hla hfd
  unfold afv
  split
  · rfl
  · rfl
  · rfl
  · simp only [kchk, Bool.and_eq_true] at hk
    exact absurd ⟨Nat.eq_of_beq_eq_true hk.1.2, Nat.eq_of_beq_eq_true hk.2⟩ h
  · rfl
theorem afv_keep4 (σ : Mem) (x : Nat) {a ci j : Nat} {fds : List (Nat × Nat)} {fd : Nat × Nat} (hla : nth lay a = some (.inr (ci, fds))) (hfd : nth fds j = some fd) (h : ¬ (a = 0 ∧ j = 9)) : afv (sQ σ x) a j fd = afv σ a j fd := by
  obtain ⟨q, -, hk, -⟩ := lay_kd hla hfd
  obtain ⟨kd, tg⟩ := fd
  match kd, hk with
  | 0, _ => rfl
  | 1, _ => rfl
  | 2, _ => rfl
  | 3, _ => rfl
  | 4, hk =>
    simp only [kchk, Bool.and_eq_true] at hk
    exact absurd ⟨Nat.eq_of_beq_eq_true hk.1.2, Nat.eq_of_beq_eq_true hk.2⟩ h
  | n + 5, hk => simp [kchk] at hk
theorem cel_obj (E : En) {σ σ' : Mem} {k : Nat} (c : LC) (hi : gI σ' k = gI σ k) (hl : gL σ' k = gL σ k) (h : ∀ ci fds j fd, c = .inr (ci, fds) → nth fds j = some fd → afv σ' k j fd = afv σ k j fd) : cel E σ' k c = cel E σ k c := by
  match c, h with
  | .inl (0, n), _ => show (Sum.inl _ : va_E) = Sum.inl _; rw [hi]
  | .inl (1, n), _ => show (Sum.inl _ : va_E) = Sum.inl _; rw [hi]
  | .inl (n + 2, _), _ => show (Sum.inl _ : va_E) = Sum.inl _; rw [hl]
  | .inr (ci, fds), h =>
    have : fdv E σ' k 0 fds = fdv E σ k 0 fds := by
      apply List.ext_getElem?
      intro j
      cases hc : nth fds j with
      | none =>
        have h1 := nth_none hc
        rw [List.getElem?_eq_none (by rw [fdv_len]; exact h1), List.getElem?_eq_none (by rw [fdv_len]; exact h1)]
      | some fd =>
        have g1 := fdv_get E σ k 0 hc
        have g2 := fdv_get E σ' k 0 hc
        rw [Nat.zero_add] at g1 g2
        rw [g1, g2, h ci fds j fd rfl hc]
    show (Sum.inr (ci, fdv E σ' k 0 fds) : va_E) = Sum.inr (ci, fdv E σ k 0 fds)
    rw [this]
theorem AW_D (E : En) (hE : ∀ i j, i < 72 → j < 72 → E.2.1 i = E.2.1 j → i = j) (σ : Mem) : va_D (AW E) (wl E σ) := by
  refine ⟨fun i j p q hp hq h => ?_, fun k q hq => ?_⟩
  · obtain ⟨c, h1, rfl⟩ := wl_inv E σ hp
    obtain ⟨d, h2, rfl⟩ := wl_inv E σ hq
    exact hE i j (by have := nth_lt h1; rwa [lay_len] at this) (by have := nth_lt h2; rwa [lay_len] at this) h
  · obtain ⟨c, h1, rfl⟩ := wl_inv E σ hq
    exact ⟨k, by have := nth_lt h1; rwa [lay_len] at this, rfl⟩
theorem cnL_in (ad : Nat → Nat) : ∀ {lv : Lv} {j i : Nat} {v : Value}, nth lv i = some (some v) → (j + i, conc ad v) ∈ cnL ad j lv
  | [], _, _, _, h => by cases h
  | a :: r, j, 0, v, h => by
    have : a = some v := Option.some.inj h
    subst this
    exact List.mem_cons_self
  | a :: r, j, i + 1, v, h => by
    have h1 := cnL_in ad (lv := r) (j := j + 1) (i := i) h
    rw [show j + 1 + i = j + (i + 1) by omega] at h1
    cases a with
    | none => exact h1
    | some w => exact List.mem_cons_of_mem _ h1
theorem cnL_out (ad : Nat → Nat) : ∀ {lv : Lv} {j : Nat} {q : Nat × Value}, q ∈ cnL ad j lv → ∃ i v, q = (j + i, conc ad v) ∧ nth lv i = some (some v)
  | [], _, _, h => by cases h
  | none :: r, j, q, h => by
    obtain ⟨i, v, h1, h2⟩ := cnL_out ad (lv := r) (j := j + 1) h
    exact ⟨i + 1, v, by rw [h1]; congr 1; omega, h2⟩
  | some w :: r, j, q, h => by
    rcases List.mem_cons.mp h with h | h
    · exact ⟨0, w, h, rfl⟩
    · obtain ⟨i, v, h1, h2⟩ := cnL_out ad (lv := r) (j := j + 1) h
      exact ⟨i + 1, v, by rw [h1]; congr 1; omega, h2⟩
theorem lvG_nth {lv : Lv} {i : Nat} {v : Value} (h : lvG lv i = some v) : nth lv i = some (some v) := by
  unfold lvG at h
  split at h
  · rename_i w hw
    cases h
    exact hw
  · cases h
theorem concL_in (ad : Nat → Nat) {lv : Lv} {i : Nat} {v : Value} (h : lvG lv i = some v) : (i, conc ad v) ∈ concL ad lv := by
  have := cnL_in ad (j := 0) (lvG_nth h)
  rwa [Nat.zero_add] at this
theorem concL_at (ad : Nat → Nat) {lv : Lv} {ls : Array Slot} {nL i : Nat} {v : Value} (hl : lv_has ls nL (concL ad lv)) (h : lvG lv i = some v) : ls[i]? = some (.val (conc ad v)) :=
  hl.2.2 (i, conc ad v) (concL_in ad h)
theorem lv_fewer {ls : Array Slot} {nL : Nat} {l l' : List (Nat × Value)} (h : lv_has ls nL l) (hs : ∀ q ∈ l', q ∈ l) : lv_has ls nL l' := ⟨h.1, h.2.1, fun q hq => h.2.2 q (hs q hq)⟩
theorem clr_some {a : Option Value} {u : Value} (h : clr a = some u) : a = some u ∧ ¬ u.category = 2 := by
  unfold clr at h
  split at h
  · cases h
  · cases h
  · rename_i h1 h2
    subst h
    refine ⟨rfl, fun hc => ?_⟩
    cases u with
    | long x => exact h1 x rfl
    | double x => exact h2 x rfl
    | _ => cases hc
theorem lvS_nth : ∀ {lv : Lv} {i : Nat} {v : Value} {k : Nat} {u : Value}, nth (lvS lv i v) k = some (some u) → (k = i ∧ u = v) ∨ (k ≠ i ∧ nth lv k = some (some u) ∧ ¬ (k + 1 = i ∧ u.category = 2))
  | [], _, _, _, _, h => by cases h
  | _ :: r, 0, v, 0, u, h => by cases h; exact Or.inl ⟨rfl, rfl⟩
  | _ :: r, 0, v, k + 1, u, h => Or.inr ⟨by omega, h, by omega⟩
  | a :: r, i + 1, v, 0, u, h => by
    have h : (bif Nat.beq i 0 then clr a else a) = some u := Option.some.inj h
    cases e : Nat.beq i 0 with
    | true =>
      rw [e] at h
      obtain ⟨h1, h2⟩ := clr_some h
      exact Or.inr ⟨by omega, by rw [h1]; rfl, fun q => h2 q.2⟩
    | false =>
      rw [e] at h
      have h : a = some u := h
      refine Or.inr ⟨by omega, by rw [h]; rfl, fun q => ?_⟩
      have : i = 0 := by omega
      subst this
      cases e
  | a :: r, i + 1, v, k + 1, u, h => by
    rcases lvS_nth (lv := r) (i := i) (v := v) (k := k) (u := u) h with ⟨h1, h2⟩ | ⟨h1, h2, h3⟩
    · exact Or.inl ⟨by omega, h2⟩
    · exact Or.inr ⟨by omega, h2, fun q => h3 ⟨by omega, q.2⟩⟩
theorem lvS2_nth : ∀ {lv : Lv} {i : Nat} {v : Value} {k : Nat} {u : Value}, nth (lvS2 lv i v) k = some (some u) → (k = i ∧ u = v) ∨ (k ≠ i ∧ k ≠ i + 1 ∧ nth lv k = some (some u) ∧ ¬ (k + 1 = i ∧ u.category = 2))
  | [], _, _, _, _, h => by cases h
  | _ :: r, 0, v, 0, u, h => by cases h; exact Or.inl ⟨rfl, rfl⟩
  | _ :: [], 0, v, k + 1, u, h => by cases h
  | _ :: b :: r, 0, v, 1, u, h => by cases h
  | _ :: b :: r, 0, v, k + 2, u, h => Or.inr ⟨by omega, by omega, h, by omega⟩
  | a :: r, i + 1, v, 0, u, h => by
    have h : (bif Nat.beq i 0 then clr a else a) = some u := Option.some.inj h
    cases e : Nat.beq i 0 with
    | true =>
      rw [e] at h
      obtain ⟨h1, h2⟩ := clr_some h
      exact Or.inr ⟨by omega, by omega, by rw [h1]; rfl, fun q => h2 q.2⟩
    | false =>
      rw [e] at h
      have h : a = some u := h
      refine Or.inr ⟨by omega, by omega, by rw [h]; rfl, fun q => ?_⟩
      have : i = 0 := by omega
      subst this
      cases e
  | a :: r, i + 1, v, k + 1, u, h => by
    rcases lvS2_nth (lv := r) (i := i) (v := v) (k := k) (u := u) h with ⟨h1, h2⟩ | ⟨h1, h2, h3, h4⟩
    · exact Or.inl ⟨by omega, h2⟩
    · exact Or.inr ⟨by omega, by omega, h3, fun q => h4 ⟨by omega, q.2⟩⟩
theorem concL_S (ad : Nat → Nat) (lv : Lv) (i : Nat) (v : Value) : ∀ q ∈ concL ad (lvS lv i v), q ∈ (i, conc ad v) :: (concL ad lv).filter (fun q => !(q.1 == i) && !(q.1 + 1 == i && q.2.category == 2)) := by
  intro q hq
  obtain ⟨k, u, rfl, h⟩ := cnL_out ad hq
  rw [Nat.zero_add]
  rcases lvS_nth h with ⟨h1, h2⟩ | ⟨h1, h2, h3⟩
  · rw [h1, h2]; exact List.mem_cons_self
  · refine List.mem_cons_of_mem _ (List.mem_filter.mpr ⟨?_, ?_⟩)
    · have := cnL_in ad (j := 0) h2
      rwa [Nat.zero_add] at this
    · simp only [conc_cat]
      simp [h1]
      exact Decidable.not_and_iff_or_not.mp h3
theorem concL_S2 (ad : Nat → Nat) (lv : Lv) (i : Nat) (v : Value) : ∀ q ∈ concL ad (lvS2 lv i v), q ∈ (i, conc ad v) :: (concL ad lv).filter (fun q => !(q.1 == i) && (!(q.1 == i + 1) && !(q.1 + 1 == i && q.2.category == 2))) := by
  intro q hq
  obtain ⟨k, u, rfl, h⟩ := cnL_out ad hq
  rw [Nat.zero_add]
  rcases lvS2_nth h with ⟨h1, h2⟩ | ⟨h1, h2, h3, h4⟩
  · rw [h1, h2]; exact List.mem_cons_self
  · refine List.mem_cons_of_mem _ (List.mem_filter.mpr ⟨?_, ?_⟩)
    · have := cnL_in ad (j := 0) h3
      rwa [Nat.zero_add] at this
    · simp only [conc_cat]
      simp [h1, h2]
      exact Decidable.not_and_iff_or_not.mp h4
theorem padL_nil (ad : Nat → Nat) : ∀ (n j : Nat), cnL ad j (padL n []) = []
  | 0, _ => rfl
  | n + 1, j => padL_nil ad n (j + 1)
theorem concL_args (ad : Nat → Nat) : ∀ (vs : List Value) (n j : Nat), ∀ q ∈ cnL ad j (padL n (entL vs)), q ∈ lv_args j (vs.map (conc ad))
  | [], n, j, q, h => by
    rw [show entL [] = [] from rfl, padL_nil] at h
    cases h
  | v :: vs, 0, j, q, h => by cases h
  | v :: vs, n + 1, j, q, h => by
    have two : ∀ (w : Value), w.category = 2 → entL (w :: vs) = some w :: none :: entL vs → q ∈ cnL ad j (padL (n + 1) (entL (w :: vs))) → q ∈ lv_args j ((w :: vs).map (conc ad)) := by
      intro w hw he hq
      rw [he] at hq
      show q ∈ (j, conc ad w) :: lv_args (if (conc ad w).category = 2 then j + 2 else j + 1) (vs.map (conc ad))
      rw [conc_cat, if_pos hw]
      rcases List.mem_cons.mp hq with e | e
      · rw [e]; exact List.mem_cons_self
      · refine List.mem_cons_of_mem _ ?_
        cases n with
        | zero => cases e
        | succ n => exact concL_args ad vs n (j + 2) q e
    have one : ∀ (w : Value), ¬ w.category = 2 → entL (w :: vs) = some w :: entL vs → q ∈ cnL ad j (padL (n + 1) (entL (w :: vs))) → q ∈ lv_args j ((w :: vs).map (conc ad)) := by
      intro w hw he hq
      rw [he] at hq
      show q ∈ (j, conc ad w) :: lv_args (if (conc ad w).category = 2 then j + 2 else j + 1) (vs.map (conc ad))
      rw [conc_cat, if_neg hw]
      rcases List.mem_cons.mp hq with e | e
      · rw [e]; exact List.mem_cons_self
      · exact List.mem_cons_of_mem _ (concL_args ad vs n (j + 1) q e)
    cases v with
    | long x => exact two _ rfl rfl h
    | double x => exact two _ rfl rfl h
    | int x => exact one _ (fun q => by cases q) rfl h
    | float x => exact one _ (fun q => by cases q) rfl h
    | null => exact one _ (fun q => by cases q) rfl h
    | ref x => exact one _ (fun q => by cases q) rfl h
    | retAddr x => exact one _ (fun q => by cases q) rfl h
theorem concL_sl (ad : Nat → Nat) : ∀ (vs : List Value), (lg_sl (vs.map (conc ad))).length = (lg_sl vs).length
  | [] => rfl
  | v :: vs => by
    have ih := concL_sl ad vs
    have e : ∀ (u : Value) (us : List Value), lg_sl (u :: us) = (if u.category = 2 then [Slot.val u, Slot.second] else [Slot.val u]) ++ lg_sl us := fun u us => rfl
    rw [List.map_cons, e, e, List.length_append, List.length_append, ih, conc_cat]
    by_cases hc : v.category = 2 <;> simp [hc]
theorem clen : classes.length = 10 := rfl
theorem cls_in : ∀ ci, ci < 10 → ∀ q, classes[ci]? = some q → ∀ w ∈ u_ws q.1 q.2.1 q.2.2, w ∈ tT := by
  have key : classes.all (fun q => (u_ws q.1 q.2.1 q.2.2).all (fun w => goodWord w && decide (w ∈ lw_tbl))) = true := by decide +kernel
  intro ci _ q hq w hw
  have h1 := List.all_eq_true.mp (List.all_eq_true.mp key q (List.mem_of_getElem? hq)) w hw
  simp only [Bool.and_eq_true, decide_eq_true_eq] at h1
  exact List.mem_filter.mpr ⟨h1.2, h1.1⟩
theorem cls_ty : ∀ ci, ci < 10 → ∀ q, classes[ci]? = some q → (∃ ty0 : Nat → FieldType, ∀ k, k < q.2.2 → parseFieldDescriptor (q.2.1 k).2.2.1 = some (ty0 k)) ∧ (∀ a, a < q.2.2 → ∀ b, b < q.2.2 → a ≠ b → (q.2.1 a).2.1 ≠ (q.2.1 b).2.1) := by
  intro ci hci q hq
  match ci, hci, hq with
  | 0, _, hq => cases hq; exact ⟨⟨tyX0, tyX0_ok⟩, nmX0⟩
  | 1, _, hq => cases hq; exact ⟨⟨tyX1, tyX1_ok⟩, nmX1⟩
  | 2, _, hq => cases hq; exact ⟨⟨tyX2, tyX2_ok⟩, nmX2⟩
  | 3, _, hq => cases hq; exact ⟨⟨tyX3, tyX3_ok⟩, nmX3⟩
  | 4, _, hq => cases hq; exact ⟨⟨tyX4, tyX4_ok⟩, nmX4⟩
  | 5, _, hq => cases hq; exact ⟨⟨tyX5, tyX5_ok⟩, nmX5⟩
  | 6, _, hq => cases hq; exact ⟨⟨tyX7, tyX7_ok⟩, nmX7⟩
  | 7, _, hq => cases hq; exact ⟨⟨tyX8, tyX8_ok⟩, nmX8⟩
  | 8, _, hq => cases hq; exact ⟨⟨tyX9, tyX9_ok⟩, nmX9⟩
  | 9, _, hq => cases hq; exact ⟨⟨tyX10, tyX10_ok⟩, nmX10⟩
  | n + 10, h, _ => omega
