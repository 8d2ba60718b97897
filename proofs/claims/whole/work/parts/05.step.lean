/-! ONE STEP: what an instruction asks of the abstract machine is enough for the machine -/
def pcA (pg : List Ent) (k : Nat) : Nat := match nth pg k with
  | some en => en.1
  | none => 0
def c1 (pg : List Ent) (nn len pc L : Nat) : Bool := Nat.beq len L && Nat.beq (pcA pg nn) (pc + L)
theorem c1_of {pg : List Ent} {nn len pc L : Nat} (h : c1 pg nn len pc L = true) : len = L ∧ pcA pg nn = pc + L := by
  simp only [c1, Bool.and_eq_true] at h
  exact ⟨Nat.eq_of_beq_eq_true h.1, Nat.eq_of_beq_eq_true h.2⟩
def chkT (pg : List Ent) (pc : Nat) (lo : Int) : Nat → List Int → List (Int32 × Nat) → Bool
  | _, [], [] => true
  | i, o :: os, (v, t) :: r => decide (v.toInt = lo + (i : Int)) && decide ((pc : Int) + o = ((pcA pg t : Nat) : Int)) && chkT pg pc lo (i + 1) os r
  | _, _, _ => false
def chkL (pg : List Ent) (pc : Nat) : List (Int × Int) → List (Int32 × Nat) → Bool
  | [], [] => true
  | (a, o) :: ps, (v, t) :: r => decide (v.toInt = a) && decide ((pc : Int) + o = ((pcA pg t : Nat) : Int)) && chkL pg pc ps r
  | _, _ => false
/-- an entry is the code's, and its numbers are right -/
def chkE (cc : ByteArray) (pg : List Ent) (fl : List (Nat × Nat × Nat)) (gs : List (Nat × Nat)) (nL : Nat) (rt : Option FieldType) (zr : Bool) (en : Ent) : Bool :=
  match en with
  | (pc, nn, ins, len, ci, j, w, sw) => decide (decode cc pc = .ok (ins, len)) && (match ins with
    | .iconst i => c1 pg nn len pc 1 && decide (Int32.ofInt i = w)
    | .bipush i => c1 pg nn len pc 2 && decide ((Int8.ofInt i).toInt32 = w)
    | .sipush i => c1 pg nn len pc 3 && decide ((Int16.ofInt i).toInt32 = w)
    | .lconst _ => c1 pg nn len pc 1
    | .ldc2_w _ => c1 pg nn len pc 3
    | .iload_n _ => c1 pg nn len pc 1
    | .iload _ => c1 pg nn len pc 2
    | .lload_n _ => c1 pg nn len pc 1
    | .lload _ => c1 pg nn len pc 2
    | .aload_n _ => c1 pg nn len pc 1
    | .aload _ => c1 pg nn len pc 2
    | .istore_n i => c1 pg nn len pc 1 && decide (i.val < nL)
    | .istore i => c1 pg nn len pc 2 && decide (i < nL)
    | .astore_n i => c1 pg nn len pc 1 && decide (i.val < nL)
    | .lstore_n i => c1 pg nn len pc 1 && decide (i.val + 1 < nL)
    | .lstore i => c1 pg nn len pc 2 && decide (i + 1 < nL)
    | .iinc i n => c1 pg nn len pc 3 && (decide (Int32.ofInt n = w) && decide (i < nL))
    | .iadd => c1 pg nn len pc 1
    | .isub => c1 pg nn len pc 1
    | .imul => c1 pg nn len pc 1
    | .iand => c1 pg nn len pc 1
    | .ineg => c1 pg nn len pc 1
    | .ladd => c1 pg nn len pc 1
    | .lsub => c1 pg nn len pc 1
    | .lmul => c1 pg nn len pc 1
    | .lneg => c1 pg nn len pc 1
    | .lcmp => c1 pg nn len pc 1
    | .i2l => c1 pg nn len pc 1
    | .i2b => c1 pg nn len pc 1
    | .i2s => c1 pg nn len pc 1
    | .dup => c1 pg nn len pc 1
    | .pop => c1 pg nn len pc 1
    | .dup_x1 => c1 pg nn len pc 1
    | .dup2 => c1 pg nn len pc 1
    | .iaload => c1 pg nn len pc 1
    | .baload => c1 pg nn len pc 1
    | .laload => c1 pg nn len pc 1
    | .iastore => c1 pg nn len pc 1
    | .bastore => c1 pg nn len pc 1
    | .lastore => c1 pg nn len pc 1
    | .arraylength => c1 pg nn len pc 1
    | .goto off => Nat.beq len 3 && decide ((pc : Int) + off = ((pcA pg j : Nat) : Int))
    | .ifCond _ off => c1 pg nn len pc 3 && decide ((pc : Int) + off = ((pcA pg j : Nat) : Int))
    | .if_icmp _ off => c1 pg nn len pc 3 && decide ((pc : Int) + off = ((pcA pg j : Nat) : Int))
    | .tableswitch d lo hi offs => decide ((pc : Int) + d = ((pcA pg j : Nat) : Int)) && (decide (hi + 1 = lo + ((sw.length : Nat) : Int)) && chkT pg pc lo 0 offs.toList sw)
    | .lookupswitch d ps => decide ((pc : Int) + d = ((pcA pg j : Nat) : Int)) && ((ps.toList.zip (ps.toList.drop 1)).all (fun (a, next) => a.1 < next.1) && chkL pg pc ps.toList sw)
    | .getfield i => c1 pg nn len pc 3 && decide ((i, ci, j) ∈ fl)
    | .putfield i => c1 pg nn len pc 3 && decide ((i, ci, j) ∈ fl)
    | .getstatic i => c1 pg nn len pc 3 && decide ((i, j) ∈ gs)
    | .invokevirtual _ => c1 pg nn len pc 3
    | .invokestatic _ => c1 pg nn len pc 3
    | .ireturn => Nat.beq len 1 && decide (rt = some (bif zr then .boolean else .int))
    | .lreturn => Nat.beq len 1 && decide (rt = some .long)
    | .return_ => Nat.beq len 1 && decide (rt = none)
    | _ => true)
def LK (own : String) (idx ci j : Nat) (args : Array Value) (s : State) : Prop := ∃ (q : vw_C) (ref : String), classes[ci]? = some q ∧ j < q.2.2 ∧
  ((Cond.fieldLink own idx ref (q.2.1 j).2.1 (q.2.1 j).2.2.1).before args s = true ∨ ∃ host, (Cond.fieldLinkNest own idx ref (q.2.1 j).2.1 (q.2.1 j).2.2.1 host).before args s = true) ∧
  ∀ x, s.fieldFound? (q.2.1 j).1 (q.2.1 j).2.1 (q.2.1 j).2.2.1 = some x → s.fieldFound? ref (q.2.1 j).2.1 (q.2.1 j).2.2.1 = some x
theorem swA_spec {nx : Nat → Prop} {x : Int32} {d : Nat} : ∀ {L : List (Int32 × Nat)}, swA nx x d L → (∃ (i : Nat) (v : Int32) (t : Nat), nth L i = some (v, t) ∧ x = v ∧ nx t) ∨ ((∀ (i : Nat) (v : Int32) (t : Nat), nth L i = some (v, t) → ¬ x = v) ∧ nx d)
  | [], h => Or.inr ⟨fun _ _ _ h => (by cases h), h⟩
  | (v, t) :: r, h => by
    by_cases e : x = v
    · exact Or.inl ⟨0, v, t, rfl, e, h.1 e⟩
    · rcases swA_spec (h.2 e) with ⟨i, v', t', h1, h2, h3⟩ | ⟨h1, h2⟩
      · exact Or.inl ⟨i + 1, v', t', h1, h2, h3⟩
      · refine Or.inr ⟨fun i v' t' hi => ?_, h2⟩
        match i, hi with
        | 0, hi =>
          have h3 : (v, t) = (v', t') := Option.some.inj hi
          cases h3
          exact e
        | i + 1, hi => exact h1 i v' t' hi
theorem chkT_at {pg : List Ent} {pc : Nat} {lo : Int} : ∀ {os : List Int} {sw : List (Int32 × Nat)} {b i : Nat} {v : Int32} {t : Nat}, chkT pg pc lo b os sw = true → nth sw i = some (v, t) → v.toInt = lo + ((b + i : Nat) : Int) ∧ ∃ o, os[i]? = some o ∧ (pc : Int) + o = ((pcA pg t : Nat) : Int)
  | [], [], _, _, _, _, _, h => by cases h
  | [], _ :: _, _, _, _, _, h, _ => by cases h
  | _ :: _, [], _, _, _, _, h, _ => by cases h
  | o :: os, (v', t') :: r, b, i, v, t, h, hi => by
    simp only [chkT, Bool.and_eq_true, decide_eq_true_eq] at h
    obtain ⟨⟨h1, h2⟩, h3⟩ := h
    match i, hi with
    | 0, hi =>
      have h4 : (v', t') = (v, t) := Option.some.inj hi
      cases h4
      exact ⟨h1, o, rfl, h2⟩
    | i + 1, hi =>
      obtain ⟨g1, o', g2, g3⟩ := chkT_at h3 hi
      exact ⟨by rw [g1]; congr 2; omega, o', g2, g3⟩
theorem chkT_len {pg : List Ent} {pc : Nat} {lo : Int} : ∀ {os : List Int} {sw : List (Int32 × Nat)} {b : Nat}, chkT pg pc lo b os sw = true → os.length = sw.length
  | [], [], _, _ => rfl
  | [], _ :: _, _, h => by cases h
  | _ :: _, [], _, h => by cases h
  | o :: os, (v', t') :: r, b, h => by
    simp only [chkT, Bool.and_eq_true, decide_eq_true_eq] at h
    exact congrArg Nat.succ (chkT_len h.2)
theorem nth_ex {α : Type} : ∀ {l : List α} {i : Nat}, i < l.length → ∃ a, nth l i = some a
  | [], _, h => absurd h (Nat.not_lt_zero _)
  | a :: _, 0, _ => ⟨a, rfl⟩
  | _ :: l, i + 1, h => nth_ex (l := l) (Nat.lt_of_succ_lt_succ h)
theorem chkL_off {pg : List Ent} {pc : Nat} {d : Int} {dt : Nat} {x : Int32} (hd : (pc : Int) + d = ((pcA pg dt : Nat) : Int)) {nx : Nat → Prop} : ∀ {ps : List (Int × Int)} {sw : List (Int32 × Nat)}, chkL pg pc ps sw = true → swA nx x dt sw → ∃ t off, nx t ∧ Op.lookupswitch.offset ps d x.toInt = off ∧ (pc : Int) + off = ((pcA pg t : Nat) : Int)
  | [], [], _, h => ⟨dt, d, h, rfl, hd⟩
  | [], _ :: _, h, _ => by cases h
  | _ :: _, [], h, _ => by cases h
  | (a, o) :: ps, (v, t) :: r, hc, h => by
    simp only [chkL, Bool.and_eq_true, decide_eq_true_eq] at hc
    obtain ⟨⟨h1, h2⟩, h3⟩ := hc
    by_cases e : x = v
    · refine ⟨t, o, h.1 e, ?_, h2⟩
      rw [Op.lookupswitch.offset_cons, if_pos]
      rw [e, h1]
    · obtain ⟨t', off, g1, g2, g3⟩ := chkL_off hd h3 (h.2 e)
      exact ⟨t', off, g1, by rw [lv_osw e h1]; exact g2, g3⟩
section STEP
variable {p : Program} {l : Launch} {e : Env} {R : Room} {s : State} {m : MethodId} {args : Array Value} {below : List Frame} {meth : Method} {c : Code} {cells slots : Nat} {QQ : State → Prop}
/-- the abstract judgement: from every heap that holds the memory, the machine comes to QQ -/
def OkN (p : Program) (l : Launch) (e : Env) (R : Room) (s : State) (m : MethodId) (args : Array Value) (below : List Frame) (meth : Method) (c : Code) (cells slots : Nat) (QQ : State → Prop) (E : En) (nL : Nat) (pg : List Ent) (k : Nat) (lv : Lv) (st : List Value) (σ : Mem) : Prop :=
  ∀ (H : Heap) (locs : List Loc) (ls : Array Slot), va_P E.1 classes (wl E σ) H → va_S (AW E) s.heap H locs → lv_has ls nL (concL E.2.1 lv) → W p l e R s m args below meth c H locs cells slots QQ (F0 m (pcA pg k) ls (st.map (conc E.2.1)))
/-- a call that may be made -/
def CK (p : Program) (l : Launch) (e : Env) (R : Room) (s : State) (m : MethodId) (args : Array Value) (below : List Frame) (meth : Method) (c : Code) (cells slots : Nat) (E : En) (cc : ByteArray) (nL : Nat) (idx n : Nat) (vb : Bool) (sp : SP) : Prop :=
  ∀ (vs : List Value) (σ : Mem) (K : Option Value → Mem → Prop) (H : Heap) (locs : List Loc) (ls : Array Slot) (pc : Nat) (rest : List Value), sp vs σ K → vs.length = (bif vb then n + 1 else n) → va_P E.1 classes (wl E σ) H → va_S (AW E) s.heap H locs → ls.size = nL → (rest.map fun v => v.category).sum ≤ 8 → decode cc pc = .ok (bif vb then .invokevirtual idx else .invokestatic idx, 3) →
    va_Run p l e R s m args below meth c H locs cells slots 0 0 (F0 m pc ls ((vs.map (conc E.2.1)).reverse ++ rest)) rest (QcK E K (vs.map (conc E.2.1)).toArray) (AW E)
theorem am_call {E : En} {K : Option Value → Mem → Prop} {H : Heap} {locs : List Loc} {pc : Nat} {ls : Array Slot} {st0 rest : List Value} {a : Array Value} (hr : va_Run p l e R s m args below meth c H locs cells slots 0 0 (F0 m pc ls st0) rest (QcK E K a) (AW E)) (hS : va_S (AW E) s.heap H locs)
    (kk : ∀ (v : Option Value) (σ' : Mem) (H1 : Heap) (locs1 : List Loc), K v σ' → va_P E.1 classes (wl E σ') H1 → va_S (AW E) s.heap H1 locs1 → W p l e R s m args below meth c H1 locs1 cells slots QQ (F0 m (pc + 3) ls ((v.map (conc E.2.1)).toList ++ rest))) : W p l e R s m args below meth c H locs cells slots QQ (F0 m pc ls st0) := by
  intro T hT X
  obtain ⟨v, st₀, t, T', L, h0, X', hL, e1, e2, ⟨⟨v', σ', hv, hk, hw⟩, hz, hq⟩, st⟩ := hr T hT X
  have hv' : v = v'.map (conc E.2.1) := by cases hv; rfl
  subst hv'
  rw [h0] at hz hq
  obtain ⟨t2, a1, b1⟩ := kk v' σ' T'.heap (locs ++ L) hk (by rw [e1]; exact hw.1)
    ⟨Nat.le_trans hS.1 (by rw [e1]; exact hz), fun q h1 h2 => by rw [e1, hq q (Nat.lt_of_lt_of_le h1 hS.1) h2]; exact hS.2.1 q h1 h2, fun q hq => by
      rcases List.mem_append.mp hq with h | h
      · exact hS.2.2 q h
      · exact hL q h⟩ T' rfl X'
  exact ⟨t2, st t2 a1, b1⟩
set_option maxHeartbeats 4000000 in
set_option maxRecDepth 100000 in
theorem wstep_ok {E : En} {cc : ByteArray} {nL : Nat} {own : String} {pg : List Ent} {ro : Ro} {cs : Cs} {lcs : List (Nat × Int64)} {zr : Bool} {rt : Option FieldType} {fl : List (Nat × Nat × Nat)} {gs : List (Nat × Nat)} {Q : Option Value → Mem → Prop}
    (hx : p.tables.exec = Jvm.exec) (hb : c.code = cc) (hown : s.vm.findClass own = some m.cls) (hts : ∀ w ∈ tT, w.before args s = true) (hB : Bs E s)
    (hro : ∀ a len f, fnd ro a = some (len, f) → va_T .int (E.2.1 a) len (fun j => .int (f j)) (AW E) s s.heap)
    (hgs : ∀ i j, (i, j) ∈ gs → ∃ n, va_Z "TankField" n "[I" (.ref (E.2.1 j)) (AW E) s s.heap ∧ (Cond.fieldLink own i "TankField" n "[I").before args s = true)
    (hfl : ∀ i ci j, (i, ci, j) ∈ fl → LK own i ci j args s)
    (hlc : ∀ i v, fnd lcs i = some v → (Cond.constantLong own i v).before args s = true)
    (hcs : ∀ i n vb sp, fnd cs i = some (n, vb, sp) → CK p l e R s m args below meth c cells slots E cc nL i n vb sp)
    (hri : ∀ (v : Int32) (σ : Mem) (pc : Nat) (H : Heap) (locs : List Loc) (ls : Array Slot), rt = some (bif zr then .boolean else .int) → decode cc pc = .ok (.ireturn, 1) → va_P E.1 classes (wl E σ) H → va_S (AW E) s.heap H locs → (zr = true → v = 0 ∨ v = 1) → Q (some (.int v)) σ → W p l e R s m args below meth c H locs cells slots QQ (F0 m pc ls [.int v]))
    (hrl : ∀ (v : Int64) (σ : Mem) (pc : Nat) (H : Heap) (locs : List Loc) (ls : Array Slot), rt = some .long → decode cc pc = .ok (.lreturn, 1) → va_P E.1 classes (wl E σ) H → va_S (AW E) s.heap H locs → Q (some (.long v)) σ → W p l e R s m args below meth c H locs cells slots QQ (F0 m pc ls [.long v]))
    (hrv : ∀ (σ : Mem) (pc : Nat) (H : Heap) (locs : List Loc) (ls : Array Slot), rt = none → decode cc pc = .ok (.return_, 1) → va_P E.1 classes (wl E σ) H → va_S (AW E) s.heap H locs → Q none σ → W p l e R s m args below meth c H locs cells slots QQ (F0 m pc ls []))
    (hchk : ∀ k en, nth pg k = some en → chkE cc pg fl gs nL rt zr en = true)
    {nx : Nat → Lv → List Value → Mem → Prop} (hnx : ∀ k lv st σ, nx k lv st σ → OkN p l e R s m args below meth c cells slots QQ E nL pg k lv st σ)
    {k : Nat} {lv : Lv} {st : List Value} {σ : Mem} (h : wstep pg ro cs lcs zr Q nx k lv st σ) : OkN p l e R s m args below meth c cells slots QQ E nL pg k lv st σ := by
  obtain ⟨hK, hE, hN, hst⟩ := hB
  unfold wstep at h
  cases hk : nth pg k with
  | none => rw [hk] at h; exact h.elim
  | some en =>
    obtain ⟨pc, nn, ins, len, ci, j, w, sw⟩ := en
    have hc := hchk k _ hk
    rw [hk] at h
    intro H locs ls hP hS hl
    have hpc : pcA pg k = pc := by unfold pcA; rw [hk]
    rw [hpc]
    have hD : va_D (AW E) (wl E σ) := AW_D E hE σ
    have go : ∀ {n' : Nat} {lv' : Lv} {st' : List Value} {σ' : Mem} {H' : Heap} {locs' : List Loc} {ls' : Array Slot} {q : Nat}, nx n' lv' st' σ' → pcA pg n' = q → va_P E.1 classes (wl E σ') H' → va_S (AW E) s.heap H' locs' → lv_has ls' nL (concL E.2.1 lv') → W p l e R s m args below meth c H' locs' cells slots QQ (F0 m q ls' (st'.map (conc E.2.1))) :=
      fun h e a b d => e ▸ hnx _ _ _ _ h _ _ _ a b d
    unfold chkE at hc
    simp only [Bool.and_eq_true, decide_eq_true_eq] at hc
    obtain ⟨hd, hc⟩ := hc
    dsimp only at h
    cases ins <;> dsimp only at h hc <;> (try exact h.elim)
    case iconst i =>
      obtain ⟨e0, e3⟩ := (by simpa only [Bool.and_eq_true, decide_eq_true_eq] using hc : _ ∧ _)
      obtain ⟨e1, e2⟩ := c1_of e0
      subst e1
      refine lv_iconst hx hb hd e3 ?_
      exact go h e2 hP hS hl
    case bipush i =>
      obtain ⟨e0, e3⟩ := (by simpa only [Bool.and_eq_true, decide_eq_true_eq] using hc : _ ∧ _)
      obtain ⟨e1, e2⟩ := c1_of e0
      subst e1
      refine lv_bipush hx hb hd e3 ?_
      exact go h e2 hP hS hl
    case sipush i =>
      obtain ⟨e0, e3⟩ := (by simpa only [Bool.and_eq_true, decide_eq_true_eq] using hc : _ ∧ _)
      obtain ⟨e1, e2⟩ := c1_of e0
      subst e1
      refine lv_sipush hx hb hd e3 ?_
      exact go h e2 hP hS hl
    case lconst i =>
      obtain ⟨e1, e2⟩ := c1_of hc
      subst e1
      refine lv_lconst hx hb hd rfl ?_
      exact go h e2 hP hS hl
    case ldc2_w i =>
      obtain ⟨e1, e2⟩ := c1_of hc
      subst e1
      split at h
      · refine lv_ldc2 hx hb hown (hlc _ _ (by assumption)) hd ?_
        exact go h e2 hP hS hl
      · exact h.elim
    case iload_n i =>
      obtain ⟨e1, e2⟩ := c1_of hc
      subst e1
      split at h
      · refine lv_iload_n hx hb hd rfl (concL_at E.2.1 hl (by assumption)) ?_
        exact go h e2 hP hS hl
      · exact h.elim
    case iload i =>
      obtain ⟨e1, e2⟩ := c1_of hc
      subst e1
      split at h
      · refine lv_iload hx hb hd (concL_at E.2.1 hl (by assumption)) ?_
        exact go h e2 hP hS hl
      · exact h.elim
    case lload_n i =>
      obtain ⟨e1, e2⟩ := c1_of hc
      subst e1
      split at h
      · refine lv_lload_n hx hb hd rfl (concL_at E.2.1 hl (by assumption)) ?_
        exact go h e2 hP hS hl
      · exact h.elim
    case lload i =>
      obtain ⟨e1, e2⟩ := c1_of hc
      subst e1
      split at h
      · refine lv_lload hx hb hd (concL_at E.2.1 hl (by assumption)) ?_
        exact go h e2 hP hS hl
      · exact h.elim
    case aload_n i =>
      obtain ⟨e1, e2⟩ := c1_of hc
      subst e1
      split at h
      · refine lv_aload_n hx hb hd rfl (concL_at E.2.1 hl (by assumption)) ?_
        exact go h e2 hP hS hl
      · exact h.elim
    case aload i =>
      obtain ⟨e1, e2⟩ := c1_of hc
      subst e1
      split at h
      · refine lv_aload hx hb hd (concL_at E.2.1 hl (by assumption)) ?_
        exact go h e2 hP hS hl
      · exact h.elim
    case istore_n i =>
      obtain ⟨e0, e3⟩ := (by simpa only [Bool.and_eq_true, decide_eq_true_eq] using hc : _ ∧ _)
      obtain ⟨e1, e2⟩ := c1_of e0
      subst e1
      split at h
      · rename_i x st
        refine lv_istore_n hx hb hd rfl hl e3 rfl (fun ls hl => ?_)
        have hl := lv_fewer hl (concL_S E.2.1 lv _ (.int x))
        exact go h e2 hP hS hl
      · exact h.elim
    case istore i =>
      obtain ⟨e0, e3⟩ := (by simpa only [Bool.and_eq_true, decide_eq_true_eq] using hc : _ ∧ _)
      obtain ⟨e1, e2⟩ := c1_of e0
      subst e1
      split at h
      · rename_i x st
        refine lv_istore hx hb hd hl e3 rfl (fun ls hl => ?_)
        have hl := lv_fewer hl (concL_S E.2.1 lv _ (.int x))
        exact go h e2 hP hS hl
      · exact h.elim
    case astore_n i =>
      obtain ⟨e0, e3⟩ := (by simpa only [Bool.and_eq_true, decide_eq_true_eq] using hc : _ ∧ _)
      obtain ⟨e1, e2⟩ := c1_of e0
      subst e1
      split at h
      · rename_i x st
        refine lv_astore_n hx hb hd rfl hl e3 rfl (fun ls hl => ?_)
        have hl := lv_fewer hl (concL_S E.2.1 lv _ (.ref x))
        exact go h e2 hP hS hl
      · exact h.elim
    case lstore_n i =>
      obtain ⟨e0, e3⟩ := (by simpa only [Bool.and_eq_true, decide_eq_true_eq] using hc : _ ∧ _)
      obtain ⟨e1, e2⟩ := c1_of e0
      subst e1
      split at h
      · rename_i x st
        refine lv_lstore_n hx hb hd rfl hl e3 rfl (fun ls hl => ?_)
        have hl := lv_fewer hl (concL_S2 E.2.1 lv _ (.long x))
        exact go h e2 hP hS hl
      · exact h.elim
    case lstore i =>
      obtain ⟨e0, e3⟩ := (by simpa only [Bool.and_eq_true, decide_eq_true_eq] using hc : _ ∧ _)
      obtain ⟨e1, e2⟩ := c1_of e0
      subst e1
      split at h
      · rename_i x st
        refine lv_lstore hx hb hd hl e3 rfl (fun ls hl => ?_)
        have hl := lv_fewer hl (concL_S2 E.2.1 lv _ (.long x))
        exact go h e2 hP hS hl
      · exact h.elim
    case iinc i n =>
      obtain ⟨e0, e3, e4⟩ := (by simpa only [Bool.and_eq_true, decide_eq_true_eq] using hc : _ ∧ _ ∧ _)
      obtain ⟨e1, e2⟩ := c1_of e0
      subst e1
      split at h
      · rename_i x hx1
        obtain ⟨k1, hk1⟩ := List.getElem?_of_mem (concL_in E.2.1 hx1)
        refine lv_iinc (v := x + w) hx hb hd hl (k := k1) hk1 (by rw [e3]) e4 rfl (fun ls hl => ?_)
        have hl := lv_fewer hl (concL_S E.2.1 lv i (.int (x + w)))
        exact go h e2 hP hS hl
      · exact h.elim
    case iadd =>
      obtain ⟨e1, e2⟩ := c1_of hc
      subst e1
      split at h
      · refine lv_iadd hx hb hd ?_
        exact go h e2 hP hS hl
      · exact h.elim
    case isub =>
      obtain ⟨e1, e2⟩ := c1_of hc
      subst e1
      split at h
      · refine lv_isub hx hb hd ?_
        exact go h e2 hP hS hl
      · exact h.elim
    case imul =>
      obtain ⟨e1, e2⟩ := c1_of hc
      subst e1
      split at h
      · refine lv_imul hx hb hd ?_
        exact go h e2 hP hS hl
      · exact h.elim
    case iand =>
      obtain ⟨e1, e2⟩ := c1_of hc
      subst e1
      split at h
      · refine lv_iand hx hb hd ?_
        exact go h e2 hP hS hl
      · exact h.elim
    case ineg =>
      obtain ⟨e1, e2⟩ := c1_of hc
      subst e1
      split at h
      · refine lv_ineg hx hb hd ?_
        exact go h e2 hP hS hl
      · exact h.elim
    case ladd =>
      obtain ⟨e1, e2⟩ := c1_of hc
      subst e1
      split at h
      · refine lv_ladd hx hb hd ?_
        exact go h e2 hP hS hl
      · exact h.elim
    case lsub =>
      obtain ⟨e1, e2⟩ := c1_of hc
      subst e1
      split at h
      · refine lv_lsub hx hb hd ?_
        exact go h e2 hP hS hl
      · exact h.elim
    case lmul =>
      obtain ⟨e1, e2⟩ := c1_of hc
      subst e1
      split at h
      · refine lv_lmul hx hb hd ?_
        exact go h e2 hP hS hl
      · exact h.elim
    case lneg =>
      obtain ⟨e1, e2⟩ := c1_of hc
      subst e1
      split at h
      · refine lv_lneg hx hb hd ?_
        exact go h e2 hP hS hl
      · exact h.elim
    case lcmp =>
      obtain ⟨e1, e2⟩ := c1_of hc
      subst e1
      split at h
      · refine W.lcmp hx hb hd ?_
        exact go h e2 hP hS hl
      · exact h.elim
    case i2l =>
      obtain ⟨e1, e2⟩ := c1_of hc
      subst e1
      split at h
      · refine lv_i2l hx hb hd rfl ?_
        exact go h e2 hP hS hl
      · exact h.elim
    case i2b =>
      obtain ⟨e1, e2⟩ := c1_of hc
      subst e1
      split at h
      · refine lv_i2b hx hb hd rfl ?_
        exact go h e2 hP hS hl
      · exact h.elim
    case i2s =>
      obtain ⟨e1, e2⟩ := c1_of hc
      subst e1
      split at h
      · refine lv_i2s hx hb hd rfl ?_
        exact go h e2 hP hS hl
      · exact h.elim
    case dup =>
      obtain ⟨e1, e2⟩ := c1_of hc
      subst e1
      split at h
      · refine lv_dup hx hb hd rfl ?_
        exact go h e2 hP hS hl
      · refine lv_dup hx hb hd rfl ?_
        exact go h e2 hP hS hl
      · exact h.elim
    case pop =>
      obtain ⟨e1, e2⟩ := c1_of hc
      subst e1
      split at h
      · refine lv_pop hx hb hd rfl ?_
        exact go h e2 hP hS hl
      · exact h.elim
    case dup_x1 =>
      obtain ⟨e1, e2⟩ := c1_of hc
      subst e1
      split at h
      · refine lv_dup_x1 hx hb hd rfl rfl ?_
        exact go h e2 hP hS hl
      · exact h.elim
    case dup2 =>
      obtain ⟨e1, e2⟩ := c1_of hc
      subst e1
      split at h
      · refine lv_dup2_11 hx hb hd rfl rfl ?_
        exact go h e2 hP hS hl
      · exact h.elim
    case goto off =>
      obtain ⟨e1, e2⟩ := (by simpa only [Bool.and_eq_true, decide_eq_true_eq] using hc : _ ∧ _)
      have e1 := Nat.eq_of_beq_eq_true e1
      subst e1
      refine lv_goto hx hb hd e2 ?_
      exact go h rfl hP hS hl
    case ifCond cd off =>
      obtain ⟨e0, e3⟩ := (by simpa only [Bool.and_eq_true, decide_eq_true_eq] using hc : _ ∧ _)
      obtain ⟨e1, e2⟩ := c1_of e0
      subst e1
      split at h
      · split at h
        · exact lv_if_eq hx hb hd e3 (fun q => go (h.1 q) rfl hP hS hl) (fun q => go (h.2 q) e2 hP hS hl)
        · exact lv_if_ne hx hb hd e3 (fun q => go (h.2 q) rfl hP hS hl) (fun q => go (h.1 q) e2 hP hS hl)
        · exact lv_if_lt hx hb hd e3 (fun q => go (h.1 q) rfl hP hS hl) (fun q => go (h.2 q) e2 hP hS hl)
        · exact lv_if_ge hx hb hd e3 (fun q => go (h.1 q) rfl hP hS hl) (fun q => go (h.2 q) e2 hP hS hl)
        · exact lv_if_gt hx hb hd e3 (fun q => go (h.1 q) rfl hP hS hl) (fun q => go (h.2 q) e2 hP hS hl)
        · exact lv_if_le hx hb hd e3 (fun q => go (h.1 q) rfl hP hS hl) (fun q => go (h.2 q) e2 hP hS hl)
      · exact h.elim
    case if_icmp cd off =>
      obtain ⟨e0, e3⟩ := (by simpa only [Bool.and_eq_true, decide_eq_true_eq] using hc : _ ∧ _)
      obtain ⟨e1, e2⟩ := c1_of e0
      subst e1
      split at h
      · split at h
        · exact lv_icmp_eq hx hb hd e3 (fun q => go (h.1 q) rfl hP hS hl) (fun q => go (h.2 q) e2 hP hS hl)
        · exact lv_icmp_ne hx hb hd e3 (fun q => go (h.2 q) rfl hP hS hl) (fun q => go (h.1 q) e2 hP hS hl)
        · exact lv_icmp_lt hx hb hd e3 (fun q => go (h.1 q) rfl hP hS hl) (fun q => go (h.2 q) e2 hP hS hl)
        · exact lv_icmp_ge hx hb hd e3 (fun q => go (h.1 q) rfl hP hS hl) (fun q => go (h.2 q) e2 hP hS hl)
        · exact lv_icmp_gt hx hb hd e3 (fun q => go (h.1 q) rfl hP hS hl) (fun q => go (h.2 q) e2 hP hS hl)
        · exact lv_icmp_le hx hb hd e3 (fun q => go (h.1 q) rfl hP hS hl) (fun q => go (h.2 q) e2 hP hS hl)
      · exact h.elim
    case tableswitch dflt lo hi offs =>
      obtain ⟨e1, e2, e3⟩ := (by simpa only [Bool.and_eq_true, decide_eq_true_eq] using hc : _ ∧ _ ∧ _)
      split at h
      · rename_i x st
        have hlen := chkT_len e3
        rcases swA_spec h with ⟨i, v, t, g1, g2, g3⟩ | ⟨g1, g2⟩
        · obtain ⟨f1, o, f2, f3⟩ := chkT_at e3 g1
          have hi := nth_lt g1
          have hxt : x.toInt = lo + (i : Int) := by rw [g2, f1]; congr 2; omega
          refine lv_tableIn (off := o) hx hb hd (by omega) (by omega) ?_ f3 (go g3 rfl hP hS hl)
          rw [show (x.toInt - lo).toNat = i by omega, ← Array.getElem?_toList]
          exact f2
        · refine lv_tableOut hx hb hd ?_ e1 (go g2 rfl hP hS hl)
          rcases Int.lt_or_le x.toInt lo with q | q
          · exact Or.inl q
          · rcases Int.lt_or_le hi x.toInt with q2 | q2
            · exact Or.inr q2
            · obtain ⟨⟨v, t⟩, hv⟩ := nth_ex (l := sw) (i := (x.toInt - lo).toNat) (by omega)
              obtain ⟨f1, -⟩ := chkT_at e3 hv
              exact absurd (Int32.toInt_inj.mp (by rw [f1]; omega)) (g1 _ v t hv)
      · exact h.elim
    case lookupswitch dflt ps =>
      obtain ⟨e1, e2, e3⟩ := (by simpa only [Bool.and_eq_true, decide_eq_true_eq] using hc : _ ∧ _ ∧ _)
      split at h
      · rename_i x st
        obtain ⟨t, off, g1, g2, g3⟩ := chkL_off e1 e3 h
        exact lv_lookup hx hb hd e2 g2 g3 (go g1 rfl hP hS hl)
      · exact h.elim
    case getstatic i =>
      obtain ⟨e0, e3⟩ := (by simpa only [Bool.and_eq_true, decide_eq_true_eq] using hc : _ ∧ _)
      obtain ⟨e1, e2⟩ := c1_of e0
      subst e1
      obtain ⟨n, hz, hlk⟩ := hgs _ _ e3
      refine va_gets hx hb hz hS hown hlk (fun _ h => h) hd ?_
      exact go h e2 hP hS hl
    case getfield i =>
      obtain ⟨e0, e3⟩ := (by simpa only [Bool.and_eq_true, decide_eq_true_eq] using hc : _ ∧ _)
      obtain ⟨e1, e2⟩ := c1_of e0
      subst e1
      split at h
      · rename_i a st
        split at h
        · rename_i cj fds hla
          cases hbq : Nat.beq ci cj with
          | false => rw [hbq] at h; exact h.elim
          | true =>
            rw [hbq] at h
            have hcj : ci = cj := Nat.eq_of_beq_eq_true hbq
            subst hcj
            have hw := wl_get E σ hla
            obtain ⟨q, ref, hq, hj, hlk, hsm⟩ := hfl _ _ _ e3
            have hci : ci < 10 := by have := (List.getElem?_eq_some_iff.mp hq).1; exact this
            have key : ∀ fd, nth fds j = some fd → ∀ st', nx nn lv st' σ → (st'.map (conc E.2.1) = conc E.2.1 (afv σ a j fd) :: st.map (conc E.2.1)) → W p l e R s m args below meth c H locs cells slots QQ (F0 m pc ls (.ref (E.2.1 a) :: st.map (conc E.2.1))) := by
              intro fd hfd st' hh hs
              have hv : (fdv E σ a 0 fds)[j]? = some (conc E.2.1 (afv σ a j fd)) := by have := fdv_get E σ a 0 hfd; rwa [Nat.zero_add] at this
              have fin := go hh e2 hP hS hl
              rw [hs] at fin
              rcases hlk with hlk | ⟨host, hlk⟩
              · exact va_get hx hb hts (cls_in ci hci q hq) hown hK hP a hw hq j hj hlk hsm hv hd fin
              · exact va_getN hx hb hts (cls_in ci hci q hq) hown hK hP a hw hq j hj hlk hsm hv hd fin
            dsimp only [cond] at h
            split at h
            · exact key _ (by assumption) _ h rfl
            · exact key _ (by assumption) _ h rfl
            · exact key _ (by assumption) _ h rfl
            · exact key _ (by assumption) _ h rfl
            · exact key _ (by assumption) _ h rfl
            · exact h.elim
        · exact h.elim
      · exact h.elim
    case putfield i =>
      obtain ⟨e0, e3⟩ := (by simpa only [Bool.and_eq_true, decide_eq_true_eq] using hc : _ ∧ _)
      obtain ⟨e1, e2⟩ := c1_of e0
      subst e1
      split at h
      · rename_i v a st
        split at h
        · rename_i cj fds hla
          cases hbq : Nat.beq ci cj with
          | false => rw [hbq] at h; exact h.elim
          | true =>
            rw [hbq] at h
            have hcj : ci = cj := Nat.eq_of_beq_eq_true hbq
            subst hcj
            have hw := wl_get E σ hla
            obtain ⟨q, ref, hq, hj, hlk, hsm⟩ := hfl _ _ _ e3
            have hci : ci < 10 := by have := (List.getElem?_eq_some_iff.mp hq).1; exact this
            obtain ⟨⟨ty0, hty⟩, hnm⟩ := cls_ty ci hci q hq
            have key : ∀ fd σ', nth fds j = some fd → (∀ i c', i ≠ a → nth lay i = some c' → cel E σ' i c' = cel E σ i c') → (∀ jj fd', jj ≠ j → nth fds jj = some fd' → afv σ' a jj fd' = afv σ a jj fd') → (conc E.2.1 v = conc E.2.1 (afv σ' a j fd)) → ∀ ty, parseFieldDescriptor (q.2.1 j).2.2.1 = some ty → narrow ty (conc E.2.1 v) = conc E.2.1 v → fits ty (conc E.2.1 v) = true → (q.2.1 j).2.2.2 = false → nx nn lv st σ' → W p l e R s m args below meth c H locs cells slots QQ (F0 m pc ls (conc E.2.1 v :: .ref (E.2.1 a) :: st.map (conc E.2.1))) := by
              intro fd σ' hfd ho1 ho2 hv ty h1 h2 h3 hfin hh
              have hlen : j < (fdv E σ a 0 fds).length := by rw [fdv_len]; exact nth_lt hfd
              have hset : (wl E σ).set a (E.2.1 a, .inr (ci, (fdv E σ a 0 fds).set j (conc E.2.1 v))) = wl E σ' := by
                rw [hv, fdv_set E hfd ho2]
                exact wl_set E (c := .inr (ci, fds)) hla ho1
              rcases hlk with hlk | ⟨host, hlk⟩
              · refine va_put hx hb hts (cls_in ci hci q hq) ty0 hty hnm hown hK hP hD hS a hw hq j hj hlk hsm hfin h1 h2 h3 hlen hd (fun H1 locs1 hP1 _ hS1 => ?_)
                rw [hset] at hP1
                exact go hh e2 hP1 hS1 hl
              · refine va_putN hx hb hts (cls_in ci hci q hq) ty0 hty hnm hown hK hP hD hS a hw hq j hj hlk hsm hfin h1 h2 h3 hlen hd (fun H1 locs1 hP1 _ hS1 => ?_)
                rw [hset] at hP1
                exact go hh e2 hP1 hS1 hl
            have hai : a < 72 := by have := nth_lt hla; rwa [lay_len] at this
            have hfl40 : fds.length ≤ 40 := by
              have := lay_at hai (show 0 < 41 by omega)
              unfold layChk at this
              rw [hla] at this
              dsimp only at this
              rw [hq] at this
              simp only [Bool.and_eq_true] at this
              exact Nat.le_of_ble_eq_true this.1.2
            have lc : ∀ fd, nth fds j = some fd → kchk q a j fd = true := by
              intro fd hfd
              have := lay_at hai (show j < 41 by have := nth_lt hfd; omega)
              unfold layChk at this
              rw [hla] at this
              dsimp only at this
              rw [hq] at this
              dsimp only at this
              rw [hfd] at this
              simp only [Bool.and_eq_true] at this
              exact this.2
            dsimp only [cond] at h
            split at h
            · rename_i x hfd
              have h9 := lc _ hfd
              simp only [kchk, Bool.and_eq_true, beq_iff_eq, Bool.not_eq_true'] at h9
              refine key _ (sI σ a j x) hfd (fun i c' hi _ => cel_congr E c' (gI_sI_ne σ hi j x) rfl rfl rfl) (fun jj fd' hjj hfd' => ?_) ?_ .int (by rw [h9.1]; decide +kernel) rfl rfl h9.2 h
              · unfold afv
                split <;> first | rfl | (simp [gI, sI, hjj])
              · simp [conc, afv, gI, sI]
            · rename_i x hfd
              have h9 := lc _ hfd
              simp only [kchk, Bool.and_eq_true, beq_iff_eq, Bool.not_eq_true'] at h9
              refine key _ (sL σ a j x) hfd (fun i c' hi _ => cel_congr E c' rfl (gL_sL_ne σ hi j x) rfl rfl) (fun jj fd' hjj hfd' => ?_) ?_ .long (by rw [h9.1]; decide +kernel) rfl rfl h9.2 h
              · unfold afv
                split <;> first | rfl | (simp [gL, sL, hjj])
              · simp [conc, afv, gL, sL]
            · rename_i x hfd
              have h9 := lc _ hfd
              simp only [kchk, Bool.and_eq_true, beq_iff_eq, Bool.not_eq_true'] at h9
              have ha0 : a = 0 := Nat.eq_of_beq_eq_true h9.1.2
              have hj0 : j = 8 := Nat.eq_of_beq_eq_true h9.2
              refine key _ (sP σ x) hfd (fun i c' hi hc' => ?_) (fun jj fd' hjj hfd' => ?_) rfl (.object "TankField$Building") (by rw [h9.1.1.1]; decide +kernel) rfl rfl h9.1.1.2 h
              · refine cel_obj E c' rfl rfl (fun ci' fds' jj fd' e1 e2 => ?_)
                subst e1
                exact afv_keep3 σ x hc' e2 (fun z => hi (z.1.trans ha0.symm))
              · exact afv_keep3 σ x hla hfd' (fun z => hjj (z.2.trans hj0.symm))
            · rename_i x hfd
              have h9 := lc _ hfd
              simp only [kchk, Bool.and_eq_true, beq_iff_eq, Bool.not_eq_true'] at h9
              have ha0 : a = 0 := Nat.eq_of_beq_eq_true h9.1.2
              have hj0 : j = 9 := Nat.eq_of_beq_eq_true h9.2
              refine key _ (sQ σ x) hfd (fun i c' hi hc' => ?_) (fun jj fd' hjj hfd' => ?_) rfl (.object "TankField$Building") (by rw [h9.1.1.1]; decide +kernel) rfl rfl h9.1.1.2 h
              · refine cel_obj E c' rfl rfl (fun ci' fds' jj fd' e1 e2 => ?_)
                subst e1
                exact afv_keep4 σ x hc' e2 (fun z => hi (z.1.trans ha0.symm))
              · exact afv_keep4 σ x hla hfd' (fun z => hjj (z.2.trans hj0.symm))
            · exact h.elim
        · exact h.elim
      · exact h.elim
    case iaload =>
      obtain ⟨e1, e2⟩ := c1_of hc
      subst e1
      split at h
      · split at h
        · rename_i hla
          refine va_iald hx hb hK hP _ 0 (wl_get E σ hla) rfl h.1 hd ?_
          exact go h.2 e2 hP hS hl
        · split at h
          · rename_i len f hf
            refine va_ti hx hb (hro _ _ _ hf) hS h.1 rfl hd ?_
            exact go h.2 e2 hP hS hl
          · exact h.elim
        · exact h.elim
      · exact h.elim
    case baload =>
      obtain ⟨e1, e2⟩ := c1_of hc
      subst e1
      split at h
      · split at h
        · rename_i hla
          refine va_zald hx hb hK hP _ 1 (wl_get E σ hla) rfl h.1 hd ?_
          exact go h.2 e2 hP hS hl
        · exact h.elim
      · exact h.elim
    case laload =>
      obtain ⟨e1, e2⟩ := c1_of hc
      subst e1
      split at h
      · split at h
        · rename_i hla
          refine va_lald hx hb hK hP _ 2 (wl_get E σ hla) rfl h.1 hd ?_
          exact go h.2 e2 hP hS hl
        · exact h.elim
      · exact h.elim
    case iastore =>
      obtain ⟨e1, e2⟩ := c1_of hc
      subst e1
      split at h
      · split at h
        · rename_i x i a st o len hla
          refine va_iast hx hb hK hP hD hS _ 0 (wl_get E σ hla) rfl h.1 hd (fun H1 locs1 hP1 _ hS1 => ?_)
          have hs := wl_set E (σ := σ) (σ' := sI σ a (rI i) x) hla (fun i' c' hi _ => cel_congr E c' (gI_sI_ne σ hi _ _) rfl rfl rfl)
          simp only [cel, gI_sI_eq] at hs
          rw [show i.toNatClampNeg = rI i from rfl, hs] at hP1
          exact go h.2 e2 hP1 hS1 hl
        · exact h.elim
      · exact h.elim
    case bastore =>
      obtain ⟨e1, e2⟩ := c1_of hc
      subst e1
      split at h
      · split at h
        · rename_i x i a st o len hla
          refine va_zast hx hb hK hP hD hS _ 1 (wl_get E σ hla) rfl h.1 hd (fun H1 locs1 hP1 _ hS1 => ?_)
          have hs := wl_set E (σ := σ) (σ' := sI σ a (rI i) (vp_nar .boolean x)) hla (fun i' c' hi _ => cel_congr E c' (gI_sI_ne σ hi _ _) rfl rfl rfl)
          simp only [cel, gI_sI_eq] at hs
          rw [show i.toNatClampNeg = rI i from rfl, hs] at hP1
          exact go h.2 e2 hP1 hS1 hl
        · exact h.elim
      · exact h.elim
    case lastore =>
      obtain ⟨e1, e2⟩ := c1_of hc
      subst e1
      split at h
      · split at h
        · rename_i x i a st o len hla
          refine va_last hx hb hK hP hD hS _ 2 (wl_get E σ hla) rfl h.1 hd (fun H1 locs1 hP1 _ hS1 => ?_)
          have hs := wl_set E (σ := σ) (σ' := sL σ a (rI i) x) hla (fun i' c' hi _ => cel_congr E c' rfl (gL_sL_ne σ hi _ _) rfl rfl)
          simp only [cel, gL_sL_eq] at hs
          rw [show i.toNatClampNeg = rI i from rfl, hs] at hP1
          exact go h.2 e2 hP1 hS1 hl
        · exact h.elim
      · exact h.elim
    case arraylength =>
      obtain ⟨e1, e2⟩ := c1_of hc
      subst e1
      split at h
      · split at h
        · rename_i hla
          refine va_alen hx hb hK hP _ 0 (wl_get E σ hla) rfl rfl hd ?_
          exact go h e2 hP hS hl
        · split at h
          · rename_i len f hf
            refine va_tlen hx hb (hro _ _ _ hf) hS rfl hd ?_
            exact go h e2 hP hS hl
          · exact h.elim
        · exact h.elim
      · exact h.elim
    case invokevirtual i =>
      obtain ⟨e1, e2⟩ := c1_of hc
      subst e1
      split at h
      · rename_i n sp hf
        split at h
        · rename_i b rest hdr
          obtain ⟨h1, h2⟩ := h
          have hst : st = (st.take n) ++ (.ref b :: rest) := by rw [← hdr]; exact (List.take_append_drop n st).symm
          have hn : (st.take n).length = n := by
            rw [List.length_take]
            have : n < st.length := by
              rcases Nat.lt_or_ge n st.length with q | q
              · exact q
              · rw [List.drop_eq_nil_of_le q] at hdr; cases hdr
            omega
          have hr := hcs _ _ _ _ hf _ σ _ H locs ls pc (rest.map (conc E.2.1)) h2 (by rw [List.length_cons, List.length_reverse, hn]; rfl) hP hS hl.1 (by rw [List.map_map]; simpa [Function.comp_def, conc_cat] using h1) hd
          have e9 : ((Value.ref b :: (st.take n).reverse).map (conc E.2.1)).reverse ++ rest.map (conc E.2.1) = st.map (conc E.2.1) := by
            conv => rhs; rw [hst]
            simp [List.map_append, List.map_reverse]
          rw [e9] at hr
          refine am_call hr hS (fun v σ' H1 locs1 hk hP1 hS1 => ?_)
          have fin := go hk e2 hP1 hS1 hl
          rw [List.map_append] at fin
          cases v with
          | none => exact fin
          | some v => exact fin
        · exact h.elim
      · exact h.elim
    case invokestatic i =>
      obtain ⟨e1, e2⟩ := c1_of hc
      subst e1
      split at h
      · rename_i n sp hf
        obtain ⟨h0, h1, h2⟩ := h
        have hn : (st.take n).length = n := by rw [List.length_take]; omega
        have hr := hcs _ _ _ _ hf _ σ _ H locs ls pc ((st.drop n).map (conc E.2.1)) h2 (by rw [List.length_reverse, hn]; rfl) hP hS hl.1 (by rw [List.map_map]; simpa [Function.comp_def, conc_cat] using h1) hd
        have e9 : (((st.take n).reverse).map (conc E.2.1)).reverse ++ (st.drop n).map (conc E.2.1) = st.map (conc E.2.1) := by
          rw [List.map_reverse, List.reverse_reverse, ← List.map_append, List.take_append_drop]
        rw [e9] at hr
        refine am_call hr hS (fun v σ' H1 locs1 hk hP1 hS1 => ?_)
        have fin := go hk e2 hP1 hS1 hl
        rw [List.map_append] at fin
        cases v with
        | none => exact fin
        | some v => exact fin
      · exact h.elim
    case ireturn =>
      obtain ⟨e1, e3⟩ := (by simpa only [Bool.and_eq_true, decide_eq_true_eq] using hc : _ ∧ _)
      have e1 := Nat.eq_of_beq_eq_true e1
      subst e1
      split at h
      · cases zr with
        | true => exact hri _ σ pc H locs ls e3 hd hP hS (fun _ => h.1) h.2
        | false => exact hri _ σ pc H locs ls e3 hd hP hS (fun q => by cases q) h
      · exact h.elim
    case lreturn =>
      obtain ⟨e1, e3⟩ := (by simpa only [Bool.and_eq_true, decide_eq_true_eq] using hc : _ ∧ _)
      have e1 := Nat.eq_of_beq_eq_true e1
      subst e1
      split at h
      · exact hrl _ σ pc H locs ls e3 hd hP hS h
      · exact h.elim
    case return_ =>
      obtain ⟨e1, e3⟩ := (by simpa only [Bool.and_eq_true, decide_eq_true_eq] using hc : _ ∧ _)
      have e1 := Nat.eq_of_beq_eq_true e1
      subst e1
      split at h
      · exact hrv σ pc H locs ls e3 hd hP hS h
      · exact h.elim
end STEP
