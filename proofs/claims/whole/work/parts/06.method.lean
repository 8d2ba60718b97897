/-! A METHOD: from its body in numbers to its contract; calls -/
theorem nest_warm {s U : State} (hW : s.WarmedH U.vm) {w : Cond} (hw : w ∈ nestW) (h : va_Nw w s) : va_Nw w U := by
  have h1 := (List.mem_filter.mp hw).2
  cases w with
  | fieldLinkNest => exact va_Nw.warmF hW h
  | methodLinkNest => exact va_Nw.warmM hW h
  | _ => cases h1
theorem nest_same {s U : State} (hW : s.vm = U.vm) {w : Cond} (hw : w ∈ nestW) (h : va_Nw w s) : va_Nw w U := by
  have h1 := (List.mem_filter.mp hw).2
  cases w with
  | fieldLinkNest => exact va_Nw.same rfl hW h
  | methodLinkNest => exact va_Nw.same rfl hW h
  | _ => cases h1
theorem Bs.warm {E : En} {s U : State} {H : Heap} {locs : List Loc} (h : Bs E s) (hW : s.WarmedH U.vm) (hU : U.heap = H) (hS : va_S (AW E) s.heap H locs) : Bs E U := by
  obtain ⟨h1, h2, h3, ⟨h4, h5⟩, ⟨h6, h7⟩⟩ := h
  have hk : ∀ a : Nat, a < s.heap.size → ¬ AW E a → U.heap[a]? = s.heap[a]? := fun a g1 g2 => by rw [hU]; exact hS.2.1 a g1 g2
  exact ⟨va_K.moved hW.alike h1, h2, fun w hw => nest_warm hW hw (h3 w hw), ⟨(va_Z.moved hW.alike h4).kept hk, (va_T.moved hW.alike h5).kept hk⟩, ⟨(va_Z.moved hW.alike h6).kept hk, (va_T.moved hW.alike h7).kept hk⟩⟩
theorem Bs.same {E : En} {s U : State} (h : Bs E s) (hv : s.vm = U.vm) (hh : U.heap = s.heap) : Bs E U := by
  obtain ⟨h1, h2, h3, ⟨h4, h5⟩, ⟨h6, h7⟩⟩ := h
  have ha : s.vm.Alike U.vm := by rw [← hv]; exact Vm.Alike.refl s.vm
  exact ⟨va_K.moved ha h1, h2, fun w hw => nest_same hv hw (h3 w hw), by rw [hh]; exact ⟨va_Z.moved ha h4, va_T.moved ha h5⟩, by rw [hh]; exact ⟨va_Z.moved ha h6, va_T.moved ha h7⟩⟩
theorem Wd.blind {E : En} {σ : Mem} {vs : List Value} : FrameBlind (va_Pc vs (Wd E σ)) := fun a U g mk h => ⟨h.1, h.2.1, h.2.2.same rfl rfl⟩
section METH
variable {p : Program} {l : Launch} {e : Env} {R : Room} {s : State} {m : MethodId} {args : Array Value} {below : List Frame} {meth : Method} {c : Code} {cells slots : Nat} {QQ : State → Prop}
set_option maxHeartbeats 4000000 in
theorem wps_ok {E : En} {cc : ByteArray} {nL : Nat} {own : String} {pg : List Ent} {ro : Ro} {cs : Cs} {lcs : List (Nat × Int64)} {zr : Bool} {rt : Option FieldType} {fl : List (Nat × Nat × Nat)} {gs : List (Nat × Nat)} {Q : Option Value → Mem → Prop}
    (hx : p.tables.exec = Jvm.exec) (hb : c.code = cc) (hown : s.vm.findClass own = some m.cls) (hts : ∀ w ∈ tT, w.before args s = true) (hB : Bs E s)
    (hro : ∀ a len f, fnd ro a = some (len, f) → va_T .int (E.2.1 a) len (fun j => .int (f j)) (AW E) s s.heap)
    (hgs : ∀ i j, (i, j) ∈ gs → ∃ n, va_Z "TankField" n "[I" (.ref (E.2.1 j)) (AW E) s s.heap ∧ (Cond.fieldLink own i "TankField" n "[I").before args s = true)
    (hfl : ∀ i ci j, (i, ci, j) ∈ fl → LK own i ci j args s)
    (hlc : ∀ i v, fnd lcs i = some v → (Cond.constantLong own i v).before args s = true)
    (hcs : ∀ i n vb sp, fnd cs i = some (n, vb, sp) → CK p l e R s m args below meth c cells slots E cc nL i n vb sp)
    (hri : ∀ (v : Int32) (σ : Mem) (pc : Nat) (H : Heap) (locs : List Loc) (ls : Array Slot), rt = some (bif zr then .boolean else .int) → decode cc pc = .ok (.ireturn, 1) → va_P E.1 classes (wl E σ) H → va_S (AW E) s.heap H locs → (zr = true → v = 0 ∨ v = 1) → Q (some (.int v)) σ → W p l e R s m args below meth c H locs cells slots QQ (F0 m pc ls [.int v]))
    (hrl : ∀ (v : Int64) (σ : Mem) (pc : Nat) (H : Heap) (locs : List Loc) (ls : Array Slot), rt = some .long → decode cc pc = .ok (.lreturn, 1) → va_P E.1 classes (wl E σ) H → va_S (AW E) s.heap H locs → Q (some (.long v)) σ → W p l e R s m args below meth c H locs cells slots QQ (F0 m pc ls [.long v]))
    (hrv : ∀ (σ : Mem) (pc : Nat) (H : Heap) (locs : List Loc) (ls : Array Slot), rt = none → decode cc pc = .ok (.return_, 1) → va_P E.1 classes (wl E σ) H → va_S (AW E) s.heap H locs → Q none σ → W p l e R s m args below meth c H locs cells slots QQ (F0 m pc ls []))
    (hchk : ∀ k en, nth pg k = some en → chkE cc pg fl gs nL rt zr en = true) (cut : List Nat) :
    ∀ (n k : Nat) (lv : Lv) (st : List Value) (σ : Mem), wps pg ro cs lcs zr cut (OkN p l e R s m args below meth c cells slots QQ E nL pg) Q n k lv st σ → OkN p l e R s m args below meth c cells slots QQ E nL pg k lv st σ := by
  intro n
  induction n with
  | zero => intro k lv st σ h; exact h.elim
  | succ n ih =>
    intro k lv st σ h
    refine wstep_ok hx hb hown hts hB hro hgs hfl hlc hcs hri hrl hrv hchk (fun k lv st σ h => ?_) h
    cases hi : inC cut k with
    | true => rw [hi] at h; exact h
    | false => rw [hi] at h; exact ih k lv st σ h
end METH
/-- a call of a method of ours, as a caller of that class and room may make it -/
def CE (l : Launch) (E : En) (R : Room) (own : String) (idx n : Nat) (vb : Bool) (sp : SP) : Prop :=
  ∀ (p : Program) (e : Env) (s : State) (m : MethodId) (args : Array Value) (below : List Frame) (meth : Method) (c : Code) (cells slots : Nat) (cc : ByteArray) (nL : Nat), p.tables.exec = Jvm.exec → c.code = cc → c.maxLocals = nL → s.vm.findClass own = some m.cls → (∀ w ∈ tT, w.before args s = true) → Bs E s → cells ≤ R.cells → slots ≤ R.slots → CK p l e R s m args below meth c cells slots E cc nL idx n vb sp
theorem tT_good : GoodIn tT tT := fun w hw => ⟨hw, good_of_word (List.mem_filter.mp hw).2⟩
theorem tT_code {y : MethodName} {cc : ByteArray} {nL : Nat} {rt : Option FieldType} (h : Cond.code y cc nL rt ∈ tT) : GoodIn tT (Cond.code y cc nL rt :: tT) := fun w hw => by
  rcases List.mem_cons.mp hw with e | e
  · rw [e]; exact tT_good _ h
  · exact tT_good _ e
/-- an object's class, as the layout has it -/
def rcv (C : String) (sp : SP) : Prop := ∀ vs σ K, sp vs σ K → ∃ (b : Nat) (As : List Value) (ci : Nat) (fds : List (Nat × Nat)) (q : vw_C), vs = .ref b :: As ∧ nth lay b = some (.inr (ci, fds)) ∧ classes[ci]? = some q ∧ q.1 = C
theorem rcv_at {E : En} {s : State} {H : Heap} {σ : Mem} (hB : Bs E s) (hP : va_P E.1 classes (wl E σ) H) {b ci : Nat} {fds : List (Nat × Nat)} {q : vw_C} (h1 : nth lay b = some (.inr (ci, fds))) (h2 : classes[ci]? = some q) : ∃ cell : Cell, H[E.2.1 b]? = some cell ∧ cell.vm.isStatics = false ∧ s.vm.findClass q.1 = some cell.cls :=
  va_recv hB.1 hP h2 (wl_get E σ h1)
theorem CE.virt {l : Launch} {E : En} {R : Room} {own : String} {idx n : Nat} {sp : SP} {y : MethodName} {cc' : ByteArray} {nL' : Nat} {rt' : Option FieldType} {rm' : Room} (hC : Ctr l E y cc' nL' rt' rm' sp) (hr : rcv y.cls sp)
    (w1 : Cond.methodLink own idx y ∈ tT) (w2 : Cond.instanceMethod y ∈ tT) (w3 : Cond.selects y.cls y y ∈ tT) (w4 : Cond.initialized y.cls ∈ tT) (w5 : Cond.code y cc' nL' rt' ∈ tT)
    (hd : y.cls ≠ "java/lang/invoke/MethodHandle" ∧ y.cls ≠ "java/lang/invoke/VarHandle" ∧ (parseMethodDescriptor y.desc).map (fun d => d.parameters.length) = some n)
    (hR : rm'.cells = 0 ∧ rm'.slots = 0 ∧ rm'.frames + 1 ≤ R.frames ∧ 8 + (nL' + 11) + rm'.locals ≤ R.locals) : CE l E R own idx n true sp := by
  intro p e s m args below meth c cells slots cc nL hx hb hml hown hts hB hcc hss vs σ K H locs ls pc rest hsp hlen hP hS hsz hcat hdg
  obtain ⟨b, As, ci, fds, q, rfl, hla, hq, hqc⟩ := hr vs σ K hsp
  obtain ⟨cell, k1, k2, k3⟩ := rcv_at hB hP hla hq
  rw [hqc] at k3
  have cw : CallW R s args own y.cls idx y cc' nL' rt' (Cond.code y cc' nL' rt' :: tT) rm' 0 0 n :=
    ⟨callB_of n hts (tT_code w5) rfl hR.1 hR.2.1 (hts _ w4) (hts _ w1) hd hR.2.2, hts _ w2, hts _ w3⟩
  have hpre : PreV s H y.cls (E.2.1 b) (va_Pc ((Value.ref b :: As).map (conc E.2.1)) (Wd E σ)) (As.map (conc E.2.1)) :=
    ⟨Wd.blind, ⟨cell, k1, k2, k3⟩, fun U hU hW => ⟨rfl, by rw [hU]; exact hP, hB.warm hW hU hS⟩⟩
  have hlen' : (As.map (conc E.2.1)).length = n := by rw [List.length_map]; simpa using hlen
  exact va_runV (g := F0 m pc ls (((Value.ref b :: As).map (conc E.2.1)).reverse ++ rest)) ⟨hx, hb, hml, hown, hts⟩ (hC _ σ K hsp) cw hpre rfl hlen' hsz (by simp; rfl) (lv_room hcat) hdg ⟨hcc, hss⟩
theorem CE.virtN {l : Launch} {E : En} {R : Room} {own host : String} {idx n : Nat} {sp : SP} {y : MethodName} {cc' : ByteArray} {nL' : Nat} {rt' : Option FieldType} {rm' : Room} (hC : Ctr l E y cc' nL' rt' rm' sp) (hr : rcv y.cls sp)
    (w1 : Cond.methodLinkNest own idx y host ∈ nestW) (w2 : Cond.instanceMethod y ∈ tT) (w3 : Cond.selects y.cls y y ∈ tT) (w4 : Cond.initialized y.cls ∈ tT) (w5 : Cond.code y cc' nL' rt' ∈ tT)
    (hd : y.cls ≠ "java/lang/invoke/MethodHandle" ∧ y.cls ≠ "java/lang/invoke/VarHandle" ∧ (parseMethodDescriptor y.desc).map (fun d => d.parameters.length) = some n)
    (hR : rm'.cells = 0 ∧ rm'.slots = 0 ∧ rm'.frames + 1 ≤ R.frames ∧ 8 + (nL' + 11) + rm'.locals ≤ R.locals) : CE l E R own idx n true sp := by
  intro p e s m args below meth c cells slots cc nL hx hb hml hown hts hB hcc hss vs σ K H locs ls pc rest hsp hlen hP hS hsz hcat hdg
  obtain ⟨b, As, ci, fds, q, rfl, hla, hq, hqc⟩ := hr vs σ K hsp
  obtain ⟨cell, k1, k2, k3⟩ := rcv_at hB hP hla hq
  rw [hqc] at k3
  have cw := va_cnB (R := R) (s := s) (args := args) (own := own) (host := host) (index := idx) (y := y) (bytes := cc') (maxL := nL') (ret := rt') (rm := rm') n hts (tT_code w5) rfl hR.1 hR.2.1 (hB.2.2.1 _ w1) (hts _ w4) hd hR.2.2
  have hpre : PreV s H y.cls (E.2.1 b) (va_Pc ((Value.ref b :: As).map (conc E.2.1)) (Wd E σ)) (As.map (conc E.2.1)) :=
    ⟨Wd.blind, ⟨cell, k1, k2, k3⟩, fun U hU hW => ⟨rfl, by rw [hU]; exact hP, hB.warm hW hU hS⟩⟩
  have hlen' : (As.map (conc E.2.1)).length = n := by rw [List.length_map]; simpa using hlen
  exact va_runVN (g := F0 m pc ls (((Value.ref b :: As).map (conc E.2.1)).reverse ++ rest)) ⟨hx, hb, hml, hown, hts⟩ (hC _ σ K hsp) ⟨cw, hts _ w2, hts _ w3⟩ hpre rfl hlen' hsz (by simp; rfl) (lv_room hcat) hdg ⟨hcc, hss⟩
theorem CE.inh {l : Launch} {E : En} {R : Room} {own owner C : String} {idx n : Nat} {sp : SP} {x y : MethodName} {cc' : ByteArray} {nL' : Nat} {rt' : Option FieldType} {rm' : Room} (hC : Ctr l E y cc' nL' rt' rm' sp) (hr : rcv C sp)
    (w1 : Cond.methodLink own idx x ∈ tT) (w1' : Cond.sameMethod x.cls owner x.name x.desc ∈ tT) (w2 : Cond.instanceMethod y ∈ tT) (w3 : Cond.selects C x y ∈ tT) (w4 : Cond.initialized y.cls ∈ tT) (w5 : Cond.code y cc' nL' rt' ∈ tT) (hyx : y = ⟨owner, x.name, x.desc⟩)
    (hd : owner ≠ "java/lang/invoke/MethodHandle" ∧ owner ≠ "java/lang/invoke/VarHandle" ∧ (parseMethodDescriptor x.desc).map (fun d => d.parameters.length) = some n)
    (hR : rm'.cells = 0 ∧ rm'.slots = 0 ∧ rm'.frames + 1 ≤ R.frames ∧ 8 + (nL' + 11) + rm'.locals ≤ R.locals) : CE l E R own idx n true sp := by
  intro p e s m args below meth c cells slots cc nL hx hb hml hown hts hB hcc hss vs σ K H locs ls pc rest hsp hlen hP hS hsz hcat hdg
  obtain ⟨b, As, ci, fds, q, rfl, hla, hq, hqc⟩ := hr vs σ K hsp
  obtain ⟨cell, k1, k2, k3⟩ := rcv_at hB hP hla hq
  rw [hqc] at k3
  have hG : GoodIn tT (va_wsU own idx C owner x y (Cond.code y cc' nL' rt' :: tT)) := by
    intro w hw
    unfold va_wsU at hw
    rcases List.mem_append.mp hw with h | h
    · simp only [List.mem_cons, List.mem_nil_iff, or_false] at h
      rcases h with rfl | rfl | rfl | rfl | rfl
      · exact tT_good _ w1
      · exact tT_good _ w1'
      · exact tT_good _ w3
      · exact tT_good _ w2
      · exact tT_good _ w4
    · exact tT_code w5 w h
  have cw : va_CU R s args own C owner idx x y cc' nL' rt' (Cond.code y cc' nL' rt' :: tT) rm' 0 0 n := va_cwU n hts hG rfl hR.1 hR.2.1 hyx hd hR.2.2
  have hpre : PreV s H C (E.2.1 b) (va_Pc ((Value.ref b :: As).map (conc E.2.1)) (Wd E σ)) (As.map (conc E.2.1)) :=
    ⟨Wd.blind, ⟨cell, k1, k2, k3⟩, fun U hU hW => ⟨rfl, by rw [hU]; exact hP, hB.warm hW hU hS⟩⟩
  have hlen' : (As.map (conc E.2.1)).length = n := by rw [List.length_map]; simpa using hlen
  exact va_runU (g := F0 m pc ls (((Value.ref b :: As).map (conc E.2.1)).reverse ++ rest)) ⟨hx, hb, hml, hown, hts⟩ (hC _ σ K hsp) cw hpre rfl hlen' hsz (by simp; rfl) (lv_room hcat) hdg ⟨hcc, hss⟩
theorem CE.stat {l : Launch} {E : En} {R : Room} {own : String} {idx n : Nat} {sp : SP} {y : MethodName} {cc' : ByteArray} {nL' : Nat} {rt' : Option FieldType} {rm' : Room} (hC : Ctr l E y cc' nL' rt' rm' sp)
    (w1 : Cond.methodLink own idx y ∈ tT) (w2 : Cond.static y ∈ tT) (w4 : Cond.initialized y.cls ∈ tT) (w5 : Cond.code y cc' nL' rt' ∈ tT)
    (hd : y.cls ≠ "java/lang/invoke/MethodHandle" ∧ y.cls ≠ "java/lang/invoke/VarHandle" ∧ (parseMethodDescriptor y.desc).map (fun d => d.parameters.length) = some n)
    (hR : rm'.cells = 0 ∧ rm'.slots = 0 ∧ rm'.frames + 1 ≤ R.frames ∧ 8 + (nL' + 11) + rm'.locals ≤ R.locals) : CE l E R own idx n false sp := by
  intro p e s m args below meth c cells slots cc nL hx hb hml hown hts hB hcc hss vs σ K H locs ls pc rest hsp hlen hP hS hsz hcat hdg
  have cw : CallB R s args own idx y cc' nL' rt' (Cond.code y cc' nL' rt' :: tT) rm' 0 0 n := callB_of n hts (tT_code w5) rfl hR.1 hR.2.1 (hts _ w4) (hts _ w1) hd hR.2.2
  have hpre : PreS s H (va_Pc (vs.map (conc E.2.1)) (Wd E σ)) (vs.map (conc E.2.1)) :=
    ⟨Wd.blind, fun U hU hW => ⟨rfl, by rw [hU]; exact hP, hB.warm hW hU hS⟩⟩
  have hlen' : (vs.map (conc E.2.1)).length = n := by rw [List.length_map]; exact hlen
  exact va_runS (g := F0 m pc ls ((vs.map (conc E.2.1)).reverse ++ rest)) ⟨hx, hb, hml, hown, hts⟩ (hC _ σ K hsp) ⟨cw, hts _ w2⟩ hpre rfl hlen' hsz rfl (lv_room hcat) hdg ⟨hcc, hss⟩
theorem CE.statN {l : Launch} {E : En} {R : Room} {own host : String} {idx n : Nat} {sp : SP} {y : MethodName} {cc' : ByteArray} {nL' : Nat} {rt' : Option FieldType} {rm' : Room} (hC : Ctr l E y cc' nL' rt' rm' sp)
    (w1 : Cond.methodLinkNest own idx y host ∈ nestW) (w2 : Cond.static y ∈ tT) (w4 : Cond.initialized y.cls ∈ tT) (w5 : Cond.code y cc' nL' rt' ∈ tT)
    (hd : y.cls ≠ "java/lang/invoke/MethodHandle" ∧ y.cls ≠ "java/lang/invoke/VarHandle" ∧ (parseMethodDescriptor y.desc).map (fun d => d.parameters.length) = some n)
    (hR : rm'.cells = 0 ∧ rm'.slots = 0 ∧ rm'.frames + 1 ≤ R.frames ∧ 8 + (nL' + 11) + rm'.locals ≤ R.locals) : CE l E R own idx n false sp := by
  intro p e s m args below meth c cells slots cc nL hx hb hml hown hts hB hcc hss vs σ K H locs ls pc rest hsp hlen hP hS hsz hcat hdg
  have cw := va_cnB (R := R) (s := s) (args := args) (own := own) (host := host) (index := idx) (y := y) (bytes := cc') (maxL := nL') (ret := rt') (rm := rm') n hts (tT_code w5) rfl hR.1 hR.2.1 (hB.2.2.1 _ w1) (hts _ w4) hd hR.2.2
  have hpre : PreS s H (va_Pc (vs.map (conc E.2.1)) (Wd E σ)) (vs.map (conc E.2.1)) :=
    ⟨Wd.blind, fun U hU hW => ⟨rfl, by rw [hU]; exact hP, hB.warm hW hU hS⟩⟩
  have hlen' : (vs.map (conc E.2.1)).length = n := by rw [List.length_map]; exact hlen
  exact va_runSN (g := F0 m pc ls ((vs.map (conc E.2.1)).reverse ++ rest)) ⟨hx, hb, hml, hown, hts⟩ (hC _ σ K hsp) ⟨cw, hts _ w2, trivial⟩ hpre rfl hlen' hsz rfl (lv_room hcat) hdg ⟨hcc, hss⟩
theorem all_nth {α : Type} {f : α → Bool} : ∀ {l : List α}, l.all f = true → ∀ k a, nth l k = some a → f a = true
  | [], _, _, _, h => by cases h
  | b :: l, hl, k, a, h => by
    simp only [List.all_cons, Bool.and_eq_true] at hl
    match k, h with
    | 0, h =>
      have : b = a := Option.some.inj h
      subst this
      exact hl.1
    | k + 1, h => exact all_nth hl.2 k a h
set_option maxHeartbeats 4000000 in
/-- a method's contract, out of its body -/
theorem Ctr.of {l : Launch} {E : En} {y : MethodName} {cc : ByteArray} {nL : Nat} {rt : Option FieldType} {rm : Room} {sp : SP} {pg : List Ent} {cs : Cs} {lcs : List (Nat × Int64)} {zr : Bool} {fl : List (Nat × Nat × Nat)} {gs : List (Nat × Nat)}
    (hBd : Body nL pg roM cs lcs zr sp) (hy : plainName y.cls = true) (h0 : pcA pg 0 = 0)
    (hsl : ∀ vs σ K, sp vs σ K → (lg_sl vs).length ≤ nL)
    (hchk : pg.all (chkE cc pg fl gs nL rt zr) = true)
    (hgs : ∀ i j, (i, j) ∈ gs → (j = 100 ∧ Cond.fieldLink y.cls i "TankField" "RULE_LOWEST" "[I" ∈ tT) ∨ (j = 101 ∧ Cond.fieldLink y.cls i "TankField" "RULE_HIGHEST" "[I" ∈ tT))
    (hfl : ∀ i ci j, (i, ci, j) ∈ fl → ∀ args s, (∀ w ∈ tT, w.before args s = true) → (∀ w ∈ nestW, va_Nw w s) → LK y.cls i ci j args s)
    (hlc : ∀ i v, fnd lcs i = some v → Cond.constantLong y.cls i v ∈ tT)
    (hcs : ∀ i n vb sp', fnd cs i = some (n, vb, sp') → CE l E rm y.cls i n vb sp') : Ctr l E y cc nL rt rm sp := by
  intro vs σ K hsp
  refine Met.ofW (cc := cc) (maxL := nL) (ret := rt) hy rfl ?_
  intro p e s m args below meth c s₁ B hml hv
  obtain ⟨rfl, hP, hBs⟩ := hv
  have hx := B.exec
  have hb := B.bytes
  have hr := B.returns
  have hts1 := atoms_spec (ws := Cond.code y cc nL rt :: tT) B.pre
  have hts : ∀ w ∈ tT, w.before (vs.map (conc E.2.1)).toArray s = true := fun w hw => hts1 w (List.mem_cons_of_mem _ hw)
  have hown : s.vm.findClass y.cls = some m.cls := findClass_of_methodNamed B.named
  have hlocks := B.notSynchronized
  have hl := lv_entry (vs.map (conc E.2.1)) (n := nL) (by rw [concL_sl]; exact hsl vs σ K hsp)
  rw [lg_entry_eq]
  generalize (lg_sl (vs.map (conc E.2.1)) ++ List.replicate (nL - (lg_sl (vs.map (conc E.2.1))).length) Slot.unset).toArray = ls at hl ⊢
  have hl := lv_fewer hl (concL_args E.2.1 vs nL 0)
  have hchk' := all_nth hchk
  have hq : ∀ (v : Option Value) (σ' : Mem) (H : Heap) (locs : List Loc), va_P E.1 classes (wl E σ') H → va_S (AW E) s.heap H locs → K v σ' → ∀ t : State, t.heap = H → s.WarmedH t.vm → QcK E K (vs.map (conc E.2.1)).toArray s (.returned (v.map (conc E.2.1))) t :=
    fun v σ' H locs hP' hS hk t ht hW => ⟨⟨v, σ', rfl, hk, by rw [ht]; exact hP', hBs.warm hW ht hS⟩, hS.F ht⟩
  have ok := hBd vs σ K hsp (OkN p l e (headSpec (Cond.code y cc nL rt :: tT) rm).room s m (vs.map (conc E.2.1)).toArray below meth c 0 0 (MQ below (QcK E K) (vs.map (conc E.2.1)).toArray s 0 0 (AW E)) E nL pg)
    (fun cut n k lv st σ h => wps_ok (rt := rt) (fl := fl) (gs := gs) hx hb hown hts hBs
      (fun a len f hf => by
        have hm := fnd_mem hf
        simp only [roM, List.mem_cons, List.mem_nil_iff, or_false, Prod.mk.injEq] at hm
        rcases hm with ⟨rfl, rfl, rfl⟩ | ⟨rfl, rfl, rfl⟩
        · exact hBs.2.2.2.1.2
        · exact hBs.2.2.2.2.2)
      (fun i j hij => by
        rcases hgs i j hij with ⟨rfl, hw⟩ | ⟨rfl, hw⟩
        · exact ⟨_, hBs.2.2.2.1.1, hts _ hw⟩
        · exact ⟨_, hBs.2.2.2.2.1, hts _ hw⟩)
      (fun i ci j hij => hfl i ci j hij _ _ hts hBs.2.2.1)
      (fun i v hv => hts _ (hlc i v hv))
      (fun i n vb sp' hi => hcs i n vb sp' hi p e s m _ below meth c 0 0 cc nL hx hb hml hown hts hBs (Nat.zero_le _) (Nat.zero_le _))
      (fun v σ' pc H locs ls hrt hd hP' hS hz hk => by
        refine W.zret (ty := bif zr then .boolean else .int) hx hb (by rw [hr]; exact hrt) ?_ (hq (some (.int v)) σ' H locs hP' hS hk) hS.2.2 hd
        cases zr with
        | false => rfl
        | true => rcases hz rfl with rfl | rfl <;> rfl)
      (fun v σ' pc H locs ls hrt hd hP' hS hk => W.lret hx hb (by rw [hr]; exact hrt) (hq (some (.long v)) σ' H locs hP' hS hk) hS.2.2 hd)
      (fun σ' pc H locs ls hrt hd hP' hS hk => W.vret hx hb (by rw [hr]; exact hrt) (hq none σ' H locs hP' hS hk) hS.2.2 hd)
      hchk' cut n k lv st σ h)
  have fin := ok s.heap [] ls hP va_S.rf hl
  rw [h0] at fin
  exact fin
