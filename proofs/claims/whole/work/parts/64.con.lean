/-! CONSTRUCTORS: worlds that grow -/
abbrev KK : Type := va_G × ClassId × ClassId × ClassId
def tysK (k : KK) : List (ClassId × FieldType) := [(k.2.1, .int), (k.2.2.1, .boolean), (k.2.2.2, .long)]
def z0 : Nat → Int32 := fun _ => 0
def zL : Nat → Int64 := fun _ => 0
def PcC (k : KK) (h0 sz : Nat) (w0 : va_W) : Array Value → State → Prop := va_Pc [.ref h0] (fun U => U.heap.size = sz ∧ va_P k.1 classes w0 U.heap ∧ va_K k.1 classes (tysK k) U ∧ (∀ w ∈ nestW, va_Nw w U) ∧ va_D (fun _ => True) w0)
def QcC (k : KK) (sz : Nat) (w0 : va_W) (cl : (Nat → Nat) → va_W) : Array Value → State → Outcome → State → Prop := va_Qv (fun _ : Nat → Nat => True) (fun u t => va_P k.1 classes (cl u) t.heap ∧ va_D (va_A w0 sz) (cl u)) (va_A w0 sz)
def Ci (l : Launch) (y : MethodName) (cc : ByteArray) (rm : Room) (mc ms ci : Nat) (init : List Value) (cl : KK → Nat → (Nat → Nat) → va_W) : Prop := ∀ (k : KK) (h0 sz : Nat), Met l y (Cond.code y cc 1 none :: tT) rm (PcC k h0 sz [(h0, .inr (ci, init))]) (QcC k sz [(h0, .inr (ci, init))] (cl k h0)) mc ms (va_A [(h0, .inr (ci, init))] sz)
theorem nd_of : ∀ {l : List Nat}, l.Nodup → va_nd l = true
  | [], _ => rfl
  | a :: l, h => by
    rw [List.nodup_cons] at h
    simp [va_nd, h.1, nd_of h.2]
theorem joinL {A0 : Nat → Prop} {D : va_G} {ws w1 : va_W} {x : Nat × va_E} {H H1 : Heap} (hP : va_P D classes (ws ++ [x]) H) (hD : va_D A0 (ws ++ [x])) (hk : ∀ q : Nat, q < H.size → ¬ va_A [x] H.size q → H1[q]? = H[q]?) (hF : ∀ q, va_A [x] H.size q → A0 q) (hP1 : va_P D classes w1 H1) (hD1 : va_D (va_A [x] H.size) w1) : va_P D classes (ws ++ w1) H1 ∧ va_D A0 (ws ++ w1) := by
  refine va_join hP hD [ws.length] (List.range ws.length) (by simp) ?_ (nd_of List.nodup_range) (fun i hi => ?_) hk hF hP1 hD1
  · refine List.ext_getElem (by simp) (fun i h1 h2 => ?_)
    have hi : i < ws.length := by simpa using h2
    rw [List.getElem_map, List.getElem_range, List.getElem_map, List.getElem?_append_left hi, List.getElem?_eq_getElem hi]
  · have := List.mem_range.mp hi
    simp
    omega
section CON
variable {p : Program} {l : Launch} {e : Env} {R : Room} {s : State} {m : MethodId} {args : Array Value} {below : List Frame} {meth : Method} {c : Code} {H : Heap} {locs : List Loc} {cells slots : Nat} {Q : State → Prop}
variable {cc : ByteArray} {pc : Nat} {ls : Array Slot} {rest : List Value} {A : Nat → Prop} {H0 : Heap} {k : KK} {ws : va_W}
theorem nwI (hexec : p.tables.exec = Jvm.exec) (hb : c.code = cc) (harr : (Cond.arrayClass .int).before args s = true) (hK : va_K k.1 classes (tysK k) s) (hP : va_P k.1 classes ws H) (hD : va_D A ws) (hS : va_S A H0 H locs) (hA : ∀ q, H0.size ≤ q → A q)
    {n : Int32} {N : Nat} (hn : ¬ n < 0) (hN : n.toNatClampNeg = N) (hbytes : N * componentBytes .int ≤ 536870912) (hcells : cells + 1 ≤ R.cells) (hslots : slots + N ≤ R.slots) (hdg : decode cc pc = .ok (.newarray .int, 2))
    (kk : ∀ (q : Nat) (H1 : Heap), va_P k.1 classes (ws ++ [(q, .inl (k.2.1, N, .inl z0))]) H1 → va_D A (ws ++ [(q, .inl (k.2.1, N, .inl z0))]) → va_S A H0 H1 locs → W p l e R s m args below meth c H1 locs (cells + 1) (slots + N) Q (F0 m (pc + 2) ls (.ref q :: rest))) : W p l e R s m args below meth c H locs cells slots Q (F0 m pc ls (.int n :: rest)) := by
  refine va_newa (atype := .int) (ty := .int) hexec hb harr rfl hK hP hD hS hA (a0 := (N, .inl z0)) (fun cA => rfl) hn hN hbytes hcells hslots hdg (fun q cA H1 hK1 hP1 hD1 hS1 => ?_)
  have e : cA = k.2.1 := by
    have h1 : s.vm.findClass ("[" ++ FieldType.int.toString) = some k.2.1 := (hK.2 0 (k.2.1, .int) rfl).2
    have h2 : s.vm.findClass ("[" ++ FieldType.int.toString) = some cA := (hK1.2 3 (cA, .int) rfl).2
    exact Option.some.inj (h2.symm.trans h1)
  rw [e] at hP1 hD1
  exact kk q H1 hP1 hD1 hS1
theorem nwB (hexec : p.tables.exec = Jvm.exec) (hb : c.code = cc) (harr : (Cond.arrayClass .boolean).before args s = true) (hK : va_K k.1 classes (tysK k) s) (hP : va_P k.1 classes ws H) (hD : va_D A ws) (hS : va_S A H0 H locs) (hA : ∀ q, H0.size ≤ q → A q)
    {n : Int32} {N : Nat} (hn : ¬ n < 0) (hN : n.toNatClampNeg = N) (hbytes : N * componentBytes .boolean ≤ 536870912) (hcells : cells + 1 ≤ R.cells) (hslots : slots + N ≤ R.slots) (hdg : decode cc pc = .ok (.newarray .boolean, 2))
    (kk : ∀ (q : Nat) (H1 : Heap), va_P k.1 classes (ws ++ [(q, .inl (k.2.2.1, N, .inl z0))]) H1 → va_D A (ws ++ [(q, .inl (k.2.2.1, N, .inl z0))]) → va_S A H0 H1 locs → W p l e R s m args below meth c H1 locs (cells + 1) (slots + N) Q (F0 m (pc + 2) ls (.ref q :: rest))) : W p l e R s m args below meth c H locs cells slots Q (F0 m pc ls (.int n :: rest)) := by
  refine va_newa (atype := .boolean) (ty := .boolean) hexec hb harr rfl hK hP hD hS hA (a0 := (N, .inl z0)) (fun cA => rfl) hn hN hbytes hcells hslots hdg (fun q cA H1 hK1 hP1 hD1 hS1 => ?_)
  have e : cA = k.2.2.1 := by
    have h1 : s.vm.findClass ("[" ++ FieldType.boolean.toString) = some k.2.2.1 := (hK.2 1 (k.2.2.1, .boolean) rfl).2
    have h2 : s.vm.findClass ("[" ++ FieldType.boolean.toString) = some cA := (hK1.2 3 (cA, .boolean) rfl).2
    exact Option.some.inj (h2.symm.trans h1)
  rw [e] at hP1 hD1
  exact kk q H1 hP1 hD1 hS1
theorem nwL (hexec : p.tables.exec = Jvm.exec) (hb : c.code = cc) (harr : (Cond.arrayClass .long).before args s = true) (hK : va_K k.1 classes (tysK k) s) (hP : va_P k.1 classes ws H) (hD : va_D A ws) (hS : va_S A H0 H locs) (hA : ∀ q, H0.size ≤ q → A q)
    {n : Int32} {N : Nat} (hn : ¬ n < 0) (hN : n.toNatClampNeg = N) (hbytes : N * componentBytes .long ≤ 536870912) (hcells : cells + 1 ≤ R.cells) (hslots : slots + N ≤ R.slots) (hdg : decode cc pc = .ok (.newarray .long, 2))
    (kk : ∀ (q : Nat) (H1 : Heap), va_P k.1 classes (ws ++ [(q, .inl (k.2.2.2, N, .inr (.inl zL)))]) H1 → va_D A (ws ++ [(q, .inl (k.2.2.2, N, .inr (.inl zL)))]) → va_S A H0 H1 locs → W p l e R s m args below meth c H1 locs (cells + 1) (slots + N) Q (F0 m (pc + 2) ls (.ref q :: rest))) : W p l e R s m args below meth c H locs cells slots Q (F0 m pc ls (.int n :: rest)) := by
  refine va_newa (atype := .long) (ty := .long) hexec hb harr rfl hK hP hD hS hA (a0 := (N, .inr (.inl zL))) (fun cA => rfl) hn hN hbytes hcells hslots hdg (fun q cA H1 hK1 hP1 hD1 hS1 => ?_)
  have e : cA = k.2.2.2 := by
    have h1 : s.vm.findClass ("[" ++ FieldType.long.toString) = some k.2.2.2 := (hK.2 2 (k.2.2.2, .long) rfl).2
    have h2 : s.vm.findClass ("[" ++ FieldType.long.toString) = some cA := (hK1.2 3 (cA, .long) rfl).2
    exact Option.some.inj (h2.symm.trans h1)
  rw [e] at hP1 hD1
  exact kk q H1 hP1 hD1 hS1
theorem PcC.blind {h0 sz : Nat} {w0 : va_W} : FrameBlind (PcC k h0 sz w0) := fun a U g mk h => ⟨h.1, h.2.1, h.2.2.1, va_K.moved (u := U) (U := U.calling g mk a) (Vm.Alike.refl U.vm) h.2.2.2.1, fun w hw => nest_same (s := U) (U := U.calling g mk a) rfl hw (h.2.2.2.2.1 w hw), h.2.2.2.2.2⟩
/-- a constructor's call: of a nest mate; of a public class -/
theorem initN {own host : String} {idx nL : Nat} {y : MethodName} {cc' : ByteArray} {rm : Room} {mc ms ci : Nat} {init : List Value} {cl : KK → Nat → (Nat → Nat) → va_W} (hC : Ci l y cc' rm mc ms ci init cl)
    (w1 : Cond.methodLinkNest own idx y host ∈ nestW) (w2 : Cond.instanceMethod y ∈ tT) (w4 : Cond.initialized y.cls ∈ tT) (w5 : Cond.code y cc' 1 none ∈ tT) (hy : y.name = "<init>")
    (hd : y.cls ≠ "java/lang/invoke/MethodHandle" ∧ y.cls ≠ "java/lang/invoke/VarHandle" ∧ (parseMethodDescriptor y.desc).map (fun d => d.parameters.length) = some 0)
    (hR : rm.cells = mc ∧ rm.slots = ms ∧ rm.frames + 1 ≤ R.frames ∧ 8 + (1 + 11) + rm.locals ≤ R.locals)
    (hx : p.tables.exec = Jvm.exec) (hb : c.code = cc) (hml : c.maxLocals = nL) (hown : s.vm.findClass own = some m.cls) (hts : ∀ w ∈ tT, w.before args s = true) (hN : ∀ w ∈ nestW, va_Nw w s)
    {q : Nat} (hK : va_K k.1 classes (tysK k) s) (hP : va_P k.1 classes (ws ++ [(q, .inr (ci, init))]) H) (hD : va_D A (ws ++ [(q, .inr (ci, init))])) (hS : va_S A s.heap H locs) (hA : ∀ q, s.heap.size ≤ q → A q) (hsz : ls.size = nL) (hcat : (rest.map fun v => v.category).sum ≤ 8) (hdg : decode cc pc = .ok (.invokespecial idx, 3)) (hf : cells + mc ≤ R.cells ∧ slots + ms ≤ R.slots)
    (kk : ∀ (u : Nat → Nat) (H1 : Heap) (locs1 : List Loc), va_P k.1 classes (ws ++ cl k q u) H1 → va_D A (ws ++ cl k q u) → va_S A s.heap H1 locs1 → W p l e R s m args below meth c H1 locs1 (cells + mc) (slots + ms) Q (F0 m (pc + 3) ls rest)) : W p l e R s m args below meth c H locs cells slots Q (F0 m pc ls (.ref q :: rest)) := by
  have hF : ∀ x, va_A [(q, .inr (ci, init))] H.size x → A x := va_free hD hS hA [ws.length] (by simp)
  have hPc : va_P k.1 classes [(q, .inr (ci, init))] H := hP.sub [ws.length] (by simp)
  have hDc : va_D A [(q, .inr (ci, init))] := hD.sub [ws.length] (by simp [va_nd]) (by simp)
  refine va_callv (va_runIN (As := []) (rest := rest) ⟨hx, hb, hml, hown, hts⟩ (hC k q H.size) ⟨va_cnB 0 hts (tT_code w5) rfl hR.1 hR.2.1 (hN _ w1) (hts _ w4) hd hR.2.2, hy, hts _ w2⟩ ⟨PcC.blind, fun U hU hW => ⟨rfl, by rw [hU], by rw [hU]; exact hPc, va_K.moved hW.alike hK, fun w hw => nest_warm hW hw (hN w hw), hDc.weaken (fun _ _ _ _ => trivial)⟩⟩ rfl rfl hsz rfl (lv_room hcat) hdg hf) hS (fun x _ h => hF x h) hF (fun u t H1 locs1 ht hvm _ hB hz1 hk1 hS1 => ?_)
  obtain ⟨hP1, hD1⟩ := hB
  rw [ht] at hP1
  obtain ⟨hP2, hD2⟩ := joinL hP hD hk1 hF hP1 hD1
  exact kk u H1 locs1 hP2 hD2 hS1
theorem initO {own : String} {idx nL : Nat} {y : MethodName} {cc' : ByteArray} {rm : Room} {mc ms ci : Nat} {init : List Value} {cl : KK → Nat → (Nat → Nat) → va_W} (hC : Ci l y cc' rm mc ms ci init cl)
    (w1 : Cond.methodLink own idx y ∈ tT) (w2 : Cond.instanceMethod y ∈ tT) (w4 : Cond.initialized y.cls ∈ tT) (w5 : Cond.code y cc' 1 none ∈ tT) (hy : y.name = "<init>")
    (hd : y.cls ≠ "java/lang/invoke/MethodHandle" ∧ y.cls ≠ "java/lang/invoke/VarHandle" ∧ (parseMethodDescriptor y.desc).map (fun d => d.parameters.length) = some 0)
    (hR : rm.cells = mc ∧ rm.slots = ms ∧ rm.frames + 1 ≤ R.frames ∧ 8 + (1 + 11) + rm.locals ≤ R.locals)
    (hx : p.tables.exec = Jvm.exec) (hb : c.code = cc) (hml : c.maxLocals = nL) (hown : s.vm.findClass own = some m.cls) (hts : ∀ w ∈ tT, w.before args s = true) (hN : ∀ w ∈ nestW, va_Nw w s)
    {q : Nat} (hK : va_K k.1 classes (tysK k) s) (hP : va_P k.1 classes (ws ++ [(q, .inr (ci, init))]) H) (hD : va_D A (ws ++ [(q, .inr (ci, init))])) (hS : va_S A s.heap H locs) (hA : ∀ q, s.heap.size ≤ q → A q) (hsz : ls.size = nL) (hcat : (rest.map fun v => v.category).sum ≤ 8) (hdg : decode cc pc = .ok (.invokespecial idx, 3)) (hf : cells + mc ≤ R.cells ∧ slots + ms ≤ R.slots)
    (kk : ∀ (u : Nat → Nat) (H1 : Heap) (locs1 : List Loc), va_P k.1 classes (ws ++ cl k q u) H1 → va_D A (ws ++ cl k q u) → va_S A s.heap H1 locs1 → W p l e R s m args below meth c H1 locs1 (cells + mc) (slots + ms) Q (F0 m (pc + 3) ls rest)) : W p l e R s m args below meth c H locs cells slots Q (F0 m pc ls (.ref q :: rest)) := by
  have hF : ∀ x, va_A [(q, .inr (ci, init))] H.size x → A x := va_free hD hS hA [ws.length] (by simp)
  have hPc : va_P k.1 classes [(q, .inr (ci, init))] H := hP.sub [ws.length] (by simp)
  have hDc : va_D A [(q, .inr (ci, init))] := hD.sub [ws.length] (by simp [va_nd]) (by simp)
  refine va_callv (va_runI (As := []) (rest := rest) ⟨hx, hb, hml, hown, hts⟩ (hC k q H.size) (cwI 0 hts (tT_code w5) rfl hR.1 hR.2.1 (hts _ w4) (hts _ w1) (hts _ w2) hy hd hR.2.2) ⟨PcC.blind, fun U hU hW => ⟨rfl, by rw [hU], by rw [hU]; exact hPc, va_K.moved hW.alike hK, fun w hw => nest_warm hW hw (hN w hw), hDc.weaken (fun _ _ _ _ => trivial)⟩⟩ rfl rfl hsz rfl (lv_room hcat) hdg hf) hS (fun x _ h => hF x h) hF (fun u t H1 locs1 ht hvm _ hB hz1 hk1 hS1 => ?_)
  obtain ⟨hP1, hD1⟩ := hB
  rw [ht] at hP1
  obtain ⟨hP2, hD2⟩ := joinL hP hD hk1 hF hP1 hD1
  exact kk u H1 locs1 hP2 hD2 hS1
end CON
/-! Arrays.fill, of one row alone -/
def fillF (f : Nat → Int32) (n : Nat) (v : Int32) : Nat → Int32 := fun j => if j < n then v else f j
theorem fillF_0 (f : Nat → Int32) (v : Int32) : fillF f 0 v = f := by
  funext j
  exact if_neg (Nat.not_lt_zero j)
theorem fillF_s (f : Nat → Int32) (n : Nat) (v : Int32) : upd (fillF f n v) n v = fillF f (n + 1) v := by
  funext j
  unfold upd fillF
  by_cases h : j = n
  · rw [if_pos h, if_pos (by omega)]
  · rw [if_neg h]
    by_cases h2 : j < n
    · rw [if_pos h2, if_pos (by omega)]
    · rw [if_neg h2, if_neg (by omega)]
def PcF (k : KK) (a sz n : Nat) (f : Nat → Int32) (v : Int32) : Array Value → State → Prop := va_Pc [.ref a, .int v] (fun U => U.heap.size = sz ∧ va_P k.1 classes [(a, .inl (k.2.1, n, .inl f))] U.heap ∧ va_K k.1 classes (tysK k) U ∧ va_D (fun _ => True) [(a, .inl (k.2.1, n, .inl f))])
def QcF (k : KK) (a sz n : Nat) (f : Nat → Int32) (v : Int32) : Array Value → State → Outcome → State → Prop := va_Qv (fun _ : Unit => True) (fun _ t => va_P k.1 classes [(a, .inl (k.2.1, n, .inl (fillF f n v)))] t.heap ∧ va_D (va_A [(a, .inl (k.2.1, n, .inl f))] sz) [(a, .inl (k.2.1, n, .inl (fillF f n v)))]) (va_A [(a, .inl (k.2.1, n, .inl f))] sz)
theorem dF_0 : decode cJ7_fill_53178 0 = .ok (.iconst 0, 1) := by decide +kernel
theorem dF_1 : decode cJ7_fill_53178 1 = .ok (.istore_n 2, 1) := by decide +kernel
theorem dF_2 : decode cJ7_fill_53178 2 = .ok (.aload_n 0, 1) := by decide +kernel
theorem dF_3 : decode cJ7_fill_53178 3 = .ok (.arraylength, 1) := by decide +kernel
theorem dF_4 : decode cJ7_fill_53178 4 = .ok (.istore_n 3, 1) := by decide +kernel
theorem dF_5 : decode cJ7_fill_53178 5 = .ok (.iload_n 2, 1) := by decide +kernel
theorem dF_6 : decode cJ7_fill_53178 6 = .ok (.iload_n 3, 1) := by decide +kernel
theorem dF_7 : decode cJ7_fill_53178 7 = .ok (.if_icmp .ge 13, 3) := by decide +kernel
theorem dF_10 : decode cJ7_fill_53178 10 = .ok (.aload_n 0, 1) := by decide +kernel
theorem dF_11 : decode cJ7_fill_53178 11 = .ok (.iload_n 2, 1) := by decide +kernel
theorem dF_12 : decode cJ7_fill_53178 12 = .ok (.iload_n 1, 1) := by decide +kernel
theorem dF_13 : decode cJ7_fill_53178 13 = .ok (.iastore, 1) := by decide +kernel
theorem dF_14 : decode cJ7_fill_53178 14 = .ok (.iinc 2 1, 3) := by decide +kernel
theorem dF_17 : decode cJ7_fill_53178 17 = .ok (.goto (-12), 3) := by decide +kernel
theorem dF_20 : decode cJ7_fill_53178 20 = .ok (.return_, 1) := by decide +kernel
set_option maxHeartbeats 4000000 in
theorem fillC (l : Launch) (k : KK) (a sz n : Nat) (hn : n < 1000) (f : Nat → Int32) (v : Int32) : Met l yJ7_fill_53178 (Cond.code yJ7_fill_53178 cJ7_fill_53178 4 none :: tT) ({ frames := 0, cells := 0, slots := 0, locals := 0 }) (PcF k a sz n f v) (QcF k a sz n f v) 0 0 (va_A [(a, .inl (k.2.1, n, .inl f))] sz) := by
  refine Met.ofW (cc := cJ7_fill_53178) (maxL := 4) (ret := none) (by decide) rfl ?_
  intro p e s m args below meth c s₁ B hml hv
  obtain ⟨rfl, hsz, hP, hK, hD0⟩ := hv
  have hx := B.exec
  have hb := B.bytes
  have hr := B.returns
  have hlocks := B.notSynchronized
  subst hsz
  have hD := hD0.self (sz := s.heap.size)
  have hA : ∀ q : Nat, s.heap.size ≤ q → va_A [(a, .inl (k.2.1, n, .inl f))] s.heap.size q := fun q h => Or.inr h
  have hS : va_S (va_A [(a, .inl (k.2.1, n, .inl f))] s.heap.size) s.heap s.heap [] := va_S.rf
  have hl := lv_entry ([.ref a, .int v]) (n := 4) (Nat.le_of_ble_eq_true rfl)
  rw [lg_entry_eq]
  generalize (lg_sl ([.ref a, .int v]) ++ List.replicate (4 - (lg_sl ([.ref a, .int v])).length) Slot.unset).toArray = ls at hl ⊢
  have hl : lv_has ls 4 [(0, .ref a), (1, .int v)] := hl
  have loop : ∀ d i, i + d = n → ∀ (H : Heap) (locs : List Loc) (ls : Array Slot), va_P k.1 classes [(a, .inl (k.2.1, n, .inl (fillF f i v)))] H → va_D (va_A [(a, .inl (k.2.1, n, .inl f))] s.heap.size) [(a, .inl (k.2.1, n, .inl (fillF f i v)))] → va_S (va_A [(a, .inl (k.2.1, n, .inl f))] s.heap.size) s.heap H locs → lv_has ls 4 [(0, .ref a), (1, .int v), (2, .int (nI i)), (3, .int (nI n))] → W p l e (headSpec (Cond.code yJ7_fill_53178 cJ7_fill_53178 4 none :: tT) { frames := 0, cells := 0, slots := 0, locals := 0 }).room s m [Value.ref a, Value.int v].toArray below meth c H locs 0 0 (MQ below (QcF k a s.heap.size n f v) [Value.ref a, Value.int v].toArray s 0 0 (va_A [(a, .inl (k.2.1, n, .inl f))] s.heap.size)) (F0 m 5 ls []) := by
    intro d
    induction d with
    | zero =>
      intro i hi H locs ls hP hD hS hl
      have e : i = n := by omega
      subst e
      refine lv_iload_n hx hb dF_5 rfl (lv_at hl 2 rfl) ?_
      refine lv_iload_n hx hb dF_6 rfl (lv_at hl 3 rfl) ?_
      refine lv_icmp_ge (tgt := 20) hx hb dF_7 (by decide) (fun _ => ?_) (fun z => absurd (Int32.le_refl _) z)
      exact W.vret hx hb hr (fun t ht hW => ⟨⟨(), rfl, trivial, by rw [ht]; exact hP, hD⟩, hS.F ht⟩) hS.2.2 dF_20
    | succ d ih =>
      intro i hi H locs ls hP hD hS hl
      refine lv_iload_n hx hb dF_5 rfl (lv_at hl 2 rfl) ?_
      refine lv_iload_n hx hb dF_6 rfl (lv_at hl 3 rfl) ?_
      refine lv_icmp_ge (tgt := 20) hx hb dF_7 (by decide) (fun z => absurd z (nI_ge (by omega) (by omega))) (fun _ => ?_)
      refine lv_aload_n hx hb dF_10 rfl (lv_at hl 0 rfl) ?_
      refine lv_iload_n hx hb dF_11 rfl (lv_at hl 2 rfl) ?_
      refine lv_iload_n hx hb dF_12 rfl (lv_at hl 1 rfl) ?_
      refine va_iast (D := k.1) hx hb hK hP hD hS 0 0 rfl rfl (i := nI i) (x := v) (inI (by omega) (by omega)) dF_13 (fun H locs hP hD hS => ?_)
      have er : (nI i).toNatClampNeg = i := nI_clamp (by omega)
      rw [er, fillF_s] at hP hD
      refine lv_iinc (k := 2) (x := nI i) (v := nI (i + 1)) (lv' := [(2, .int (nI (i + 1))), (0, .ref a), (1, .int v), (3, .int (nI n))]) hx hb dF_14 hl rfl (nI_1 i) (by decide) rfl (fun ls hl => ?_)
      refine lv_goto (tgt := 5) hx hb dF_17 (by decide) ?_
      exact ih (i + 1) (by omega) H locs ls hP hD hS (lv_sub hl [1, 2, 0, 3] rfl)
  refine lv_iconst (v := 0) hx hb dF_0 (by decide) ?_
  refine lv_istore_n (lv' := [(2, .int 0), (0, .ref a), (1, .int v)]) hx hb dF_1 rfl hl (by decide) rfl (fun ls hl => ?_)
  refine lv_aload_n hx hb dF_2 rfl (lv_at hl 1 rfl) ?_
  refine va_alen (D := k.1) hx hb hK hP 0 0 rfl rfl (v := nI n) rfl dF_3 ?_
  refine lv_istore_n (lv' := [(3, .int (nI n)), (2, .int 0), (0, .ref a), (1, .int v)]) hx hb dF_4 rfl hl (by decide) rfl (fun ls hl => ?_)
  refine loop n 0 (Nat.zero_add _) s.heap [] ls ?_ ?_ hS (lv_sub hl [2, 3, 1, 0] rfl)
  · rw [fillF_0]; exact hP
  · rw [fillF_0]; exact hD
theorem PcF.blind {k : KK} {a sz n : Nat} {f : Nat → Int32} {v : Int32} : FrameBlind (PcF k a sz n f v) := fun b U g mk h => ⟨h.1, h.2.1, h.2.2.1, va_K.moved (u := U) (U := U.calling g mk b) (Vm.Alike.refl U.vm) h.2.2.2.1, h.2.2.2.2⟩
section CONF
variable {p : Program} {l : Launch} {e : Env} {R : Room} {s : State} {m : MethodId} {args : Array Value} {below : List Frame} {meth : Method} {c : Code} {H : Heap} {locs : List Loc} {cells slots : Nat} {Q : State → Prop}
variable {cc : ByteArray} {pc : Nat} {ls : Array Slot} {rest : List Value} {A : Nat → Prop} {k : KK} {ws : va_W}
theorem fillCall {own : String} {idx nL : Nat} (w1 : Cond.methodLink own idx yJ7_fill_53178 ∈ tT)
    (hR : 1 ≤ R.frames ∧ 23 ≤ R.locals)
    (hx : p.tables.exec = Jvm.exec) (hb : c.code = cc) (hml : c.maxLocals = nL) (hown : s.vm.findClass own = some m.cls) (hts : ∀ w ∈ tT, w.before args s = true)
    {a n : Nat} {f : Nat → Int32} {v : Int32} (hn : n < 1000) (hK : va_K k.1 classes (tysK k) s) (hP : va_P k.1 classes (ws ++ [(a, .inl (k.2.1, n, .inl f))]) H) (hD : va_D A (ws ++ [(a, .inl (k.2.1, n, .inl f))])) (hS : va_S A s.heap H locs) (hA : ∀ q, s.heap.size ≤ q → A q) (hsz : ls.size = nL) (hcat : (rest.map fun v => v.category).sum ≤ 8) (hdg : decode cc pc = .ok (.invokestatic idx, 3)) (hf : cells + 0 ≤ R.cells ∧ slots + 0 ≤ R.slots)
    (kk : ∀ (H1 : Heap) (locs1 : List Loc), va_P k.1 classes (ws ++ [(a, .inl (k.2.1, n, .inl (fillF f n v)))]) H1 → va_D A (ws ++ [(a, .inl (k.2.1, n, .inl (fillF f n v)))]) → va_S A s.heap H1 locs1 → W p l e R s m args below meth c H1 locs1 (cells + 0) (slots + 0) Q (F0 m (pc + 3) ls rest)) : W p l e R s m args below meth c H locs cells slots Q (F0 m pc ls (.int v :: .ref a :: rest)) := by
  have hF : ∀ x, va_A [(a, .inl (k.2.1, n, .inl f))] H.size x → A x := va_free hD hS hA [ws.length] (by simp)
  have hPc : va_P k.1 classes [(a, .inl (k.2.1, n, .inl f))] H := hP.sub [ws.length] (by simp)
  have hDc : va_D A [(a, .inl (k.2.1, n, .inl f))] := hD.sub [ws.length] (by simp [va_nd]) (by simp)
  refine va_callv (va_runS (As := [.ref a, .int v]) (rest := rest) ⟨hx, hb, hml, hown, hts⟩ (fillC l k a H.size n hn f v) ⟨callB_of 2 hts (tT_code wcJ7_fill_53178) rfl rfl rfl (hts _ wiJ7_fill_53178) (hts _ w1) (by decide +kernel) ⟨hR.1, hR.2⟩, hts _ wqJ7_fill_53178⟩ ⟨PcF.blind, fun U hU hW => ⟨rfl, by rw [hU], by rw [hU]; exact hPc, va_K.moved hW.alike hK, hDc.weaken (fun _ _ _ _ => trivial)⟩⟩ rfl rfl hsz rfl (lv_room hcat) hdg hf) hS (fun x _ h => hF x h) hF (fun u t H1 locs1 ht hvm _ hB hz1 hk1 hS1 => ?_)
  obtain ⟨hP1, hD1⟩ := hB
  rw [ht] at hP1
  obtain ⟨hP2, hD2⟩ := joinL hP hD hk1 hF hP1 hD1
  exact kk H1 locs1 hP2 hD2 hS1
end CONF
