/-! THE CLAIM OUT OF ONE WALK OF THE LAW'S BODY. Your part is whole_start (and what it stands on); all else here is the same for every law, but numbers. -/
def R_law : String := "TankFieldLaw"
def lw_P (b : Addr) (xs : List Int32) (args : Array Value) (s : State) : Prop := args = #[.ref b] ∧ s.IntsAt b xs ∧ xs.length ≤ 2560 ∧ (Jvm.Cond.and given_1 narrow_1).before args s = true
def lw_Q (_ : Array Value) (s : State) (o : Outcome) (t : State) : Prop := o = .returned (some (.int 1)) ∧ Framed s o t [] 72 9038
def lw_Z (below : List Frame) (a : Array Value) (s : State) : State → Prop := fun t => ∃ o, t.status = .running ∧ Ended t below o ∧ lw_Q a s o t
/-- the law's own end, with 1 on the stack, nothing written that was there before, its room as the claim has it -/
theorem lw_ret {p : Program} {l : Launch} {e : Env} {s : State} {m : MethodId} {below : List Frame} {meth : Method} {c : Code} {b : Nat} (hx : p.tables.exec = Jvm.exec) (hb : c.code = code) (hr : meth.sig.returnType = ret) (hlocks : meth.locks = false) {pc : Nat} {H : Heap} {ls : Array Slot} (hdg : decode code pc = .ok (.ireturn, 1)) : W p l e room_1 s m #[Value.ref b] below meth c H [] 72 9038 (lw_Z below #[Value.ref b] s) (F0 m pc ls [.int 1]) := by
  intro T hT X
  obtain ⟨fs, hret, hrun, hended, hW, hframe⟩ := X.leave (v := some (.int 1)) (hlocks := hlocks) (fun h => by rw [hr] at h; cases h)
  have hmeth' : T.vm.method? m = some meth := X.method'
  refine ⟨T.setFrames fs, ?_, .returned (some (.int 1)), hrun, hended, rfl, ⟨_, rfl⟩, hW, hframe⟩
  jvm_step X.here [X.here.top, hx, hb, hdg, hmeth', hr, ret, narrow_b1]
  (try refine ⟨rfl, ?_⟩); (try refine ⟨rfl, ?_⟩)
  first | (intro acts; rw [hret _ acts rfl rfl rfl]) | rw [hret _ _ rfl rfl rfl]
  exact Steps.refl _
/-- what holds at the law's entry: the machine, the code, the tables' words (any of lw_tbl by 'hts w (by decide +kernel)'), the script of L ints xs at the cell b, what the Statement gives of the start (any of its parts by flat_of_before) -/
def lw_At (p : Program) (s : State) (m : MethodId) (meth : Method) (c : Code) (b L : Nat) (xs : Nat → Int32) : Prop :=
  p.tables.exec = Jvm.exec ∧ c.code = code ∧ meth.sig.returnType = ret ∧ c.maxLocals = 4 ∧ s.vm.findClass R_law = some m.cls ∧ (∀ w ∈ lw_tbl, w.before #[Value.ref b] s = true) ∧ va_X b L xs s s.heap ∧ b < s.heap.size ∧ meth.locks = false ∧ (Jvm.Cond.and given_1 narrow_1).before #[Value.ref b] s = true
def m0 : Nat → Nat → Int32 := fun k => bif Nat.beq k 18 then (upd (upd (upd (upd z0 (0 : Int32).toNatClampNeg (-1)) (1 : Int32).toNatClampNeg (-1)) (2 : Int32).toNatClampNeg (-1)) (3 : Int32).toNatClampNeg (-1)) else bif Nat.beq k 29 then (upd (upd (upd (upd z0 (0 : Int32).toNatClampNeg 100) (1 : Int32).toNatClampNeg 60) (2 : Int32).toNatClampNeg 3) (3 : Int32).toNatClampNeg 10) else bif Nat.beq k 35 then fillF z0 240 (-9) else bif Nat.beq k 41 then fillF z0 240 (-9) else bif Nat.beq k 55 then (upd (upd (upd (upd z0 (0 : Int32).toNatClampNeg (-9)) (1 : Int32).toNatClampNeg (-9)) (2 : Int32).toNatClampNeg (-9)) (3 : Int32).toNatClampNeg (-9)) else bif Nat.beq k 58 then (upd (upd (upd (upd z0 (0 : Int32).toNatClampNeg 100) (1 : Int32).toNatClampNeg 60) (2 : Int32).toNatClampNeg 3) (3 : Int32).toNatClampNeg 10) else z0
def sg0 : Mem := (m0, fun _ => zL, 30, 36)
def adr (q0 : Nat) (u9 : Nat → Nat) (q42 : Nat) (u10 : Nat → Nat) (a b c : Nat) (k : Nat) : Nat := bif Nat.beq k 0 then q0 else bif Nat.ble k 41 then u9 k else bif Nat.beq k 42 then q42 else bif Nat.ble k 71 then u10 (k - 42) else bif Nat.beq k 100 then a else bif Nat.beq k 101 then b else c
def enO (k : KK) (q0 : Nat) (u9 : Nat → Nat) (q42 : Nat) (u10 : Nat → Nat) (a b c : Nat) : En := (k.1, adr q0 u9 q42 u10 a b c, k.2.1, k.2.2.1, k.2.2.2)
set_option maxRecDepth 100000 in
set_option maxHeartbeats 8000000 in
theorem wl0 (k : KK) (q0 : Nat) (u9 : Nat → Nat) (q42 : Nat) (u10 : Nat → Nat) (a b c : Nat) : wl (enO k q0 u9 q42 u10 a b c) sg0 = clX9 k q0 u9 ++ clX10 k q42 u10 := rfl
theorem ev0 (b : Nat) (hb : b = 30 ∨ b = 36) : EvC sg0 b 0 (fun _ => 0) (fun _ => 0) 0 := by
  refine ⟨Nat.zero_le _, ?_, rfl, fun e he => absurd he (Nat.not_lt_zero e), Nat.zero_le _, fun e he => ?_, fun p hp => absurd hp (Nat.not_lt_zero p), fun p q hp => absurd hp (Nat.not_lt_zero p), fun e p he => absurd he (Nat.not_lt_zero e), fun h hh _ => ?_⟩
  · rcases hb with rfl | rfl <;> rfl
  · rcases hb with rfl | rfl <;> rfl
  · rcases hb with rfl | rfl
    · exact if_pos hh
    · exact if_pos hh
theorem inv0 : Inv sg0 := by
  refine ⟨0, 0, 0, 0, ⟨⟨by omega, rfl, rfl, fun i hi => absurd hi (Nat.not_lt_zero i)⟩, ⟨by omega, rfl, rfl, fun i hi => absurd hi (Nat.not_lt_zero i)⟩, ⟨by omega, rfl, rfl, fun i hi => absurd hi (Nat.not_lt_zero i)⟩, ⟨by omega, rfl, rfl, fun i hi => absurd hi (Nat.not_lt_zero i)⟩⟩, ⟨⟨fun k hk => ?_, fun k hk => ⟨rfl, 0, by omega, rfl⟩, fun i hi => rfl⟩, fun k hk => ?_, rfl, rfl, rfl⟩, 30, 36, 0, 0, fun _ => 0, fun _ => 0, fun _ => 0, fun _ => 0, Or.inl ⟨rfl, rfl⟩, rfl, rfl, ev0 30 (Or.inl rfl), ⟨rfl, rfl, fun e he => rfl, fun p hp => absurd hp (Nat.not_lt_zero p), fun e he => absurd he (Nat.not_lt_zero e)⟩, ev0 36 (Or.inr rfl), ⟨rfl, fun e he => rfl, fun p hp => absurd hp (Nat.not_lt_zero p)⟩⟩
  · match k, hk with
    | 0, _ => exact Or.inl (by decide)
    | 1, _ => exact Or.inl (by decide)
    | 2, _ => exact Or.inl (by decide)
    | 3, _ => exact Or.inl (by decide)
    | k + 4, h => exact absurd h (by omega)
  · match k, hk with
    | 0, _ => decide
    | 1, _ => decide
    | 2, _ => decide
    | 3, _ => decide
    | k + 4, h => exact absurd h (by omega)
theorem nest_on {w : Cond} (h : isNest w = true) : w.onTables = true := by
  cases w with
  | fieldLinkNest => rfl
  | methodLinkNest => rfl
  | _ => cases h
theorem arrK {args : Array Value} {s : State} {ty : FieldType} (h : (Cond.arrayClass ty).before args s = true) : ∃ cA : ClassId, s.vm.findClass ("[" ++ ty.toString) = some cA ∧ ArrOfT s cA ty := by
  obtain ⟨cA, kA, comp, h1, h2, h3⟩ := Cond.arrayClass_spec h
  exact ⟨cA, h1, fun n z => ⟨fun k h => (by cases h), kA, h2, comp, h3⟩⟩

theorem dL_0 : decode code 0 = .ok (.new 7, 3) := by decide +kernel
theorem dL_3 : decode code 3 = .ok (.dup, 1) := by decide +kernel
theorem dL_4 : decode code 4 = .ok (.invokespecial 9, 3) := by decide +kernel
theorem dL_7 : decode code 7 = .ok (.astore_n 1, 1) := by decide +kernel
theorem dL_8 : decode code 8 = .ok (.new 10, 3) := by decide +kernel
theorem dL_11 : decode code 11 = .ok (.dup, 1) := by decide +kernel
theorem dL_12 : decode code 12 = .ok (.invokespecial 12, 3) := by decide +kernel
theorem dL_15 : decode code 15 = .ok (.astore_n 2, 1) := by decide +kernel
theorem dL_16 : decode code 16 = .ok (.iconst 0, 1) := by decide +kernel
theorem dL_17 : decode code 17 = .ok (.istore_n 3, 1) := by decide +kernel
set_option maxRecDepth 100000 in
set_option maxHeartbeats 8000000 in
theorem whole_start {p : Program} {e : Env} {s : State} {m : MethodId} {below : List Frame} {meth : Method} {c : Code} (l : Launch) {b L : Nat} {xs : Nat → Int32} (hL : L ≤ 2560) (C0 : lw_At p s m meth c b L xs) : W p l e room_1 s m #[Value.ref b] below meth c s.heap [] 0 0 (lw_Z below #[Value.ref b] s) (entryFrame m ([Value.ref b] : List Value).toArray 4) := by
  obtain ⟨hx, hb, hr, hml, hown, hts, hX, hbl, hlocks, hgv⟩ := id C0
  have htT : ∀ w ∈ tT, w.before #[Value.ref b] s = true := fun w hw => hts w (List.mem_filter.mp hw).1
  have hN : ∀ w ∈ nestW, va_Nw w s := fun w hw => va_Nw.of (nest_on (List.mem_filter.mp hw).2) (hts w (List.mem_filter.mp hw).1)
  have hs := flat_of_before _ hgv
  have hA : ∀ q : Nat, s.heap.size ≤ q → (fun q : Nat => s.heap.size ≤ q) q := fun _ h => h
  obtain ⟨c0, iS0, hKn0⟩ := u_known (C := RX0) (T := TX0) (N := 6) (n := 6) htT ihX0 (htT (.instantiable RX0 6) (inT 309 (by decide +kernel) rfl))
  obtain ⟨c1, iS1, hKn1⟩ := u_known (C := RX1) (T := TX1) (N := 4) (n := 4) htT ihX1 (htT (.instantiable RX1 4) (inT 153 (by decide +kernel) rfl))
  obtain ⟨c2, iS2, hKn2⟩ := u_known (C := RX2) (T := TX2) (N := 4) (n := 4) htT ihX2 (htT (.instantiable RX2 4) (inT 193 (by decide +kernel) rfl))
  obtain ⟨c3, iS3, hKn3⟩ := u_known (C := RX3) (T := TX3) (N := 14) (n := 14) htT ihX3 (htT (.instantiable RX3 14) (inT 256 (by decide +kernel) rfl))
  obtain ⟨c4, iS4, hKn4⟩ := u_known (C := RX4) (T := TX4) (N := 8) (n := 8) htT ihX4 (htT (.instantiable RX4 8) (inT 222 (by decide +kernel) rfl))
  obtain ⟨c5, iS5, hKn5⟩ := u_known (C := RX5) (T := TX5) (N := 5) (n := 5) htT ihX5 (htT (.instantiable RX5 5) (inT 126 (by decide +kernel) rfl))
  obtain ⟨c6, iS6, hKn6⟩ := u_known (C := RX7) (T := TX7) (N := 3) (n := 3) htT ihX7 (htT (.instantiable RX7 3) (inT 204 (by decide +kernel) rfl))
  obtain ⟨c7, iS7, hKn7⟩ := u_known (C := RX8) (T := TX8) (N := 3) (n := 3) htT ihX8 (htT (.instantiable RX8 3) (inT 106 (by decide +kernel) rfl))
  obtain ⟨c8, iS8, hKn8⟩ := u_known (C := RX9) (T := TX9) (N := 13) (n := 13) htT ihX9 (htT (.instantiable RX9 13) (inT 98 (by decide +kernel) rfl))
  obtain ⟨c9, iS9, hKn9⟩ := u_known (C := RX10) (T := TX10) (N := 40) (n := 40) htT ihX10 (htT (.instantiable RX10 40) (inT 788 (by decide +kernel) rfl))
  obtain ⟨dC, dI, hKc⟩ : ∃ (dC : Nat → ClassId) (dI : Nat → Nat → Nat), ∀ (k : Nat) (q : vw_C), classes[k]? = some q → u_Kn s q.1 q.2.1 q.2.2 (dC k) (dI k) := by
    refine ⟨fun k => match nth [c0, c1, c2, c3, c4, c5, c6, c7, c8, c9] k with | some c => c | none => c0, fun k => match nth [iS0, iS1, iS2, iS3, iS4, iS5, iS6, iS7, iS8, iS9] k with | some c => c | none => iS0, ?_⟩
    intro k q hq
    match k, hq with
    | 0, hq => cases hq; exact hKn0
    | 1, hq => cases hq; exact hKn1
    | 2, hq => cases hq; exact hKn2
    | 3, hq => cases hq; exact hKn3
    | 4, hq => cases hq; exact hKn4
    | 5, hq => cases hq; exact hKn5
    | 6, hq => cases hq; exact hKn6
    | 7, hq => cases hq; exact hKn7
    | 8, hq => cases hq; exact hKn8
    | 9, hq => cases hq; exact hKn9
    | k + 10, hq => simp [classes] at hq
  obtain ⟨kI, hI1, hI2⟩ := arrK (htT (.arrayClass .int) (inT 124 (by decide +kernel) rfl))
  obtain ⟨kB, hB1, hB2⟩ := arrK (htT (.arrayClass .boolean) (inT 254 (by decide +kernel) rfl))
  obtain ⟨kL, hL1, hL2⟩ := arrK (htT (.arrayClass .long) (inT 914 (by decide +kernel) rfl))
  obtain ⟨k, ek⟩ : ∃ k : KK, k = ((dC, dI), kI, kB, kL) := ⟨_, rfl⟩
  have hK : va_K k.1 classes (tysK k) s := by
    rw [ek]
    refine ⟨hKc, fun j q hq => ?_⟩
    match j, hq with
    | 0, hq => cases hq; exact ⟨hI2, hI1⟩
    | 1, hq => cases hq; exact ⟨hB2, hB1⟩
    | 2, hq => cases hq; exact ⟨hL2, hL1⟩
    | j + 3, hq => simp [tysK] at hq
  clear ek
  obtain ⟨aLo, eLo, tLo⟩ := va_Tof (args := #[Value.ref b]) (s := s) (tm := (.static "TankField" "RULE_LOWEST" "[I")) (ty := .int) (N := 4) (f := fun j => .int (rlo j)) (A := fun q => s.heap.size ≤ q) (by decide) (hs (.arrayOf (.static "TankField" "RULE_LOWEST" "[I") .int) (by decide +kernel)) (va_eqt (hs (.eq (.length (.static "TankField" "RULE_LOWEST" "[I")) (.int 4)) (by decide +kernel))) (fun j hj => by
    match j, hj with
    | 0, _ => exact va_eqt (hs (.eq (.elem (.static "TankField" "RULE_LOWEST" "[I") (.int 0)) (.int 1)) (by decide +kernel))
    | 1, _ => exact va_eqt (hs (.eq (.elem (.static "TankField" "RULE_LOWEST" "[I") (.int 1)) (.int 1)) (by decide +kernel))
    | 2, _ => exact va_eqt (hs (.eq (.elem (.static "TankField" "RULE_LOWEST" "[I") (.int 2)) (.int 1)) (by decide +kernel))
    | 3, _ => exact va_eqt (hs (.eq (.elem (.static "TankField" "RULE_LOWEST" "[I") (.int 3)) (.int 0)) (by decide +kernel))
    | j + 4, h => exact absurd h (by omega)) (fun a h z => absurd z (Nat.not_le.mpr h))
  have zLo := va_Zref (args := #[Value.ref b]) (A := fun q => s.heap.size ≤ q) (hts (.laysStatic "TankField" "RULE_LOWEST" "[I") (List.mem_of_getElem? (i := 538) (by decide +kernel))) (htT (.initialized "TankField") (inT 84 (by decide +kernel) rfl)) eLo (fun a h z => absurd z (Nat.not_le.mpr h))
  obtain ⟨aHi, eHi, tHi⟩ := va_Tof (args := #[Value.ref b]) (s := s) (tm := (.static "TankField" "RULE_HIGHEST" "[I")) (ty := .int) (N := 4) (f := fun j => .int (rhi j)) (A := fun q => s.heap.size ≤ q) (by decide) (hs (.arrayOf (.static "TankField" "RULE_HIGHEST" "[I") .int) (by decide +kernel)) (va_eqt (hs (.eq (.length (.static "TankField" "RULE_HIGHEST" "[I")) (.int 4)) (by decide +kernel))) (fun j hj => by
    match j, hj with
    | 0, _ => exact va_eqt (hs (.eq (.elem (.static "TankField" "RULE_HIGHEST" "[I") (.int 0)) (.int 300)) (by decide +kernel))
    | 1, _ => exact va_eqt (hs (.eq (.elem (.static "TankField" "RULE_HIGHEST" "[I") (.int 1)) (.int 300)) (by decide +kernel))
    | 2, _ => exact va_eqt (hs (.eq (.elem (.static "TankField" "RULE_HIGHEST" "[I") (.int 2)) (.int 12)) (by decide +kernel))
    | 3, _ => exact va_eqt (hs (.eq (.elem (.static "TankField" "RULE_HIGHEST" "[I") (.int 3)) (.int 4080)) (by decide +kernel))
    | j + 4, h => exact absurd h (by omega)) (fun a h z => absurd z (Nat.not_le.mpr h))
  have zHi := va_Zref (args := #[Value.ref b]) (A := fun q => s.heap.size ≤ q) (hts (.laysStatic "TankField" "RULE_HIGHEST" "[I") (List.mem_of_getElem? (i := 540) (by decide +kernel))) (htT (.initialized "TankField") (inT 84 (by decide +kernel) rfl)) eHi (fun a h z => absurd z (Nat.not_le.mpr h))
  have hS : va_S (fun q : Nat => s.heap.size ≤ q) s.heap s.heap [] := va_S.rf
  have hP : va_P k.1 classes [] s.heap := fun k q h => by simp at h
  have hD : va_D (fun q : Nat => s.heap.size ≤ q) [] := ⟨fun i j p q h => by simp at h, fun k q h => by simp at h⟩
  have hl := lv_entry ([.ref b]) (n := 4) (Nat.le_of_ble_eq_true rfl)
  rw [lg_entry_eq]
  generalize (lg_sl ([.ref b]) ++ List.replicate (4 - (lg_sl ([.ref b])).length) Slot.unset).toArray = ls at hl ⊢
  have hl : lv_has ls 4 [(0, .ref b)] := hl
  refine va_new (D := k.1) (ci := 8) (fs := [.null, .null, .null, .null, .null, .null, .null, .null, .null, .null, .int 0, .int 0, .int 0]) (C := RX9) (T := TX9) (N := 13) hx hb htT ihX9 tyX9 tyX9_ok hown (htT (.classLink R_law 7 RX9) (inT 97 (by decide +kernel) rfl)) (htT (.instantiable RX9 13) (inT 98 (by decide +kernel) rfl)) (htT (.initialized RX9) (inT 84 (by decide +kernel) rfl)) hK hP hD hS hA rfl dfX9 (Nat.le_of_ble_eq_true rfl) (Nat.le_of_ble_eq_true rfl) dL_0 (fun q0 H hP hD hS => ?_)
  refine lv_dup hx hb dL_3 rfl ?_
  refine initO (ws := []) (rest := [.ref q0]) (own := R_law) (inX9 l) (inT 99 (by decide +kernel) rfl) (inT 100 (by decide +kernel) rfl) (inT 84 (by decide +kernel) rfl) (inT 101 (by decide +kernel) rfl) rfl (by decide +kernel) ⟨rfl, rfl, Nat.le_of_ble_eq_true rfl, Nat.le_of_ble_eq_true rfl⟩ hx hb hml hown htT hN hK hP hD hS hA hl.1 (Nat.le_of_ble_eq_true rfl) dL_4 ⟨Nat.le_of_ble_eq_true rfl, Nat.le_of_ble_eq_true rfl⟩ (fun u9 H locs hP hD hS => ?_)
  have hP : va_P k.1 classes (clX9 k q0 u9) H := hP
  have hD : va_D (fun q : Nat => s.heap.size ≤ q) (clX9 k q0 u9) := hD
  refine lv_astore_n (lv' := [(1, .ref q0), (0, .ref b)]) hx hb dL_7 rfl hl (by decide) rfl (fun ls hl => ?_)
  refine va_new (D := k.1) (ci := 9) (fs := [.int 0, .int 0, .int 0, .null, .null, .int 0, .null, .null, .null, .null, .int 0, .null, .null, .null, .int 0, .null, .null, .null, .null, .null, .null, .null, .int 0, .null, .null, .null, .int 0, .null, .null, .null, .int 0, .int 0, .null, .null, .null, .null, .int 0, .null, .null, .null]) (C := RX10) (T := TX10) (N := 40) hx hb htT ihX10 tyX10 tyX10_ok hown (htT (.classLink R_law 10 RX10) (inT 787 (by decide +kernel) rfl)) (htT (.instantiable RX10 40) (inT 788 (by decide +kernel) rfl)) (htT (.initialized RX10) (inT 95 (by decide +kernel) rfl)) hK hP hD hS hA rfl dfX10 (Nat.le_of_ble_eq_true rfl) (Nat.le_of_ble_eq_true rfl) dL_8 (fun q42 H hP hD hS => ?_)
  refine lv_dup hx hb dL_11 rfl ?_
  refine initO (ws := clX9 k q0 u9) (rest := [.ref q42]) (own := R_law) (inX10 l) (inT 789 (by decide +kernel) rfl) (inT 790 (by decide +kernel) rfl) (inT 95 (by decide +kernel) rfl) (inT 791 (by decide +kernel) rfl) rfl (by decide +kernel) ⟨rfl, rfl, Nat.le_of_ble_eq_true rfl, Nat.le_of_ble_eq_true rfl⟩ hx hb hml hown htT hN hK hP hD hS hA hl.1 (Nat.le_of_ble_eq_true rfl) dL_12 ⟨Nat.le_of_ble_eq_true rfl, Nat.le_of_ble_eq_true rfl⟩ (fun u10 H locs hP hD hS => ?_)
  refine lv_astore_n (lv' := [(2, .ref q42), (1, .ref q0), (0, .ref b)]) hx hb dL_15 rfl hl (by decide) rfl (fun ls hl => ?_)
  refine lv_iconst (v := 0) hx hb dL_16 (by decide) ?_
  refine lv_istore_n (lv' := [(3, .int 0), (2, .ref q42), (1, .ref q0), (0, .ref b)]) hx hb dL_17 rfl hl (by decide) rfl (fun ls hl => ?_)
  refine W.widen (k := 72) (n := 9038) (Nat.le_of_ble_eq_true rfl) (Nat.le_of_ble_eq_true rfl) ?_
  refine va_forget hS.2.2 ?_
  obtain ⟨E, eE⟩ : ∃ E : En, E = enO k q0 u9 q42 u10 aLo aHi b := ⟨_, rfl⟩
  have hP : va_P E.1 classes (wl E sg0) H := by rw [eE, wl0]; exact hP
  have hD : va_D (fun q : Nat => s.heap.size ≤ q) (wl E sg0) := by rw [eE, wl0]; exact hD
  have hAW : ∀ q, AW E q → s.heap.size ≤ q := by
    rintro q ⟨j, hj, rfl⟩
    obtain ⟨cj, hcj⟩ := nth_ex (l := lay) (i := j) (by rw [lay_len]; exact hj)
    exact hD.2 j _ (wl_get E sg0 hcj)
  have hS' : va_S (AW E) s.heap H [] := ⟨hS.1, fun q h1 _ => hS.2.1 q h1 (Nat.not_le.mpr h1), fun l hl => by cases hl⟩
  have e100 : E.2.1 100 = aLo := by rw [eE]; rfl
  have e101 : E.2.1 101 = aHi := by rw [eE]; rfl
  have e102 : E.2.1 102 = b := by rw [eE]; rfl
  have e0 : E.2.1 0 = q0 := by rw [eE]; rfl
  have e42 : E.2.1 42 = q42 := by rw [eE]; rfl
  have hBs : Bs E s := by
    refine ⟨by rw [eE]; exact hK, fun i j hi hj he => ?_, hN, ⟨by rw [e100]; exact zLo.narrow hAW, by rw [e100]; exact tLo.narrow hAW⟩, ⟨by rw [e101]; exact zHi.narrow hAW, by rw [e101]; exact tHi.narrow hAW⟩⟩
    obtain ⟨ci, hci⟩ := nth_ex (l := lay) (i := i) (by rw [lay_len]; exact hi)
    obtain ⟨cj, hcj⟩ := nth_ex (l := lay) (i := j) (by rw [lay_len]; exact hj)
    exact hD.1 i j _ _ (wl_get E sg0 hci) (wl_get E sg0 hcj) he
  have hTb : va_T .int (E.2.1 102) L (fun j => .int (xs j)) (AW E) s s.heap := by
    rw [e102]
    obtain ⟨scr, x1, x2, x3, x4, x5⟩ := hX
    exact ⟨scr, x1, x2, x3, by omega, by rw [x4], x5, fun z => absurd (hAW b z) (Nat.not_le.mpr hbl)⟩
  have ok := law_body (L := L) (xs := xs) hL (Ok := OkN p l e room_1 s m #[Value.ref b] below meth c 72 9038 (lw_Z below #[Value.ref b] s) E 4 pgL_law)
    (fun cut n k lv st σ h => wps_ok (cc := code) (own := RL) (rt := some .boolean) (fl := []) (gs := []) hx hb hown htT hBs
      (fun a len f hf => by
        have hm := fnd_mem hf
        simp only [roL, List.mem_cons, List.mem_nil_iff, or_false, Prod.mk.injEq] at hm
        obtain ⟨rfl, rfl, rfl⟩ := hm
        exact hTb)
      (fun i j hij => by cases hij)
      (fun i ci j hij => by cases hij)
      (fun i v hv => by cases hv)
      (fun i n vb sp' hi => law_calls l E i n vb sp' hi p e s m _ below meth c 72 9038 code 4 hx hb hml hown htT hBs (Nat.le_refl _) (Nat.le_refl _))
      (fun v σ pc H locs ls hrt hd hP hS hz hQ => by
        have hv : some (Value.int v) = some (Value.int 1) := hQ
        cases hv
        exact va_forget (fun q hq => hAW _ (hS.2.2 q hq)) (lw_ret hx hb hr hlocks hd))
      (fun v σ pc H locs ls hrt => by cases hrt)
      (fun σ pc H locs ls hrt => by cases hrt)
      (all_nth chkLaw) cut n k lv st σ h)
    (L + 5) 0 sg0 (by omega) (by omega) inv0
  have hl9 : lv_has ls 4 (concL E.2.1 [some (.ref 102), some (.ref 0), some (.ref 42), some (.int (nI 0))]) := by
    have e : concL E.2.1 [some (.ref 102), some (.ref 0), some (.ref 42), some (.int (nI 0))] = [(0, .ref (E.2.1 102)), (1, .ref (E.2.1 0)), (2, .ref (E.2.1 42)), (3, .int (nI 0))] := rfl
    rw [e, e102, e0, e42]
    exact lv_sub hl [3, 2, 1, 0] rfl
  exact ok H [] ls hP hS' hl9
