theorem ihX0 : ∀ w ∈ u_ws RX0 TX0 6, w ∈ tT := by decide +kernel
theorem ihX1 : ∀ w ∈ u_ws RX1 TX1 4, w ∈ tT := by decide +kernel
theorem ihX2 : ∀ w ∈ u_ws RX2 TX2 4, w ∈ tT := by decide +kernel
theorem ihX3 : ∀ w ∈ u_ws RX3 TX3 14, w ∈ tT := by decide +kernel
theorem ihX4 : ∀ w ∈ u_ws RX4 TX4 8, w ∈ tT := by decide +kernel
theorem ihX5 : ∀ w ∈ u_ws RX5 TX5 5, w ∈ tT := by decide +kernel
theorem ihX7 : ∀ w ∈ u_ws RX7 TX7 3, w ∈ tT := by decide +kernel
theorem ihX8 : ∀ w ∈ u_ws RX8 TX8 3, w ∈ tT := by decide +kernel
theorem ihX9 : ∀ w ∈ u_ws RX9 TX9 13, w ∈ tT := by decide +kernel
theorem ihX10 : ∀ w ∈ u_ws RX10 TX10 40, w ∈ tT := by decide +kernel
theorem dfX0 : ∀ j, j < 6 → defaultValue (tyX0 j) = vp_V [.int 0, .null, .null, .null, .null, .null] j := fun j hj => match j, hj with
  | 0, _ => rfl
  | 1, _ => rfl
  | 2, _ => rfl
  | 3, _ => rfl
  | 4, _ => rfl
  | 5, _ => rfl
  | j + 6, h => absurd h (by omega)
theorem dfX1 : ∀ j, j < 4 → defaultValue (tyX1 j) = vp_V [.null, .null, .null, .int 0] j := fun j hj => match j, hj with
  | 0, _ => rfl
  | 1, _ => rfl
  | 2, _ => rfl
  | 3, _ => rfl
  | j + 4, h => absurd h (by omega)
theorem dfX2 : ∀ j, j < 4 → defaultValue (tyX2 j) = vp_V [.null, .null, .null, .int 0] j := fun j hj => match j, hj with
  | 0, _ => rfl
  | 1, _ => rfl
  | 2, _ => rfl
  | 3, _ => rfl
  | j + 4, h => absurd h (by omega)
theorem dfX3 : ∀ j, j < 14 → defaultValue (tyX3 j) = vp_V [.int 0, .long 0, .long 0, .long 0, .long 0, .long 0, .long 0, .long 0, .long 0, .long 0, .long 0, .long 0, .long 0, .long 0] j := fun j hj => match j, hj with
  | 0, _ => rfl
  | 1, _ => rfl
  | 2, _ => rfl
  | 3, _ => rfl
  | 4, _ => rfl
  | 5, _ => rfl
  | 6, _ => rfl
  | 7, _ => rfl
  | 8, _ => rfl
  | 9, _ => rfl
  | 10, _ => rfl
  | 11, _ => rfl
  | 12, _ => rfl
  | 13, _ => rfl
  | j + 14, h => absurd h (by omega)
theorem dfX4 : ∀ j, j < 8 → defaultValue (tyX4 j) = vp_V [.null, .null, .null, .null, .int 0, .null, .int 0, .null] j := fun j hj => match j, hj with
  | 0, _ => rfl
  | 1, _ => rfl
  | 2, _ => rfl
  | 3, _ => rfl
  | 4, _ => rfl
  | 5, _ => rfl
  | 6, _ => rfl
  | 7, _ => rfl
  | j + 8, h => absurd h (by omega)
theorem dfX5 : ∀ j, j < 5 → defaultValue (tyX5 j) = vp_V [.null, .null, .null, .null, .int 0] j := fun j hj => match j, hj with
  | 0, _ => rfl
  | 1, _ => rfl
  | 2, _ => rfl
  | 3, _ => rfl
  | 4, _ => rfl
  | j + 5, h => absurd h (by omega)
theorem dfX7 : ∀ j, j < 3 → defaultValue (tyX7 j) = vp_V [.null, .null, .null] j := fun j hj => match j, hj with
  | 0, _ => rfl
  | 1, _ => rfl
  | 2, _ => rfl
  | j + 3, h => absurd h (by omega)
theorem dfX8 : ∀ j, j < 3 → defaultValue (tyX8 j) = vp_V [.null, .null, .int 0] j := fun j hj => match j, hj with
  | 0, _ => rfl
  | 1, _ => rfl
  | 2, _ => rfl
  | j + 3, h => absurd h (by omega)
theorem dfX9 : ∀ j, j < 13 → defaultValue (tyX9 j) = vp_V [.null, .null, .null, .null, .null, .null, .null, .null, .null, .null, .int 0, .int 0, .int 0] j := fun j hj => match j, hj with
  | 0, _ => rfl
  | 1, _ => rfl
  | 2, _ => rfl
  | 3, _ => rfl
  | 4, _ => rfl
  | 5, _ => rfl
  | 6, _ => rfl
  | 7, _ => rfl
  | 8, _ => rfl
  | 9, _ => rfl
  | 10, _ => rfl
  | 11, _ => rfl
  | 12, _ => rfl
  | j + 13, h => absurd h (by omega)
theorem dfX10 : ∀ j, j < 40 → defaultValue (tyX10 j) = vp_V [.int 0, .int 0, .int 0, .null, .null, .int 0, .null, .null, .null, .null, .int 0, .null, .null, .null, .int 0, .null, .null, .null, .null, .null, .null, .null, .int 0, .null, .null, .null, .int 0, .null, .null, .null, .int 0, .int 0, .null, .null, .null, .null, .int 0, .null, .null, .null] j := fun j hj => match j, hj with
  | 0, _ => rfl
  | 1, _ => rfl
  | 2, _ => rfl
  | 3, _ => rfl
  | 4, _ => rfl
  | 5, _ => rfl
  | 6, _ => rfl
  | 7, _ => rfl
  | 8, _ => rfl
  | 9, _ => rfl
  | 10, _ => rfl
  | 11, _ => rfl
  | 12, _ => rfl
  | 13, _ => rfl
  | 14, _ => rfl
  | 15, _ => rfl
  | 16, _ => rfl
  | 17, _ => rfl
  | 18, _ => rfl
  | 19, _ => rfl
  | 20, _ => rfl
  | 21, _ => rfl
  | 22, _ => rfl
  | 23, _ => rfl
  | 24, _ => rfl
  | 25, _ => rfl
  | 26, _ => rfl
  | 27, _ => rfl
  | 28, _ => rfl
  | 29, _ => rfl
  | 30, _ => rfl
  | 31, _ => rfl
  | 32, _ => rfl
  | 33, _ => rfl
  | 34, _ => rfl
  | 35, _ => rfl
  | 36, _ => rfl
  | 37, _ => rfl
  | 38, _ => rfl
  | 39, _ => rfl
  | j + 40, h => absurd h (by omega)
theorem dX8i_0 : decode cX8_init 0 = .ok (.aload_n 0, 1) := by decide +kernel
theorem dX8i_1 : decode cX8_init 1 = .ok (.invokespecial 3, 3) := by decide +kernel
theorem dX8i_4 : decode cX8_init 4 = .ok (.aload_n 0, 1) := by decide +kernel
theorem dX8i_5 : decode cX8_init 5 = .ok (.bipush 30, 2) := by decide +kernel
theorem dX8i_7 : decode cX8_init 7 = .ok (.newarray .int, 2) := by decide +kernel
theorem dX8i_9 : decode cX8_init 9 = .ok (.putfield 9, 3) := by decide +kernel
theorem dX8i_12 : decode cX8_init 12 = .ok (.aload_n 0, 1) := by decide +kernel
theorem dX8i_13 : decode cX8_init 13 = .ok (.bipush 30, 2) := by decide +kernel
theorem dX8i_15 : decode cX8_init 15 = .ok (.newarray .int, 2) := by decide +kernel
theorem dX8i_17 : decode cX8_init 17 = .ok (.putfield 15, 3) := by decide +kernel
theorem dX8i_20 : decode cX8_init 20 = .ok (.return_, 1) := by decide +kernel
def clX8 (k : KK) (h0 : Nat) (u : Nat → Nat) : va_W := [(h0, .inr (7, [.ref (u 0), .ref (u 1), .int 0])), (u 0, .inl (k.2.1, 30, .inl z0)), (u 1, .inl (k.2.1, 30, .inl z0))]
set_option maxRecDepth 100000 in
set_option maxHeartbeats 8000000 in
theorem inX8 (l : Launch) : Ci l yX8_init cX8_init ({ frames := 1, cells := 2, slots := 60, locals := 12 }) 2 60 7 [.null, .null, .int 0] clX8 := by
  intro k h0 sz
  refine Met.ofW (cc := cX8_init) (maxL := 1) (ret := none) (by decide) rfl ?_
  intro p e s m args below meth c s₁ B hml hv
  obtain ⟨rfl, hsz, hP, hK, hN, hD0⟩ := hv
  have hx := B.exec
  have hb := B.bytes
  have hr := B.returns
  have hts1 := atoms_spec (ws := Cond.code yX8_init cX8_init 1 none :: tT) B.pre
  have hts : ∀ w ∈ tT, w.before [Value.ref h0].toArray s = true := fun w hw => hts1 w (List.mem_cons_of_mem _ hw)
  have hown : s.vm.findClass RX8 = some m.cls := findClass_of_methodNamed B.named
  have hlocks := B.notSynchronized
  have hin : meth.name = "<init>" := (name_of_methodNamed B.named B.method).1
  subst hsz
  have hD := hD0.self (sz := s.heap.size)
  have hA : ∀ q : Nat, s.heap.size ≤ q → va_A [(h0, .inr (7, [.null, .null, .int 0]))] s.heap.size q := fun q h => Or.inr h
  have hS : va_S (va_A [(h0, .inr (7, [.null, .null, .int 0]))] s.heap.size) s.heap s.heap [] := va_S.rf
  have hl := lv_entry ([.ref h0]) (n := 1) (Nat.le_of_ble_eq_true rfl)
  rw [lg_entry_eq]
  generalize (lg_sl ([.ref h0]) ++ List.replicate (1 - (lg_sl ([.ref h0])).length) Slot.unset).toArray = ls at hl ⊢
  have hl : lv_has ls 1 [(0, .ref h0)] := hl
  refine lv_aload_n hx hb dX8i_0 rfl (lv_at hl 0 rfl) ?_
  refine W.objInit hx hb hown (hts (.methodLink RX8 3 Lib.objectInit) (inT 110 (by decide +kernel) rfl)) (hts (.instanceMethod Lib.objectInit) (inT 103 (by decide +kernel) rfl)) (hts (.code Lib.objectInit ⟨#[0xb1]⟩ 1 none) (inT 104 (by decide +kernel) rfl)) rfl (by rw [hml]; exact hl.1) rfl dX8i_1 (Nat.le_of_ble_eq_true rfl) (Nat.le_of_ble_eq_true rfl) ?_
  refine W.eq (g2 := F0 m 4 ls []) rfl ?_
  refine lv_aload_n hx hb dX8i_4 rfl (lv_at hl 0 rfl) ?_
  refine lv_bipush (v := 30) hx hb dX8i_5 (by decide) ?_
  refine nwI (k := k) (N := 30) hx hb (hts (.arrayClass .int) (inT 124 (by decide +kernel) rfl)) hK hP hD hS hA (by decide) (by decide) (by decide) (Nat.le_of_ble_eq_true rfl) (Nat.le_of_ble_eq_true rfl) dX8i_7 (fun q7 H hP hD hS => ?_)
  have hP : va_P k.1 classes [(h0, .inr (7, [.null, .null, .int 0])), (q7, .inl (k.2.1, 30, .inl z0))] H := hP
  have hD : va_D (va_A [(h0, .inr (7, [.null, .null, .int 0]))] s.heap.size) [(h0, .inr (7, [.null, .null, .int 0])), (q7, .inl (k.2.1, 30, .inl z0))] := hD
  refine va_putF (D := k.1) (ci := 7) (v := .ref q7) (ty := .array .int) (C := RX8) (T := TX8) (N := 3) hx hb hts ihX8 tyX8 tyX8_ok nmX8 hown hK hP hD hS 0 rfl rfl 0 (by decide) (hts (.fieldLink RX8 9 "TankField$Tanks" "x" "[I") (inT 111 (by decide +kernel) rfl)) (fun _ h9 => h9) rfl hin rfl (by decide +kernel) rfl rfl (Nat.le_of_ble_eq_true rfl) dX8i_9 (fun H locs hP hD hS => ?_)
  have hP : va_P k.1 classes [(h0, .inr (7, [.ref q7, .null, .int 0])), (q7, .inl (k.2.1, 30, .inl z0))] H := hP
  have hD : va_D (va_A [(h0, .inr (7, [.null, .null, .int 0]))] s.heap.size) [(h0, .inr (7, [.ref q7, .null, .int 0])), (q7, .inl (k.2.1, 30, .inl z0))] := hD
  refine lv_aload_n hx hb dX8i_12 rfl (lv_at hl 0 rfl) ?_
  refine lv_bipush (v := 30) hx hb dX8i_13 (by decide) ?_
  refine nwI (k := k) (N := 30) hx hb (hts (.arrayClass .int) (inT 124 (by decide +kernel) rfl)) hK hP hD hS hA (by decide) (by decide) (by decide) (Nat.le_of_ble_eq_true rfl) (Nat.le_of_ble_eq_true rfl) dX8i_15 (fun q15 H hP hD hS => ?_)
  have hP : va_P k.1 classes [(h0, .inr (7, [.ref q7, .null, .int 0])), (q7, .inl (k.2.1, 30, .inl z0)), (q15, .inl (k.2.1, 30, .inl z0))] H := hP
  have hD : va_D (va_A [(h0, .inr (7, [.null, .null, .int 0]))] s.heap.size) [(h0, .inr (7, [.ref q7, .null, .int 0])), (q7, .inl (k.2.1, 30, .inl z0)), (q15, .inl (k.2.1, 30, .inl z0))] := hD
  refine va_putF (D := k.1) (ci := 7) (v := .ref q15) (ty := .array .int) (C := RX8) (T := TX8) (N := 3) hx hb hts ihX8 tyX8 tyX8_ok nmX8 hown hK hP hD hS 0 rfl rfl 1 (by decide) (hts (.fieldLink RX8 15 "TankField$Tanks" "y" "[I") (inT 113 (by decide +kernel) rfl)) (fun _ h9 => h9) rfl hin rfl (by decide +kernel) rfl rfl (Nat.le_of_ble_eq_true rfl) dX8i_17 (fun H locs hP hD hS => ?_)
  have hP : va_P k.1 classes [(h0, .inr (7, [.ref q7, .ref q15, .int 0])), (q7, .inl (k.2.1, 30, .inl z0)), (q15, .inl (k.2.1, 30, .inl z0))] H := hP
  have hD : va_D (va_A [(h0, .inr (7, [.null, .null, .int 0]))] s.heap.size) [(h0, .inr (7, [.ref q7, .ref q15, .int 0])), (q7, .inl (k.2.1, 30, .inl z0)), (q15, .inl (k.2.1, 30, .inl z0))] := hD
  refine W.widen (k := 2) (n := 60) (Nat.le_of_ble_eq_true rfl) (Nat.le_of_ble_eq_true rfl) ?_
  exact W.vret hx hb hr (fun t ht hW => ⟨⟨(fun j => match nth [q7, q15] j with | some a => a | none => 0), rfl, trivial, by rw [ht]; exact hP, hD⟩, hS.F ht⟩) hS.2.2 dX8i_20
theorem dX5i_0 : decode cX5_init 0 = .ok (.aload_n 0, 1) := by decide +kernel
theorem dX5i_1 : decode cX5_init 1 = .ok (.invokespecial 3, 3) := by decide +kernel
theorem dX5i_4 : decode cX5_init 4 = .ok (.aload_n 0, 1) := by decide +kernel
theorem dX5i_5 : decode cX5_init 5 = .ok (.sipush 240, 3) := by decide +kernel
theorem dX5i_8 : decode cX5_init 8 = .ok (.newarray .int, 2) := by decide +kernel
theorem dX5i_10 : decode cX5_init 10 = .ok (.putfield 9, 3) := by decide +kernel
theorem dX5i_13 : decode cX5_init 13 = .ok (.aload_n 0, 1) := by decide +kernel
theorem dX5i_14 : decode cX5_init 14 = .ok (.sipush 240, 3) := by decide +kernel
theorem dX5i_17 : decode cX5_init 17 = .ok (.newarray .int, 2) := by decide +kernel
theorem dX5i_19 : decode cX5_init 19 = .ok (.putfield 15, 3) := by decide +kernel
theorem dX5i_22 : decode cX5_init 22 = .ok (.aload_n 0, 1) := by decide +kernel
theorem dX5i_23 : decode cX5_init 23 = .ok (.sipush 240, 3) := by decide +kernel
theorem dX5i_26 : decode cX5_init 26 = .ok (.newarray .int, 2) := by decide +kernel
theorem dX5i_28 : decode cX5_init 28 = .ok (.putfield 18, 3) := by decide +kernel
theorem dX5i_31 : decode cX5_init 31 = .ok (.aload_n 0, 1) := by decide +kernel
theorem dX5i_32 : decode cX5_init 32 = .ok (.sipush 240, 3) := by decide +kernel
theorem dX5i_35 : decode cX5_init 35 = .ok (.newarray .int, 2) := by decide +kernel
theorem dX5i_37 : decode cX5_init 37 = .ok (.putfield 21, 3) := by decide +kernel
theorem dX5i_40 : decode cX5_init 40 = .ok (.return_, 1) := by decide +kernel
def clX5 (k : KK) (h0 : Nat) (u : Nat → Nat) : va_W := [(h0, .inr (5, [.ref (u 0), .ref (u 1), .ref (u 2), .ref (u 3), .int 0])), (u 0, .inl (k.2.1, 240, .inl z0)), (u 1, .inl (k.2.1, 240, .inl z0)), (u 2, .inl (k.2.1, 240, .inl z0)), (u 3, .inl (k.2.1, 240, .inl z0))]
set_option maxRecDepth 100000 in
set_option maxHeartbeats 8000000 in
theorem inX5 (l : Launch) : Ci l yX5_init cX5_init ({ frames := 1, cells := 4, slots := 960, locals := 12 }) 4 960 5 [.null, .null, .null, .null, .int 0] clX5 := by
  intro k h0 sz
  refine Met.ofW (cc := cX5_init) (maxL := 1) (ret := none) (by decide) rfl ?_
  intro p e s m args below meth c s₁ B hml hv
  obtain ⟨rfl, hsz, hP, hK, hN, hD0⟩ := hv
  have hx := B.exec
  have hb := B.bytes
  have hr := B.returns
  have hts1 := atoms_spec (ws := Cond.code yX5_init cX5_init 1 none :: tT) B.pre
  have hts : ∀ w ∈ tT, w.before [Value.ref h0].toArray s = true := fun w hw => hts1 w (List.mem_cons_of_mem _ hw)
  have hown : s.vm.findClass RX5 = some m.cls := findClass_of_methodNamed B.named
  have hlocks := B.notSynchronized
  have hin : meth.name = "<init>" := (name_of_methodNamed B.named B.method).1
  subst hsz
  have hD := hD0.self (sz := s.heap.size)
  have hA : ∀ q : Nat, s.heap.size ≤ q → va_A [(h0, .inr (5, [.null, .null, .null, .null, .int 0]))] s.heap.size q := fun q h => Or.inr h
  have hS : va_S (va_A [(h0, .inr (5, [.null, .null, .null, .null, .int 0]))] s.heap.size) s.heap s.heap [] := va_S.rf
  have hl := lv_entry ([.ref h0]) (n := 1) (Nat.le_of_ble_eq_true rfl)
  rw [lg_entry_eq]
  generalize (lg_sl ([.ref h0]) ++ List.replicate (1 - (lg_sl ([.ref h0])).length) Slot.unset).toArray = ls at hl ⊢
  have hl : lv_has ls 1 [(0, .ref h0)] := hl
  refine lv_aload_n hx hb dX5i_0 rfl (lv_at hl 0 rfl) ?_
  refine W.objInit hx hb hown (hts (.methodLink RX5 3 Lib.objectInit) (inT 130 (by decide +kernel) rfl)) (hts (.instanceMethod Lib.objectInit) (inT 103 (by decide +kernel) rfl)) (hts (.code Lib.objectInit ⟨#[0xb1]⟩ 1 none) (inT 104 (by decide +kernel) rfl)) rfl (by rw [hml]; exact hl.1) rfl dX5i_1 (Nat.le_of_ble_eq_true rfl) (Nat.le_of_ble_eq_true rfl) ?_
  refine W.eq (g2 := F0 m 4 ls []) rfl ?_
  refine lv_aload_n hx hb dX5i_4 rfl (lv_at hl 0 rfl) ?_
  refine lv_sipush (v := 240) hx hb dX5i_5 (by decide) ?_
  refine nwI (k := k) (N := 240) hx hb (hts (.arrayClass .int) (inT 124 (by decide +kernel) rfl)) hK hP hD hS hA (by decide) (by decide) (by decide) (Nat.le_of_ble_eq_true rfl) (Nat.le_of_ble_eq_true rfl) dX5i_8 (fun q8 H hP hD hS => ?_)
  have hP : va_P k.1 classes [(h0, .inr (5, [.null, .null, .null, .null, .int 0])), (q8, .inl (k.2.1, 240, .inl z0))] H := hP
  have hD : va_D (va_A [(h0, .inr (5, [.null, .null, .null, .null, .int 0]))] s.heap.size) [(h0, .inr (5, [.null, .null, .null, .null, .int 0])), (q8, .inl (k.2.1, 240, .inl z0))] := hD
  refine va_putF (D := k.1) (ci := 5) (v := .ref q8) (ty := .array .int) (C := RX5) (T := TX5) (N := 5) hx hb hts ihX5 tyX5 tyX5_ok nmX5 hown hK hP hD hS 0 rfl rfl 0 (by decide) (hts (.fieldLink RX5 9 "TankField$Hits" "tank" "[I") (inT 131 (by decide +kernel) rfl)) (fun _ h9 => h9) rfl hin rfl (by decide +kernel) rfl rfl (Nat.le_of_ble_eq_true rfl) dX5i_10 (fun H locs hP hD hS => ?_)
  have hP : va_P k.1 classes [(h0, .inr (5, [.ref q8, .null, .null, .null, .int 0])), (q8, .inl (k.2.1, 240, .inl z0))] H := hP
  have hD : va_D (va_A [(h0, .inr (5, [.null, .null, .null, .null, .int 0]))] s.heap.size) [(h0, .inr (5, [.ref q8, .null, .null, .null, .int 0])), (q8, .inl (k.2.1, 240, .inl z0))] := hD
  refine lv_aload_n hx hb dX5i_13 rfl (lv_at hl 0 rfl) ?_
  refine lv_sipush (v := 240) hx hb dX5i_14 (by decide) ?_
  refine nwI (k := k) (N := 240) hx hb (hts (.arrayClass .int) (inT 124 (by decide +kernel) rfl)) hK hP hD hS hA (by decide) (by decide) (by decide) (Nat.le_of_ble_eq_true rfl) (Nat.le_of_ble_eq_true rfl) dX5i_17 (fun q17 H hP hD hS => ?_)
  have hP : va_P k.1 classes [(h0, .inr (5, [.ref q8, .null, .null, .null, .int 0])), (q8, .inl (k.2.1, 240, .inl z0)), (q17, .inl (k.2.1, 240, .inl z0))] H := hP
  have hD : va_D (va_A [(h0, .inr (5, [.null, .null, .null, .null, .int 0]))] s.heap.size) [(h0, .inr (5, [.ref q8, .null, .null, .null, .int 0])), (q8, .inl (k.2.1, 240, .inl z0)), (q17, .inl (k.2.1, 240, .inl z0))] := hD
  refine va_putF (D := k.1) (ci := 5) (v := .ref q17) (ty := .array .int) (C := RX5) (T := TX5) (N := 5) hx hb hts ihX5 tyX5 tyX5_ok nmX5 hown hK hP hD hS 0 rfl rfl 1 (by decide) (hts (.fieldLink RX5 15 "TankField$Hits" "time" "[I") (inT 133 (by decide +kernel) rfl)) (fun _ h9 => h9) rfl hin rfl (by decide +kernel) rfl rfl (Nat.le_of_ble_eq_true rfl) dX5i_19 (fun H locs hP hD hS => ?_)
  have hP : va_P k.1 classes [(h0, .inr (5, [.ref q8, .ref q17, .null, .null, .int 0])), (q8, .inl (k.2.1, 240, .inl z0)), (q17, .inl (k.2.1, 240, .inl z0))] H := hP
  have hD : va_D (va_A [(h0, .inr (5, [.null, .null, .null, .null, .int 0]))] s.heap.size) [(h0, .inr (5, [.ref q8, .ref q17, .null, .null, .int 0])), (q8, .inl (k.2.1, 240, .inl z0)), (q17, .inl (k.2.1, 240, .inl z0))] := hD
  refine lv_aload_n hx hb dX5i_22 rfl (lv_at hl 0 rfl) ?_
  refine lv_sipush (v := 240) hx hb dX5i_23 (by decide) ?_
  refine nwI (k := k) (N := 240) hx hb (hts (.arrayClass .int) (inT 124 (by decide +kernel) rfl)) hK hP hD hS hA (by decide) (by decide) (by decide) (Nat.le_of_ble_eq_true rfl) (Nat.le_of_ble_eq_true rfl) dX5i_26 (fun q26 H hP hD hS => ?_)
  have hP : va_P k.1 classes [(h0, .inr (5, [.ref q8, .ref q17, .null, .null, .int 0])), (q8, .inl (k.2.1, 240, .inl z0)), (q17, .inl (k.2.1, 240, .inl z0)), (q26, .inl (k.2.1, 240, .inl z0))] H := hP
  have hD : va_D (va_A [(h0, .inr (5, [.null, .null, .null, .null, .int 0]))] s.heap.size) [(h0, .inr (5, [.ref q8, .ref q17, .null, .null, .int 0])), (q8, .inl (k.2.1, 240, .inl z0)), (q17, .inl (k.2.1, 240, .inl z0)), (q26, .inl (k.2.1, 240, .inl z0))] := hD
  refine va_putF (D := k.1) (ci := 5) (v := .ref q26) (ty := .array .int) (C := RX5) (T := TX5) (N := 5) hx hb hts ihX5 tyX5 tyX5_ok nmX5 hown hK hP hD hS 0 rfl rfl 2 (by decide) (hts (.fieldLink RX5 18 "TankField$Hits" "low" "[I") (inT 135 (by decide +kernel) rfl)) (fun _ h9 => h9) rfl hin rfl (by decide +kernel) rfl rfl (Nat.le_of_ble_eq_true rfl) dX5i_28 (fun H locs hP hD hS => ?_)
  have hP : va_P k.1 classes [(h0, .inr (5, [.ref q8, .ref q17, .ref q26, .null, .int 0])), (q8, .inl (k.2.1, 240, .inl z0)), (q17, .inl (k.2.1, 240, .inl z0)), (q26, .inl (k.2.1, 240, .inl z0))] H := hP
  have hD : va_D (va_A [(h0, .inr (5, [.null, .null, .null, .null, .int 0]))] s.heap.size) [(h0, .inr (5, [.ref q8, .ref q17, .ref q26, .null, .int 0])), (q8, .inl (k.2.1, 240, .inl z0)), (q17, .inl (k.2.1, 240, .inl z0)), (q26, .inl (k.2.1, 240, .inl z0))] := hD
  refine lv_aload_n hx hb dX5i_31 rfl (lv_at hl 0 rfl) ?_
  refine lv_sipush (v := 240) hx hb dX5i_32 (by decide) ?_
  refine nwI (k := k) (N := 240) hx hb (hts (.arrayClass .int) (inT 124 (by decide +kernel) rfl)) hK hP hD hS hA (by decide) (by decide) (by decide) (Nat.le_of_ble_eq_true rfl) (Nat.le_of_ble_eq_true rfl) dX5i_35 (fun q35 H hP hD hS => ?_)
  have hP : va_P k.1 classes [(h0, .inr (5, [.ref q8, .ref q17, .ref q26, .null, .int 0])), (q8, .inl (k.2.1, 240, .inl z0)), (q17, .inl (k.2.1, 240, .inl z0)), (q26, .inl (k.2.1, 240, .inl z0)), (q35, .inl (k.2.1, 240, .inl z0))] H := hP
  have hD : va_D (va_A [(h0, .inr (5, [.null, .null, .null, .null, .int 0]))] s.heap.size) [(h0, .inr (5, [.ref q8, .ref q17, .ref q26, .null, .int 0])), (q8, .inl (k.2.1, 240, .inl z0)), (q17, .inl (k.2.1, 240, .inl z0)), (q26, .inl (k.2.1, 240, .inl z0)), (q35, .inl (k.2.1, 240, .inl z0))] := hD
  refine va_putF (D := k.1) (ci := 5) (v := .ref q35) (ty := .array .int) (C := RX5) (T := TX5) (N := 5) hx hb hts ihX5 tyX5 tyX5_ok nmX5 hown hK hP hD hS 0 rfl rfl 3 (by decide) (hts (.fieldLink RX5 21 "TankField$Hits" "high" "[I") (inT 137 (by decide +kernel) rfl)) (fun _ h9 => h9) rfl hin rfl (by decide +kernel) rfl rfl (Nat.le_of_ble_eq_true rfl) dX5i_37 (fun H locs hP hD hS => ?_)
  have hP : va_P k.1 classes [(h0, .inr (5, [.ref q8, .ref q17, .ref q26, .ref q35, .int 0])), (q8, .inl (k.2.1, 240, .inl z0)), (q17, .inl (k.2.1, 240, .inl z0)), (q26, .inl (k.2.1, 240, .inl z0)), (q35, .inl (k.2.1, 240, .inl z0))] H := hP
  have hD : va_D (va_A [(h0, .inr (5, [.null, .null, .null, .null, .int 0]))] s.heap.size) [(h0, .inr (5, [.ref q8, .ref q17, .ref q26, .ref q35, .int 0])), (q8, .inl (k.2.1, 240, .inl z0)), (q17, .inl (k.2.1, 240, .inl z0)), (q26, .inl (k.2.1, 240, .inl z0)), (q35, .inl (k.2.1, 240, .inl z0))] := hD
  refine W.widen (k := 4) (n := 960) (Nat.le_of_ble_eq_true rfl) (Nat.le_of_ble_eq_true rfl) ?_
  exact W.vret hx hb hr (fun t ht hW => ⟨⟨(fun j => match nth [q8, q17, q26, q35] j with | some a => a | none => 0), rfl, trivial, by rw [ht]; exact hP, hD⟩, hS.F ht⟩) hS.2.2 dX5i_40
theorem dX6Xi_0 : decode cX6_init 0 = .ok (.aload_n 0, 1) := by decide +kernel
theorem dX6Xi_1 : decode cX6_init 1 = .ok (.invokespecial 3, 3) := by decide +kernel
theorem dX6Xi_4 : decode cX6_init 4 = .ok (.aload_n 0, 1) := by decide +kernel
theorem dX6Xi_5 : decode cX6_init 5 = .ok (.bipush 20, 2) := by decide +kernel
theorem dX6Xi_7 : decode cX6_init 7 = .ok (.newarray .int, 2) := by decide +kernel
theorem dX6Xi_9 : decode cX6_init 9 = .ok (.putfield 9, 3) := by decide +kernel
theorem dX6Xi_12 : decode cX6_init 12 = .ok (.aload_n 0, 1) := by decide +kernel
theorem dX6Xi_13 : decode cX6_init 13 = .ok (.bipush 20, 2) := by decide +kernel
theorem dX6Xi_15 : decode cX6_init 15 = .ok (.newarray .int, 2) := by decide +kernel
theorem dX6Xi_17 : decode cX6_init 17 = .ok (.putfield 15, 3) := by decide +kernel
theorem dX6Xi_20 : decode cX6_init 20 = .ok (.aload_n 0, 1) := by decide +kernel
theorem dX6Xi_21 : decode cX6_init 21 = .ok (.bipush 20, 2) := by decide +kernel
theorem dX6Xi_23 : decode cX6_init 23 = .ok (.newarray .int, 2) := by decide +kernel
theorem dX6Xi_25 : decode cX6_init 25 = .ok (.putfield 18, 3) := by decide +kernel
theorem dX6Xi_28 : decode cX6_init 28 = .ok (.return_, 1) := by decide +kernel
def clX6c (k : KK) (h0 : Nat) (u : Nat → Nat) : va_W := [(h0, .inr (1, [.ref (u 0), .ref (u 1), .ref (u 2), .int 0])), (u 0, .inl (k.2.1, 20, .inl z0)), (u 1, .inl (k.2.1, 20, .inl z0)), (u 2, .inl (k.2.1, 20, .inl z0))]
set_option maxRecDepth 100000 in
set_option maxHeartbeats 8000000 in
theorem inX6c (l : Launch) : Ci l yX6_init cX6_init ({ frames := 1, cells := 3, slots := 60, locals := 12 }) 3 60 1 [.null, .null, .null, .int 0] clX6c := by
  intro k h0 sz
  refine Met.ofW (cc := cX6_init) (maxL := 1) (ret := none) (by decide) rfl ?_
  intro p e s m args below meth c s₁ B hml hv
  obtain ⟨rfl, hsz, hP, hK, hN, hD0⟩ := hv
  have hx := B.exec
  have hb := B.bytes
  have hr := B.returns
  have hts1 := atoms_spec (ws := Cond.code yX6_init cX6_init 1 none :: tT) B.pre
  have hts : ∀ w ∈ tT, w.before [Value.ref h0].toArray s = true := fun w hw => hts1 w (List.mem_cons_of_mem _ hw)
  have hown : s.vm.findClass RX6 = some m.cls := findClass_of_methodNamed B.named
  have hlocks := B.notSynchronized
  have hin : meth.name = "<init>" := (name_of_methodNamed B.named B.method).1
  subst hsz
  have hD := hD0.self (sz := s.heap.size)
  have hA : ∀ q : Nat, s.heap.size ≤ q → va_A [(h0, .inr (1, [.null, .null, .null, .int 0]))] s.heap.size q := fun q h => Or.inr h
  have hS : va_S (va_A [(h0, .inr (1, [.null, .null, .null, .int 0]))] s.heap.size) s.heap s.heap [] := va_S.rf
  have hl := lv_entry ([.ref h0]) (n := 1) (Nat.le_of_ble_eq_true rfl)
  rw [lg_entry_eq]
  generalize (lg_sl ([.ref h0]) ++ List.replicate (1 - (lg_sl ([.ref h0])).length) Slot.unset).toArray = ls at hl ⊢
  have hl : lv_has ls 1 [(0, .ref h0)] := hl
  refine lv_aload_n hx hb dX6Xi_0 rfl (lv_at hl 0 rfl) ?_
  refine W.objInit hx hb hown (hts (.methodLink RX6 3 Lib.objectInit) (inT 160 (by decide +kernel) rfl)) (hts (.instanceMethod Lib.objectInit) (inT 103 (by decide +kernel) rfl)) (hts (.code Lib.objectInit ⟨#[0xb1]⟩ 1 none) (inT 104 (by decide +kernel) rfl)) rfl (by rw [hml]; exact hl.1) rfl dX6Xi_1 (Nat.le_of_ble_eq_true rfl) (Nat.le_of_ble_eq_true rfl) ?_
  refine W.eq (g2 := F0 m 4 ls []) rfl ?_
  refine lv_aload_n hx hb dX6Xi_4 rfl (lv_at hl 0 rfl) ?_
  refine lv_bipush (v := 20) hx hb dX6Xi_5 (by decide) ?_
  refine nwI (k := k) (N := 20) hx hb (hts (.arrayClass .int) (inT 124 (by decide +kernel) rfl)) hK hP hD hS hA (by decide) (by decide) (by decide) (Nat.le_of_ble_eq_true rfl) (Nat.le_of_ble_eq_true rfl) dX6Xi_7 (fun q7 H hP hD hS => ?_)
  have hP : va_P k.1 classes [(h0, .inr (1, [.null, .null, .null, .int 0])), (q7, .inl (k.2.1, 20, .inl z0))] H := hP
  have hD : va_D (va_A [(h0, .inr (1, [.null, .null, .null, .int 0]))] s.heap.size) [(h0, .inr (1, [.null, .null, .null, .int 0])), (q7, .inl (k.2.1, 20, .inl z0))] := hD
  refine va_putF (D := k.1) (ci := 1) (v := .ref q7) (ty := .array .int) (C := RX1) (T := TX1) (N := 4) hx hb hts ihX1 tyX1 tyX1_ok nmX1 hown hK hP hD hS 0 rfl rfl 0 (by decide) (hts (.fieldLink RX6 9 "TankField$Ledger" "tank" "[I") (inT 161 (by decide +kernel) rfl)) (fun _ h9 => h9) rfl hin rfl (by decide +kernel) rfl rfl (Nat.le_of_ble_eq_true rfl) dX6Xi_9 (fun H locs hP hD hS => ?_)
  have hP : va_P k.1 classes [(h0, .inr (1, [.ref q7, .null, .null, .int 0])), (q7, .inl (k.2.1, 20, .inl z0))] H := hP
  have hD : va_D (va_A [(h0, .inr (1, [.null, .null, .null, .int 0]))] s.heap.size) [(h0, .inr (1, [.ref q7, .null, .null, .int 0])), (q7, .inl (k.2.1, 20, .inl z0))] := hD
  refine lv_aload_n hx hb dX6Xi_12 rfl (lv_at hl 0 rfl) ?_
  refine lv_bipush (v := 20) hx hb dX6Xi_13 (by decide) ?_
  refine nwI (k := k) (N := 20) hx hb (hts (.arrayClass .int) (inT 124 (by decide +kernel) rfl)) hK hP hD hS hA (by decide) (by decide) (by decide) (Nat.le_of_ble_eq_true rfl) (Nat.le_of_ble_eq_true rfl) dX6Xi_15 (fun q15 H hP hD hS => ?_)
  have hP : va_P k.1 classes [(h0, .inr (1, [.ref q7, .null, .null, .int 0])), (q7, .inl (k.2.1, 20, .inl z0)), (q15, .inl (k.2.1, 20, .inl z0))] H := hP
  have hD : va_D (va_A [(h0, .inr (1, [.null, .null, .null, .int 0]))] s.heap.size) [(h0, .inr (1, [.ref q7, .null, .null, .int 0])), (q7, .inl (k.2.1, 20, .inl z0)), (q15, .inl (k.2.1, 20, .inl z0))] := hD
  refine va_putF (D := k.1) (ci := 1) (v := .ref q15) (ty := .array .int) (C := RX1) (T := TX1) (N := 4) hx hb hts ihX1 tyX1 tyX1_ok nmX1 hown hK hP hD hS 0 rfl rfl 1 (by decide) (hts (.fieldLink RX6 15 "TankField$Ledger" "from" "[I") (inT 166 (by decide +kernel) rfl)) (fun _ h9 => h9) rfl hin rfl (by decide +kernel) rfl rfl (Nat.le_of_ble_eq_true rfl) dX6Xi_17 (fun H locs hP hD hS => ?_)
  have hP : va_P k.1 classes [(h0, .inr (1, [.ref q7, .ref q15, .null, .int 0])), (q7, .inl (k.2.1, 20, .inl z0)), (q15, .inl (k.2.1, 20, .inl z0))] H := hP
  have hD : va_D (va_A [(h0, .inr (1, [.null, .null, .null, .int 0]))] s.heap.size) [(h0, .inr (1, [.ref q7, .ref q15, .null, .int 0])), (q7, .inl (k.2.1, 20, .inl z0)), (q15, .inl (k.2.1, 20, .inl z0))] := hD
  refine lv_aload_n hx hb dX6Xi_20 rfl (lv_at hl 0 rfl) ?_
  refine lv_bipush (v := 20) hx hb dX6Xi_21 (by decide) ?_
  refine nwI (k := k) (N := 20) hx hb (hts (.arrayClass .int) (inT 124 (by decide +kernel) rfl)) hK hP hD hS hA (by decide) (by decide) (by decide) (Nat.le_of_ble_eq_true rfl) (Nat.le_of_ble_eq_true rfl) dX6Xi_23 (fun q23 H hP hD hS => ?_)
  have hP : va_P k.1 classes [(h0, .inr (1, [.ref q7, .ref q15, .null, .int 0])), (q7, .inl (k.2.1, 20, .inl z0)), (q15, .inl (k.2.1, 20, .inl z0)), (q23, .inl (k.2.1, 20, .inl z0))] H := hP
  have hD : va_D (va_A [(h0, .inr (1, [.null, .null, .null, .int 0]))] s.heap.size) [(h0, .inr (1, [.ref q7, .ref q15, .null, .int 0])), (q7, .inl (k.2.1, 20, .inl z0)), (q15, .inl (k.2.1, 20, .inl z0)), (q23, .inl (k.2.1, 20, .inl z0))] := hD
  refine va_putF (D := k.1) (ci := 1) (v := .ref q23) (ty := .array .int) (C := RX1) (T := TX1) (N := 4) hx hb hts ihX1 tyX1 tyX1_ok nmX1 hown hK hP hD hS 0 rfl rfl 2 (by decide) (hts (.fieldLink RX6 18 "TankField$Ledger" "value" "[I") (inT 171 (by decide +kernel) rfl)) (fun _ h9 => h9) rfl hin rfl (by decide +kernel) rfl rfl (Nat.le_of_ble_eq_true rfl) dX6Xi_25 (fun H locs hP hD hS => ?_)
  have hP : va_P k.1 classes [(h0, .inr (1, [.ref q7, .ref q15, .ref q23, .int 0])), (q7, .inl (k.2.1, 20, .inl z0)), (q15, .inl (k.2.1, 20, .inl z0)), (q23, .inl (k.2.1, 20, .inl z0))] H := hP
  have hD : va_D (va_A [(h0, .inr (1, [.null, .null, .null, .int 0]))] s.heap.size) [(h0, .inr (1, [.ref q7, .ref q15, .ref q23, .int 0])), (q7, .inl (k.2.1, 20, .inl z0)), (q15, .inl (k.2.1, 20, .inl z0)), (q23, .inl (k.2.1, 20, .inl z0))] := hD
  refine W.widen (k := 3) (n := 60) (Nat.le_of_ble_eq_true rfl) (Nat.le_of_ble_eq_true rfl) ?_
  exact W.vret hx hb hr (fun t ht hW => ⟨⟨(fun j => match nth [q7, q15, q23] j with | some a => a | none => 0), rfl, trivial, by rw [ht]; exact hP, hD⟩, hS.F ht⟩) hS.2.2 dX6Xi_28
def clX6d (k : KK) (h0 : Nat) (u : Nat → Nat) : va_W := [(h0, .inr (2, [.ref (u 0), .ref (u 1), .ref (u 2), .int 0])), (u 0, .inl (k.2.1, 20, .inl z0)), (u 1, .inl (k.2.1, 20, .inl z0)), (u 2, .inl (k.2.1, 20, .inl z0))]
set_option maxRecDepth 100000 in
set_option maxHeartbeats 8000000 in
theorem inX6d (l : Launch) : Ci l yX6_init cX6_init ({ frames := 1, cells := 3, slots := 60, locals := 12 }) 3 60 2 [.null, .null, .null, .int 0] clX6d := by
  intro k h0 sz
  refine Met.ofW (cc := cX6_init) (maxL := 1) (ret := none) (by decide) rfl ?_
  intro p e s m args below meth c s₁ B hml hv
  obtain ⟨rfl, hsz, hP, hK, hN, hD0⟩ := hv
  have hx := B.exec
  have hb := B.bytes
  have hr := B.returns
  have hts1 := atoms_spec (ws := Cond.code yX6_init cX6_init 1 none :: tT) B.pre
  have hts : ∀ w ∈ tT, w.before [Value.ref h0].toArray s = true := fun w hw => hts1 w (List.mem_cons_of_mem _ hw)
  have hown : s.vm.findClass RX6 = some m.cls := findClass_of_methodNamed B.named
  have hlocks := B.notSynchronized
  have hin : meth.name = "<init>" := (name_of_methodNamed B.named B.method).1
  subst hsz
  have hD := hD0.self (sz := s.heap.size)
  have hA : ∀ q : Nat, s.heap.size ≤ q → va_A [(h0, .inr (2, [.null, .null, .null, .int 0]))] s.heap.size q := fun q h => Or.inr h
  have hS : va_S (va_A [(h0, .inr (2, [.null, .null, .null, .int 0]))] s.heap.size) s.heap s.heap [] := va_S.rf
  have hl := lv_entry ([.ref h0]) (n := 1) (Nat.le_of_ble_eq_true rfl)
  rw [lg_entry_eq]
  generalize (lg_sl ([.ref h0]) ++ List.replicate (1 - (lg_sl ([.ref h0])).length) Slot.unset).toArray = ls at hl ⊢
  have hl : lv_has ls 1 [(0, .ref h0)] := hl
  refine lv_aload_n hx hb dX6Xi_0 rfl (lv_at hl 0 rfl) ?_
  refine W.objInit hx hb hown (hts (.methodLink RX6 3 Lib.objectInit) (inT 160 (by decide +kernel) rfl)) (hts (.instanceMethod Lib.objectInit) (inT 103 (by decide +kernel) rfl)) (hts (.code Lib.objectInit ⟨#[0xb1]⟩ 1 none) (inT 104 (by decide +kernel) rfl)) rfl (by rw [hml]; exact hl.1) rfl dX6Xi_1 (Nat.le_of_ble_eq_true rfl) (Nat.le_of_ble_eq_true rfl) ?_
  refine W.eq (g2 := F0 m 4 ls []) rfl ?_
  refine lv_aload_n hx hb dX6Xi_4 rfl (lv_at hl 0 rfl) ?_
  refine lv_bipush (v := 20) hx hb dX6Xi_5 (by decide) ?_
  refine nwI (k := k) (N := 20) hx hb (hts (.arrayClass .int) (inT 124 (by decide +kernel) rfl)) hK hP hD hS hA (by decide) (by decide) (by decide) (Nat.le_of_ble_eq_true rfl) (Nat.le_of_ble_eq_true rfl) dX6Xi_7 (fun q7 H hP hD hS => ?_)
  have hP : va_P k.1 classes [(h0, .inr (2, [.null, .null, .null, .int 0])), (q7, .inl (k.2.1, 20, .inl z0))] H := hP
  have hD : va_D (va_A [(h0, .inr (2, [.null, .null, .null, .int 0]))] s.heap.size) [(h0, .inr (2, [.null, .null, .null, .int 0])), (q7, .inl (k.2.1, 20, .inl z0))] := hD
  refine va_putF (D := k.1) (ci := 2) (v := .ref q7) (ty := .array .int) (C := RX2) (T := TX2) (N := 4) hx hb hts ihX2 tyX2 tyX2_ok nmX2 hown hK hP hD hS 0 rfl rfl 0 (by decide) (hts (.fieldLink RX6 9 "TankField$Ledger" "tank" "[I") (inT 161 (by decide +kernel) rfl)) (fun _ h9 => h9) rfl hin rfl (by decide +kernel) rfl rfl (Nat.le_of_ble_eq_true rfl) dX6Xi_9 (fun H locs hP hD hS => ?_)
  have hP : va_P k.1 classes [(h0, .inr (2, [.ref q7, .null, .null, .int 0])), (q7, .inl (k.2.1, 20, .inl z0))] H := hP
  have hD : va_D (va_A [(h0, .inr (2, [.null, .null, .null, .int 0]))] s.heap.size) [(h0, .inr (2, [.ref q7, .null, .null, .int 0])), (q7, .inl (k.2.1, 20, .inl z0))] := hD
  refine lv_aload_n hx hb dX6Xi_12 rfl (lv_at hl 0 rfl) ?_
  refine lv_bipush (v := 20) hx hb dX6Xi_13 (by decide) ?_
  refine nwI (k := k) (N := 20) hx hb (hts (.arrayClass .int) (inT 124 (by decide +kernel) rfl)) hK hP hD hS hA (by decide) (by decide) (by decide) (Nat.le_of_ble_eq_true rfl) (Nat.le_of_ble_eq_true rfl) dX6Xi_15 (fun q15 H hP hD hS => ?_)
  have hP : va_P k.1 classes [(h0, .inr (2, [.ref q7, .null, .null, .int 0])), (q7, .inl (k.2.1, 20, .inl z0)), (q15, .inl (k.2.1, 20, .inl z0))] H := hP
  have hD : va_D (va_A [(h0, .inr (2, [.null, .null, .null, .int 0]))] s.heap.size) [(h0, .inr (2, [.ref q7, .null, .null, .int 0])), (q7, .inl (k.2.1, 20, .inl z0)), (q15, .inl (k.2.1, 20, .inl z0))] := hD
  refine va_putF (D := k.1) (ci := 2) (v := .ref q15) (ty := .array .int) (C := RX2) (T := TX2) (N := 4) hx hb hts ihX2 tyX2 tyX2_ok nmX2 hown hK hP hD hS 0 rfl rfl 1 (by decide) (hts (.fieldLink RX6 15 "TankField$Ledger" "from" "[I") (inT 166 (by decide +kernel) rfl)) (fun _ h9 => h9) rfl hin rfl (by decide +kernel) rfl rfl (Nat.le_of_ble_eq_true rfl) dX6Xi_17 (fun H locs hP hD hS => ?_)
  have hP : va_P k.1 classes [(h0, .inr (2, [.ref q7, .ref q15, .null, .int 0])), (q7, .inl (k.2.1, 20, .inl z0)), (q15, .inl (k.2.1, 20, .inl z0))] H := hP
  have hD : va_D (va_A [(h0, .inr (2, [.null, .null, .null, .int 0]))] s.heap.size) [(h0, .inr (2, [.ref q7, .ref q15, .null, .int 0])), (q7, .inl (k.2.1, 20, .inl z0)), (q15, .inl (k.2.1, 20, .inl z0))] := hD
  refine lv_aload_n hx hb dX6Xi_20 rfl (lv_at hl 0 rfl) ?_
  refine lv_bipush (v := 20) hx hb dX6Xi_21 (by decide) ?_
  refine nwI (k := k) (N := 20) hx hb (hts (.arrayClass .int) (inT 124 (by decide +kernel) rfl)) hK hP hD hS hA (by decide) (by decide) (by decide) (Nat.le_of_ble_eq_true rfl) (Nat.le_of_ble_eq_true rfl) dX6Xi_23 (fun q23 H hP hD hS => ?_)
  have hP : va_P k.1 classes [(h0, .inr (2, [.ref q7, .ref q15, .null, .int 0])), (q7, .inl (k.2.1, 20, .inl z0)), (q15, .inl (k.2.1, 20, .inl z0)), (q23, .inl (k.2.1, 20, .inl z0))] H := hP
  have hD : va_D (va_A [(h0, .inr (2, [.null, .null, .null, .int 0]))] s.heap.size) [(h0, .inr (2, [.ref q7, .ref q15, .null, .int 0])), (q7, .inl (k.2.1, 20, .inl z0)), (q15, .inl (k.2.1, 20, .inl z0)), (q23, .inl (k.2.1, 20, .inl z0))] := hD
  refine va_putF (D := k.1) (ci := 2) (v := .ref q23) (ty := .array .int) (C := RX2) (T := TX2) (N := 4) hx hb hts ihX2 tyX2 tyX2_ok nmX2 hown hK hP hD hS 0 rfl rfl 2 (by decide) (hts (.fieldLink RX6 18 "TankField$Ledger" "value" "[I") (inT 171 (by decide +kernel) rfl)) (fun _ h9 => h9) rfl hin rfl (by decide +kernel) rfl rfl (Nat.le_of_ble_eq_true rfl) dX6Xi_25 (fun H locs hP hD hS => ?_)
  have hP : va_P k.1 classes [(h0, .inr (2, [.ref q7, .ref q15, .ref q23, .int 0])), (q7, .inl (k.2.1, 20, .inl z0)), (q15, .inl (k.2.1, 20, .inl z0)), (q23, .inl (k.2.1, 20, .inl z0))] H := hP
  have hD : va_D (va_A [(h0, .inr (2, [.null, .null, .null, .int 0]))] s.heap.size) [(h0, .inr (2, [.ref q7, .ref q15, .ref q23, .int 0])), (q7, .inl (k.2.1, 20, .inl z0)), (q15, .inl (k.2.1, 20, .inl z0)), (q23, .inl (k.2.1, 20, .inl z0))] := hD
  refine W.widen (k := 3) (n := 60) (Nat.le_of_ble_eq_true rfl) (Nat.le_of_ble_eq_true rfl) ?_
  exact W.vret hx hb hr (fun t ht hW => ⟨⟨(fun j => match nth [q7, q15, q23] j with | some a => a | none => 0), rfl, trivial, by rw [ht]; exact hP, hD⟩, hS.F ht⟩) hS.2.2 dX6Xi_28
theorem dX1i_0 : decode cX1_init 0 = .ok (.aload_n 0, 1) := by decide +kernel
theorem dX1i_1 : decode cX1_init 1 = .ok (.invokespecial 1, 3) := by decide +kernel
theorem dX1i_4 : decode cX1_init 4 = .ok (.return_, 1) := by decide +kernel
def clX1 (k : KK) (h0 : Nat) (u : Nat → Nat) : va_W := clX6c k h0 u
set_option maxRecDepth 100000 in
set_option maxHeartbeats 8000000 in
theorem inX1 (l : Launch) : Ci l yX1_init cX1_init ({ frames := 2, cells := 3, slots := 60, locals := 32 }) 3 60 1 [.null, .null, .null, .int 0] clX1 := by
  intro k h0 sz
  refine Met.ofW (cc := cX1_init) (maxL := 1) (ret := none) (by decide) rfl ?_
  intro p e s m args below meth c s₁ B hml hv
  obtain ⟨rfl, hsz, hP, hK, hN, hD0⟩ := hv
  have hx := B.exec
  have hb := B.bytes
  have hr := B.returns
  have hts1 := atoms_spec (ws := Cond.code yX1_init cX1_init 1 none :: tT) B.pre
  have hts : ∀ w ∈ tT, w.before [Value.ref h0].toArray s = true := fun w hw => hts1 w (List.mem_cons_of_mem _ hw)
  have hown : s.vm.findClass RX1 = some m.cls := findClass_of_methodNamed B.named
  have hlocks := B.notSynchronized
  have hin : meth.name = "<init>" := (name_of_methodNamed B.named B.method).1
  subst hsz
  have hD := hD0.self (sz := s.heap.size)
  have hA : ∀ q : Nat, s.heap.size ≤ q → va_A [(h0, .inr (1, [.null, .null, .null, .int 0]))] s.heap.size q := fun q h => Or.inr h
  have hS : va_S (va_A [(h0, .inr (1, [.null, .null, .null, .int 0]))] s.heap.size) s.heap s.heap [] := va_S.rf
  have hl := lv_entry ([.ref h0]) (n := 1) (Nat.le_of_ble_eq_true rfl)
  rw [lg_entry_eq]
  generalize (lg_sl ([.ref h0]) ++ List.replicate (1 - (lg_sl ([.ref h0])).length) Slot.unset).toArray = ls at hl ⊢
  have hl : lv_has ls 1 [(0, .ref h0)] := hl
  refine lv_aload_n hx hb dX1i_0 rfl (lv_at hl 0 rfl) ?_
  refine initN (ws := []) (rest := []) (host := "TankField") (inX6c l) (inN 157 (by decide +kernel) rfl) (inT 158 (by decide +kernel) rfl) (inT 87 (by decide +kernel) rfl) (inT 159 (by decide +kernel) rfl) rfl (by decide +kernel) ⟨rfl, rfl, Nat.le_of_ble_eq_true rfl, Nat.le_of_ble_eq_true rfl⟩ hx hb hml hown hts hN hK hP hD hS hA hl.1 (Nat.le_of_ble_eq_true rfl) dX1i_1 ⟨Nat.le_of_ble_eq_true rfl, Nat.le_of_ble_eq_true rfl⟩ (fun u1 H locs hP hD hS => ?_)
  refine W.widen (k := 3) (n := 60) (Nat.le_of_ble_eq_true rfl) (Nat.le_of_ble_eq_true rfl) ?_
  exact W.vret hx hb hr (fun t ht hW => ⟨⟨u1, rfl, trivial, by rw [ht]; exact hP, hD⟩, hS.F ht⟩) hS.2.2 dX1i_4
theorem dX2i_0 : decode cX2_init 0 = .ok (.aload_n 0, 1) := by decide +kernel
theorem dX2i_1 : decode cX2_init 1 = .ok (.invokespecial 3, 3) := by decide +kernel
theorem dX2i_4 : decode cX2_init 4 = .ok (.return_, 1) := by decide +kernel
def clX2 (k : KK) (h0 : Nat) (u : Nat → Nat) : va_W := clX6d k h0 u
set_option maxRecDepth 100000 in
set_option maxHeartbeats 8000000 in
theorem inX2 (l : Launch) : Ci l yX2_init cX2_init ({ frames := 2, cells := 3, slots := 60, locals := 32 }) 3 60 2 [.null, .null, .null, .int 0] clX2 := by
  intro k h0 sz
  refine Met.ofW (cc := cX2_init) (maxL := 1) (ret := none) (by decide) rfl ?_
  intro p e s m args below meth c s₁ B hml hv
  obtain ⟨rfl, hsz, hP, hK, hN, hD0⟩ := hv
  have hx := B.exec
  have hb := B.bytes
  have hr := B.returns
  have hts1 := atoms_spec (ws := Cond.code yX2_init cX2_init 1 none :: tT) B.pre
  have hts : ∀ w ∈ tT, w.before [Value.ref h0].toArray s = true := fun w hw => hts1 w (List.mem_cons_of_mem _ hw)
  have hown : s.vm.findClass RX2 = some m.cls := findClass_of_methodNamed B.named
  have hlocks := B.notSynchronized
  have hin : meth.name = "<init>" := (name_of_methodNamed B.named B.method).1
  subst hsz
  have hD := hD0.self (sz := s.heap.size)
  have hA : ∀ q : Nat, s.heap.size ≤ q → va_A [(h0, .inr (2, [.null, .null, .null, .int 0]))] s.heap.size q := fun q h => Or.inr h
  have hS : va_S (va_A [(h0, .inr (2, [.null, .null, .null, .int 0]))] s.heap.size) s.heap s.heap [] := va_S.rf
  have hl := lv_entry ([.ref h0]) (n := 1) (Nat.le_of_ble_eq_true rfl)
  rw [lg_entry_eq]
  generalize (lg_sl ([.ref h0]) ++ List.replicate (1 - (lg_sl ([.ref h0])).length) Slot.unset).toArray = ls at hl ⊢
  have hl : lv_has ls 1 [(0, .ref h0)] := hl
  refine lv_aload_n hx hb dX2i_0 rfl (lv_at hl 0 rfl) ?_
  refine initN (ws := []) (rest := []) (host := "TankField") (inX6d l) (inN 197 (by decide +kernel) rfl) (inT 158 (by decide +kernel) rfl) (inT 87 (by decide +kernel) rfl) (inT 159 (by decide +kernel) rfl) rfl (by decide +kernel) ⟨rfl, rfl, Nat.le_of_ble_eq_true rfl, Nat.le_of_ble_eq_true rfl⟩ hx hb hml hown hts hN hK hP hD hS hA hl.1 (Nat.le_of_ble_eq_true rfl) dX2i_1 ⟨Nat.le_of_ble_eq_true rfl, Nat.le_of_ble_eq_true rfl⟩ (fun u1 H locs hP hD hS => ?_)
  refine W.widen (k := 3) (n := 60) (Nat.le_of_ble_eq_true rfl) (Nat.le_of_ble_eq_true rfl) ?_
  exact W.vret hx hb hr (fun t ht hW => ⟨⟨u1, rfl, trivial, by rw [ht]; exact hP, hD⟩, hS.F ht⟩) hS.2.2 dX2i_4
theorem dX7i_0 : decode cX7_init 0 = .ok (.aload_n 0, 1) := by decide +kernel
theorem dX7i_1 : decode cX7_init 1 = .ok (.invokespecial 3, 3) := by decide +kernel
theorem dX7i_4 : decode cX7_init 4 = .ok (.aload_n 0, 1) := by decide +kernel
theorem dX7i_5 : decode cX7_init 5 = .ok (.iconst 4, 1) := by decide +kernel
theorem dX7i_6 : decode cX7_init 6 = .ok (.newarray .int, 2) := by decide +kernel
theorem dX7i_8 : decode cX7_init 8 = .ok (.dup, 1) := by decide +kernel
theorem dX7i_9 : decode cX7_init 9 = .ok (.iconst 0, 1) := by decide +kernel
theorem dX7i_10 : decode cX7_init 10 = .ok (.iconst (-1), 1) := by decide +kernel
theorem dX7i_11 : decode cX7_init 11 = .ok (.iastore, 1) := by decide +kernel
theorem dX7i_12 : decode cX7_init 12 = .ok (.dup, 1) := by decide +kernel
theorem dX7i_13 : decode cX7_init 13 = .ok (.iconst 1, 1) := by decide +kernel
theorem dX7i_14 : decode cX7_init 14 = .ok (.iconst (-1), 1) := by decide +kernel
theorem dX7i_15 : decode cX7_init 15 = .ok (.iastore, 1) := by decide +kernel
theorem dX7i_16 : decode cX7_init 16 = .ok (.dup, 1) := by decide +kernel
theorem dX7i_17 : decode cX7_init 17 = .ok (.iconst 2, 1) := by decide +kernel
theorem dX7i_18 : decode cX7_init 18 = .ok (.iconst (-1), 1) := by decide +kernel
theorem dX7i_19 : decode cX7_init 19 = .ok (.iastore, 1) := by decide +kernel
theorem dX7i_20 : decode cX7_init 20 = .ok (.dup, 1) := by decide +kernel
theorem dX7i_21 : decode cX7_init 21 = .ok (.iconst 3, 1) := by decide +kernel
theorem dX7i_22 : decode cX7_init 22 = .ok (.iconst (-1), 1) := by decide +kernel
theorem dX7i_23 : decode cX7_init 23 = .ok (.iastore, 1) := by decide +kernel
theorem dX7i_24 : decode cX7_init 24 = .ok (.putfield 9, 3) := by decide +kernel
theorem dX7i_27 : decode cX7_init 27 = .ok (.aload_n 0, 1) := by decide +kernel
theorem dX7i_28 : decode cX7_init 28 = .ok (.iconst 4, 1) := by decide +kernel
theorem dX7i_29 : decode cX7_init 29 = .ok (.newarray .int, 2) := by decide +kernel
theorem dX7i_31 : decode cX7_init 31 = .ok (.putfield 15, 3) := by decide +kernel
theorem dX7i_34 : decode cX7_init 34 = .ok (.aload_n 0, 1) := by decide +kernel
theorem dX7i_35 : decode cX7_init 35 = .ok (.sipush 160, 3) := by decide +kernel
theorem dX7i_38 : decode cX7_init 38 = .ok (.newarray .int, 2) := by decide +kernel
theorem dX7i_40 : decode cX7_init 40 = .ok (.putfield 18, 3) := by decide +kernel
theorem dX7i_43 : decode cX7_init 43 = .ok (.return_, 1) := by decide +kernel
def clX7 (k : KK) (h0 : Nat) (u : Nat → Nat) : va_W := [(h0, .inr (6, [.ref (u 0), .ref (u 1), .ref (u 2)])), (u 0, .inl (k.2.1, 4, .inl (upd (upd (upd (upd z0 (0 : Int32).toNatClampNeg (-1)) (1 : Int32).toNatClampNeg (-1)) (2 : Int32).toNatClampNeg (-1)) (3 : Int32).toNatClampNeg (-1)))), (u 1, .inl (k.2.1, 4, .inl z0)), (u 2, .inl (k.2.1, 160, .inl z0))]
set_option maxRecDepth 100000 in
set_option maxHeartbeats 8000000 in
theorem inX7 (l : Launch) : Ci l yX7_init cX7_init ({ frames := 1, cells := 3, slots := 168, locals := 12 }) 3 168 6 [.null, .null, .null] clX7 := by
  intro k h0 sz
  refine Met.ofW (cc := cX7_init) (maxL := 1) (ret := none) (by decide) rfl ?_
  intro p e s m args below meth c s₁ B hml hv
  obtain ⟨rfl, hsz, hP, hK, hN, hD0⟩ := hv
  have hx := B.exec
  have hb := B.bytes
  have hr := B.returns
  have hts1 := atoms_spec (ws := Cond.code yX7_init cX7_init 1 none :: tT) B.pre
  have hts : ∀ w ∈ tT, w.before [Value.ref h0].toArray s = true := fun w hw => hts1 w (List.mem_cons_of_mem _ hw)
  have hown : s.vm.findClass RX7 = some m.cls := findClass_of_methodNamed B.named
  have hlocks := B.notSynchronized
  have hin : meth.name = "<init>" := (name_of_methodNamed B.named B.method).1
  subst hsz
  have hD := hD0.self (sz := s.heap.size)
  have hA : ∀ q : Nat, s.heap.size ≤ q → va_A [(h0, .inr (6, [.null, .null, .null]))] s.heap.size q := fun q h => Or.inr h
  have hS : va_S (va_A [(h0, .inr (6, [.null, .null, .null]))] s.heap.size) s.heap s.heap [] := va_S.rf
  have hl := lv_entry ([.ref h0]) (n := 1) (Nat.le_of_ble_eq_true rfl)
  rw [lg_entry_eq]
  generalize (lg_sl ([.ref h0]) ++ List.replicate (1 - (lg_sl ([.ref h0])).length) Slot.unset).toArray = ls at hl ⊢
  have hl : lv_has ls 1 [(0, .ref h0)] := hl
  refine lv_aload_n hx hb dX7i_0 rfl (lv_at hl 0 rfl) ?_
  refine W.objInit hx hb hown (hts (.methodLink RX7 3 Lib.objectInit) (inT 208 (by decide +kernel) rfl)) (hts (.instanceMethod Lib.objectInit) (inT 103 (by decide +kernel) rfl)) (hts (.code Lib.objectInit ⟨#[0xb1]⟩ 1 none) (inT 104 (by decide +kernel) rfl)) rfl (by rw [hml]; exact hl.1) rfl dX7i_1 (Nat.le_of_ble_eq_true rfl) (Nat.le_of_ble_eq_true rfl) ?_
  refine W.eq (g2 := F0 m 4 ls []) rfl ?_
  refine lv_aload_n hx hb dX7i_4 rfl (lv_at hl 0 rfl) ?_
  refine lv_iconst (v := 4) hx hb dX7i_5 (by decide) ?_
  refine nwI (k := k) (N := 4) hx hb (hts (.arrayClass .int) (inT 124 (by decide +kernel) rfl)) hK hP hD hS hA (by decide) (by decide) (by decide) (Nat.le_of_ble_eq_true rfl) (Nat.le_of_ble_eq_true rfl) dX7i_6 (fun q6 H hP hD hS => ?_)
  have hP : va_P k.1 classes [(h0, .inr (6, [.null, .null, .null])), (q6, .inl (k.2.1, 4, .inl z0))] H := hP
  have hD : va_D (va_A [(h0, .inr (6, [.null, .null, .null]))] s.heap.size) [(h0, .inr (6, [.null, .null, .null])), (q6, .inl (k.2.1, 4, .inl z0))] := hD
  refine lv_dup hx hb dX7i_8 rfl ?_
  refine lv_iconst (v := 0) hx hb dX7i_9 (by decide) ?_
  refine lv_iconst (v := (-1)) hx hb dX7i_10 (by decide) ?_
  refine va_iast (D := k.1) hx hb hK hP hD hS 1 0 rfl rfl (i := 0) (x := (-1)) (inI (n := 0) (by decide) (by decide)) dX7i_11 (fun H locs hP hD hS => ?_)
  have hP : va_P k.1 classes [(h0, .inr (6, [.null, .null, .null])), (q6, .inl (k.2.1, 4, .inl (upd z0 (0 : Int32).toNatClampNeg (-1))))] H := hP
  have hD : va_D (va_A [(h0, .inr (6, [.null, .null, .null]))] s.heap.size) [(h0, .inr (6, [.null, .null, .null])), (q6, .inl (k.2.1, 4, .inl (upd z0 (0 : Int32).toNatClampNeg (-1))))] := hD
  refine lv_dup hx hb dX7i_12 rfl ?_
  refine lv_iconst (v := 1) hx hb dX7i_13 (by decide) ?_
  refine lv_iconst (v := (-1)) hx hb dX7i_14 (by decide) ?_
  refine va_iast (D := k.1) hx hb hK hP hD hS 1 0 rfl rfl (i := 1) (x := (-1)) (inI (n := 1) (by decide) (by decide)) dX7i_15 (fun H locs hP hD hS => ?_)
  have hP : va_P k.1 classes [(h0, .inr (6, [.null, .null, .null])), (q6, .inl (k.2.1, 4, .inl (upd (upd z0 (0 : Int32).toNatClampNeg (-1)) (1 : Int32).toNatClampNeg (-1))))] H := hP
  have hD : va_D (va_A [(h0, .inr (6, [.null, .null, .null]))] s.heap.size) [(h0, .inr (6, [.null, .null, .null])), (q6, .inl (k.2.1, 4, .inl (upd (upd z0 (0 : Int32).toNatClampNeg (-1)) (1 : Int32).toNatClampNeg (-1))))] := hD
  refine lv_dup hx hb dX7i_16 rfl ?_
  refine lv_iconst (v := 2) hx hb dX7i_17 (by decide) ?_
  refine lv_iconst (v := (-1)) hx hb dX7i_18 (by decide) ?_
  refine va_iast (D := k.1) hx hb hK hP hD hS 1 0 rfl rfl (i := 2) (x := (-1)) (inI (n := 2) (by decide) (by decide)) dX7i_19 (fun H locs hP hD hS => ?_)
  have hP : va_P k.1 classes [(h0, .inr (6, [.null, .null, .null])), (q6, .inl (k.2.1, 4, .inl (upd (upd (upd z0 (0 : Int32).toNatClampNeg (-1)) (1 : Int32).toNatClampNeg (-1)) (2 : Int32).toNatClampNeg (-1))))] H := hP
  have hD : va_D (va_A [(h0, .inr (6, [.null, .null, .null]))] s.heap.size) [(h0, .inr (6, [.null, .null, .null])), (q6, .inl (k.2.1, 4, .inl (upd (upd (upd z0 (0 : Int32).toNatClampNeg (-1)) (1 : Int32).toNatClampNeg (-1)) (2 : Int32).toNatClampNeg (-1))))] := hD
  refine lv_dup hx hb dX7i_20 rfl ?_
  refine lv_iconst (v := 3) hx hb dX7i_21 (by decide) ?_
  refine lv_iconst (v := (-1)) hx hb dX7i_22 (by decide) ?_
  refine va_iast (D := k.1) hx hb hK hP hD hS 1 0 rfl rfl (i := 3) (x := (-1)) (inI (n := 3) (by decide) (by decide)) dX7i_23 (fun H locs hP hD hS => ?_)
  have hP : va_P k.1 classes [(h0, .inr (6, [.null, .null, .null])), (q6, .inl (k.2.1, 4, .inl (upd (upd (upd (upd z0 (0 : Int32).toNatClampNeg (-1)) (1 : Int32).toNatClampNeg (-1)) (2 : Int32).toNatClampNeg (-1)) (3 : Int32).toNatClampNeg (-1))))] H := hP
  have hD : va_D (va_A [(h0, .inr (6, [.null, .null, .null]))] s.heap.size) [(h0, .inr (6, [.null, .null, .null])), (q6, .inl (k.2.1, 4, .inl (upd (upd (upd (upd z0 (0 : Int32).toNatClampNeg (-1)) (1 : Int32).toNatClampNeg (-1)) (2 : Int32).toNatClampNeg (-1)) (3 : Int32).toNatClampNeg (-1))))] := hD
  refine va_putF (D := k.1) (ci := 6) (v := .ref q6) (ty := .array .int) (C := RX7) (T := TX7) (N := 3) hx hb hts ihX7 tyX7 tyX7_ok nmX7 hown hK hP hD hS 0 rfl rfl 0 (by decide) (hts (.fieldLink RX7 9 "TankField$Sheets" "lane" "[I") (inT 209 (by decide +kernel) rfl)) (fun _ h9 => h9) rfl hin rfl (by decide +kernel) rfl rfl (Nat.le_of_ble_eq_true rfl) dX7i_24 (fun H locs hP hD hS => ?_)
  have hP : va_P k.1 classes [(h0, .inr (6, [.ref q6, .null, .null])), (q6, .inl (k.2.1, 4, .inl (upd (upd (upd (upd z0 (0 : Int32).toNatClampNeg (-1)) (1 : Int32).toNatClampNeg (-1)) (2 : Int32).toNatClampNeg (-1)) (3 : Int32).toNatClampNeg (-1))))] H := hP
  have hD : va_D (va_A [(h0, .inr (6, [.null, .null, .null]))] s.heap.size) [(h0, .inr (6, [.ref q6, .null, .null])), (q6, .inl (k.2.1, 4, .inl (upd (upd (upd (upd z0 (0 : Int32).toNatClampNeg (-1)) (1 : Int32).toNatClampNeg (-1)) (2 : Int32).toNatClampNeg (-1)) (3 : Int32).toNatClampNeg (-1))))] := hD
  refine lv_aload_n hx hb dX7i_27 rfl (lv_at hl 0 rfl) ?_
  refine lv_iconst (v := 4) hx hb dX7i_28 (by decide) ?_
  refine nwI (k := k) (N := 4) hx hb (hts (.arrayClass .int) (inT 124 (by decide +kernel) rfl)) hK hP hD hS hA (by decide) (by decide) (by decide) (Nat.le_of_ble_eq_true rfl) (Nat.le_of_ble_eq_true rfl) dX7i_29 (fun q29 H hP hD hS => ?_)
  have hP : va_P k.1 classes [(h0, .inr (6, [.ref q6, .null, .null])), (q6, .inl (k.2.1, 4, .inl (upd (upd (upd (upd z0 (0 : Int32).toNatClampNeg (-1)) (1 : Int32).toNatClampNeg (-1)) (2 : Int32).toNatClampNeg (-1)) (3 : Int32).toNatClampNeg (-1)))), (q29, .inl (k.2.1, 4, .inl z0))] H := hP
  have hD : va_D (va_A [(h0, .inr (6, [.null, .null, .null]))] s.heap.size) [(h0, .inr (6, [.ref q6, .null, .null])), (q6, .inl (k.2.1, 4, .inl (upd (upd (upd (upd z0 (0 : Int32).toNatClampNeg (-1)) (1 : Int32).toNatClampNeg (-1)) (2 : Int32).toNatClampNeg (-1)) (3 : Int32).toNatClampNeg (-1)))), (q29, .inl (k.2.1, 4, .inl z0))] := hD
  refine va_putF (D := k.1) (ci := 6) (v := .ref q29) (ty := .array .int) (C := RX7) (T := TX7) (N := 3) hx hb hts ihX7 tyX7 tyX7_ok nmX7 hown hK hP hD hS 0 rfl rfl 1 (by decide) (hts (.fieldLink RX7 15 "TankField$Sheets" "size" "[I") (inT 211 (by decide +kernel) rfl)) (fun _ h9 => h9) rfl hin rfl (by decide +kernel) rfl rfl (Nat.le_of_ble_eq_true rfl) dX7i_31 (fun H locs hP hD hS => ?_)
  have hP : va_P k.1 classes [(h0, .inr (6, [.ref q6, .ref q29, .null])), (q6, .inl (k.2.1, 4, .inl (upd (upd (upd (upd z0 (0 : Int32).toNatClampNeg (-1)) (1 : Int32).toNatClampNeg (-1)) (2 : Int32).toNatClampNeg (-1)) (3 : Int32).toNatClampNeg (-1)))), (q29, .inl (k.2.1, 4, .inl z0))] H := hP
  have hD : va_D (va_A [(h0, .inr (6, [.null, .null, .null]))] s.heap.size) [(h0, .inr (6, [.ref q6, .ref q29, .null])), (q6, .inl (k.2.1, 4, .inl (upd (upd (upd (upd z0 (0 : Int32).toNatClampNeg (-1)) (1 : Int32).toNatClampNeg (-1)) (2 : Int32).toNatClampNeg (-1)) (3 : Int32).toNatClampNeg (-1)))), (q29, .inl (k.2.1, 4, .inl z0))] := hD
  refine lv_aload_n hx hb dX7i_34 rfl (lv_at hl 0 rfl) ?_
  refine lv_sipush (v := 160) hx hb dX7i_35 (by decide) ?_
  refine nwI (k := k) (N := 160) hx hb (hts (.arrayClass .int) (inT 124 (by decide +kernel) rfl)) hK hP hD hS hA (by decide) (by decide) (by decide) (Nat.le_of_ble_eq_true rfl) (Nat.le_of_ble_eq_true rfl) dX7i_38 (fun q38 H hP hD hS => ?_)
  have hP : va_P k.1 classes [(h0, .inr (6, [.ref q6, .ref q29, .null])), (q6, .inl (k.2.1, 4, .inl (upd (upd (upd (upd z0 (0 : Int32).toNatClampNeg (-1)) (1 : Int32).toNatClampNeg (-1)) (2 : Int32).toNatClampNeg (-1)) (3 : Int32).toNatClampNeg (-1)))), (q29, .inl (k.2.1, 4, .inl z0)), (q38, .inl (k.2.1, 160, .inl z0))] H := hP
  have hD : va_D (va_A [(h0, .inr (6, [.null, .null, .null]))] s.heap.size) [(h0, .inr (6, [.ref q6, .ref q29, .null])), (q6, .inl (k.2.1, 4, .inl (upd (upd (upd (upd z0 (0 : Int32).toNatClampNeg (-1)) (1 : Int32).toNatClampNeg (-1)) (2 : Int32).toNatClampNeg (-1)) (3 : Int32).toNatClampNeg (-1)))), (q29, .inl (k.2.1, 4, .inl z0)), (q38, .inl (k.2.1, 160, .inl z0))] := hD
  refine va_putF (D := k.1) (ci := 6) (v := .ref q38) (ty := .array .int) (C := RX7) (T := TX7) (N := 3) hx hb hts ihX7 tyX7 tyX7_ok nmX7 hown hK hP hD hS 0 rfl rfl 2 (by decide) (hts (.fieldLink RX7 18 "TankField$Sheets" "cells" "[I") (inT 213 (by decide +kernel) rfl)) (fun _ h9 => h9) rfl hin rfl (by decide +kernel) rfl rfl (Nat.le_of_ble_eq_true rfl) dX7i_40 (fun H locs hP hD hS => ?_)
  have hP : va_P k.1 classes [(h0, .inr (6, [.ref q6, .ref q29, .ref q38])), (q6, .inl (k.2.1, 4, .inl (upd (upd (upd (upd z0 (0 : Int32).toNatClampNeg (-1)) (1 : Int32).toNatClampNeg (-1)) (2 : Int32).toNatClampNeg (-1)) (3 : Int32).toNatClampNeg (-1)))), (q29, .inl (k.2.1, 4, .inl z0)), (q38, .inl (k.2.1, 160, .inl z0))] H := hP
  have hD : va_D (va_A [(h0, .inr (6, [.null, .null, .null]))] s.heap.size) [(h0, .inr (6, [.ref q6, .ref q29, .ref q38])), (q6, .inl (k.2.1, 4, .inl (upd (upd (upd (upd z0 (0 : Int32).toNatClampNeg (-1)) (1 : Int32).toNatClampNeg (-1)) (2 : Int32).toNatClampNeg (-1)) (3 : Int32).toNatClampNeg (-1)))), (q29, .inl (k.2.1, 4, .inl z0)), (q38, .inl (k.2.1, 160, .inl z0))] := hD
  refine W.widen (k := 3) (n := 168) (Nat.le_of_ble_eq_true rfl) (Nat.le_of_ble_eq_true rfl) ?_
  exact W.vret hx hb hr (fun t ht hW => ⟨⟨(fun j => match nth [q6, q29, q38] j with | some a => a | none => 0), rfl, trivial, by rw [ht]; exact hP, hD⟩, hS.F ht⟩) hS.2.2 dX7i_43
theorem dX4i_0 : decode cX4_init 0 = .ok (.aload_n 0, 1) := by decide +kernel
theorem dX4i_1 : decode cX4_init 1 = .ok (.invokespecial 3, 3) := by decide +kernel
theorem dX4i_4 : decode cX4_init 4 = .ok (.aload_n 0, 1) := by decide +kernel
theorem dX4i_5 : decode cX4_init 5 = .ok (.sipush 240, 3) := by decide +kernel
theorem dX4i_8 : decode cX4_init 8 = .ok (.newarray .int, 2) := by decide +kernel
theorem dX4i_10 : decode cX4_init 10 = .ok (.putfield 9, 3) := by decide +kernel
theorem dX4i_13 : decode cX4_init 13 = .ok (.aload_n 0, 1) := by decide +kernel
theorem dX4i_14 : decode cX4_init 14 = .ok (.sipush 240, 3) := by decide +kernel
theorem dX4i_17 : decode cX4_init 17 = .ok (.newarray .int, 2) := by decide +kernel
theorem dX4i_19 : decode cX4_init 19 = .ok (.putfield 15, 3) := by decide +kernel
theorem dX4i_22 : decode cX4_init 22 = .ok (.aload_n 0, 1) := by decide +kernel
theorem dX4i_23 : decode cX4_init 23 = .ok (.sipush 240, 3) := by decide +kernel
theorem dX4i_26 : decode cX4_init 26 = .ok (.newarray .int, 2) := by decide +kernel
theorem dX4i_28 : decode cX4_init 28 = .ok (.putfield 18, 3) := by decide +kernel
theorem dX4i_31 : decode cX4_init 31 = .ok (.aload_n 0, 1) := by decide +kernel
theorem dX4i_32 : decode cX4_init 32 = .ok (.sipush 240, 3) := by decide +kernel
theorem dX4i_35 : decode cX4_init 35 = .ok (.newarray .boolean, 2) := by decide +kernel
theorem dX4i_37 : decode cX4_init 37 = .ok (.putfield 21, 3) := by decide +kernel
theorem dX4i_40 : decode cX4_init 40 = .ok (.aload_n 0, 1) := by decide +kernel
theorem dX4i_41 : decode cX4_init 41 = .ok (.sipush 240, 3) := by decide +kernel
theorem dX4i_44 : decode cX4_init 44 = .ok (.newarray .int, 2) := by decide +kernel
theorem dX4i_46 : decode cX4_init 46 = .ok (.putfield 25, 3) := by decide +kernel
theorem dX4i_49 : decode cX4_init 49 = .ok (.aload_n 0, 1) := by decide +kernel
theorem dX4i_50 : decode cX4_init 50 = .ok (.bipush 30, 2) := by decide +kernel
theorem dX4i_52 : decode cX4_init 52 = .ok (.newarray .int, 2) := by decide +kernel
theorem dX4i_54 : decode cX4_init 54 = .ok (.putfield 28, 3) := by decide +kernel
theorem dX4i_57 : decode cX4_init 57 = .ok (.return_, 1) := by decide +kernel
def clX4 (k : KK) (h0 : Nat) (u : Nat → Nat) : va_W := [(h0, .inr (4, [.ref (u 0), .ref (u 1), .ref (u 2), .ref (u 3), .int 0, .ref (u 4), .int 0, .ref (u 5)])), (u 0, .inl (k.2.1, 240, .inl z0)), (u 1, .inl (k.2.1, 240, .inl z0)), (u 2, .inl (k.2.1, 240, .inl z0)), (u 3, .inl (k.2.2.1, 240, .inl z0)), (u 4, .inl (k.2.1, 240, .inl z0)), (u 5, .inl (k.2.1, 30, .inl z0))]
set_option maxRecDepth 100000 in
set_option maxHeartbeats 8000000 in
theorem inX4 (l : Launch) : Ci l yX4_init cX4_init ({ frames := 1, cells := 6, slots := 1230, locals := 12 }) 6 1230 4 [.null, .null, .null, .null, .int 0, .null, .int 0, .null] clX4 := by
  intro k h0 sz
  refine Met.ofW (cc := cX4_init) (maxL := 1) (ret := none) (by decide) rfl ?_
  intro p e s m args below meth c s₁ B hml hv
  obtain ⟨rfl, hsz, hP, hK, hN, hD0⟩ := hv
  have hx := B.exec
  have hb := B.bytes
  have hr := B.returns
  have hts1 := atoms_spec (ws := Cond.code yX4_init cX4_init 1 none :: tT) B.pre
  have hts : ∀ w ∈ tT, w.before [Value.ref h0].toArray s = true := fun w hw => hts1 w (List.mem_cons_of_mem _ hw)
  have hown : s.vm.findClass RX4 = some m.cls := findClass_of_methodNamed B.named
  have hlocks := B.notSynchronized
  have hin : meth.name = "<init>" := (name_of_methodNamed B.named B.method).1
  subst hsz
  have hD := hD0.self (sz := s.heap.size)
  have hA : ∀ q : Nat, s.heap.size ≤ q → va_A [(h0, .inr (4, [.null, .null, .null, .null, .int 0, .null, .int 0, .null]))] s.heap.size q := fun q h => Or.inr h
  have hS : va_S (va_A [(h0, .inr (4, [.null, .null, .null, .null, .int 0, .null, .int 0, .null]))] s.heap.size) s.heap s.heap [] := va_S.rf
  have hl := lv_entry ([.ref h0]) (n := 1) (Nat.le_of_ble_eq_true rfl)
  rw [lg_entry_eq]
  generalize (lg_sl ([.ref h0]) ++ List.replicate (1 - (lg_sl ([.ref h0])).length) Slot.unset).toArray = ls at hl ⊢
  have hl : lv_has ls 1 [(0, .ref h0)] := hl
  refine lv_aload_n hx hb dX4i_0 rfl (lv_at hl 0 rfl) ?_
  refine W.objInit hx hb hown (hts (.methodLink RX4 3 Lib.objectInit) (inT 226 (by decide +kernel) rfl)) (hts (.instanceMethod Lib.objectInit) (inT 103 (by decide +kernel) rfl)) (hts (.code Lib.objectInit ⟨#[0xb1]⟩ 1 none) (inT 104 (by decide +kernel) rfl)) rfl (by rw [hml]; exact hl.1) rfl dX4i_1 (Nat.le_of_ble_eq_true rfl) (Nat.le_of_ble_eq_true rfl) ?_
  refine W.eq (g2 := F0 m 4 ls []) rfl ?_
  refine lv_aload_n hx hb dX4i_4 rfl (lv_at hl 0 rfl) ?_
  refine lv_sipush (v := 240) hx hb dX4i_5 (by decide) ?_
  refine nwI (k := k) (N := 240) hx hb (hts (.arrayClass .int) (inT 124 (by decide +kernel) rfl)) hK hP hD hS hA (by decide) (by decide) (by decide) (Nat.le_of_ble_eq_true rfl) (Nat.le_of_ble_eq_true rfl) dX4i_8 (fun q8 H hP hD hS => ?_)
  have hP : va_P k.1 classes [(h0, .inr (4, [.null, .null, .null, .null, .int 0, .null, .int 0, .null])), (q8, .inl (k.2.1, 240, .inl z0))] H := hP
  have hD : va_D (va_A [(h0, .inr (4, [.null, .null, .null, .null, .int 0, .null, .int 0, .null]))] s.heap.size) [(h0, .inr (4, [.null, .null, .null, .null, .int 0, .null, .int 0, .null])), (q8, .inl (k.2.1, 240, .inl z0))] := hD
  refine va_putF (D := k.1) (ci := 4) (v := .ref q8) (ty := .array .int) (C := RX4) (T := TX4) (N := 8) hx hb hts ihX4 tyX4 tyX4_ok nmX4 hown hK hP hD hS 0 rfl rfl 0 (by decide) (hts (.fieldLink RX4 9 "TankField$Grouping" "hitAt" "[I") (inT 227 (by decide +kernel) rfl)) (fun _ h9 => h9) rfl hin rfl (by decide +kernel) rfl rfl (Nat.le_of_ble_eq_true rfl) dX4i_10 (fun H locs hP hD hS => ?_)
  have hP : va_P k.1 classes [(h0, .inr (4, [.ref q8, .null, .null, .null, .int 0, .null, .int 0, .null])), (q8, .inl (k.2.1, 240, .inl z0))] H := hP
  have hD : va_D (va_A [(h0, .inr (4, [.null, .null, .null, .null, .int 0, .null, .int 0, .null]))] s.heap.size) [(h0, .inr (4, [.ref q8, .null, .null, .null, .int 0, .null, .int 0, .null])), (q8, .inl (k.2.1, 240, .inl z0))] := hD
  refine lv_aload_n hx hb dX4i_13 rfl (lv_at hl 0 rfl) ?_
  refine lv_sipush (v := 240) hx hb dX4i_14 (by decide) ?_
  refine nwI (k := k) (N := 240) hx hb (hts (.arrayClass .int) (inT 124 (by decide +kernel) rfl)) hK hP hD hS hA (by decide) (by decide) (by decide) (Nat.le_of_ble_eq_true rfl) (Nat.le_of_ble_eq_true rfl) dX4i_17 (fun q17 H hP hD hS => ?_)
  have hP : va_P k.1 classes [(h0, .inr (4, [.ref q8, .null, .null, .null, .int 0, .null, .int 0, .null])), (q8, .inl (k.2.1, 240, .inl z0)), (q17, .inl (k.2.1, 240, .inl z0))] H := hP
  have hD : va_D (va_A [(h0, .inr (4, [.null, .null, .null, .null, .int 0, .null, .int 0, .null]))] s.heap.size) [(h0, .inr (4, [.ref q8, .null, .null, .null, .int 0, .null, .int 0, .null])), (q8, .inl (k.2.1, 240, .inl z0)), (q17, .inl (k.2.1, 240, .inl z0))] := hD
  refine va_putF (D := k.1) (ci := 4) (v := .ref q17) (ty := .array .int) (C := RX4) (T := TX4) (N := 8) hx hb hts ihX4 tyX4 tyX4_ok nmX4 hown hK hP hD hS 0 rfl rfl 1 (by decide) (hts (.fieldLink RX4 15 "TankField$Grouping" "tankAt" "[I") (inT 228 (by decide +kernel) rfl)) (fun _ h9 => h9) rfl hin rfl (by decide +kernel) rfl rfl (Nat.le_of_ble_eq_true rfl) dX4i_19 (fun H locs hP hD hS => ?_)
  have hP : va_P k.1 classes [(h0, .inr (4, [.ref q8, .ref q17, .null, .null, .int 0, .null, .int 0, .null])), (q8, .inl (k.2.1, 240, .inl z0)), (q17, .inl (k.2.1, 240, .inl z0))] H := hP
  have hD : va_D (va_A [(h0, .inr (4, [.null, .null, .null, .null, .int 0, .null, .int 0, .null]))] s.heap.size) [(h0, .inr (4, [.ref q8, .ref q17, .null, .null, .int 0, .null, .int 0, .null])), (q8, .inl (k.2.1, 240, .inl z0)), (q17, .inl (k.2.1, 240, .inl z0))] := hD
  refine lv_aload_n hx hb dX4i_22 rfl (lv_at hl 0 rfl) ?_
  refine lv_sipush (v := 240) hx hb dX4i_23 (by decide) ?_
  refine nwI (k := k) (N := 240) hx hb (hts (.arrayClass .int) (inT 124 (by decide +kernel) rfl)) hK hP hD hS hA (by decide) (by decide) (by decide) (Nat.le_of_ble_eq_true rfl) (Nat.le_of_ble_eq_true rfl) dX4i_26 (fun q26 H hP hD hS => ?_)
  have hP : va_P k.1 classes [(h0, .inr (4, [.ref q8, .ref q17, .null, .null, .int 0, .null, .int 0, .null])), (q8, .inl (k.2.1, 240, .inl z0)), (q17, .inl (k.2.1, 240, .inl z0)), (q26, .inl (k.2.1, 240, .inl z0))] H := hP
  have hD : va_D (va_A [(h0, .inr (4, [.null, .null, .null, .null, .int 0, .null, .int 0, .null]))] s.heap.size) [(h0, .inr (4, [.ref q8, .ref q17, .null, .null, .int 0, .null, .int 0, .null])), (q8, .inl (k.2.1, 240, .inl z0)), (q17, .inl (k.2.1, 240, .inl z0)), (q26, .inl (k.2.1, 240, .inl z0))] := hD
  refine va_putF (D := k.1) (ci := 4) (v := .ref q26) (ty := .array .int) (C := RX4) (T := TX4) (N := 8) hx hb hts ihX4 tyX4 tyX4_ok nmX4 hown hK hP hD hS 0 rfl rfl 2 (by decide) (hts (.fieldLink RX4 18 "TankField$Grouping" "timeAt" "[I") (inT 229 (by decide +kernel) rfl)) (fun _ h9 => h9) rfl hin rfl (by decide +kernel) rfl rfl (Nat.le_of_ble_eq_true rfl) dX4i_28 (fun H locs hP hD hS => ?_)
  have hP : va_P k.1 classes [(h0, .inr (4, [.ref q8, .ref q17, .ref q26, .null, .int 0, .null, .int 0, .null])), (q8, .inl (k.2.1, 240, .inl z0)), (q17, .inl (k.2.1, 240, .inl z0)), (q26, .inl (k.2.1, 240, .inl z0))] H := hP
  have hD : va_D (va_A [(h0, .inr (4, [.null, .null, .null, .null, .int 0, .null, .int 0, .null]))] s.heap.size) [(h0, .inr (4, [.ref q8, .ref q17, .ref q26, .null, .int 0, .null, .int 0, .null])), (q8, .inl (k.2.1, 240, .inl z0)), (q17, .inl (k.2.1, 240, .inl z0)), (q26, .inl (k.2.1, 240, .inl z0))] := hD
  refine lv_aload_n hx hb dX4i_31 rfl (lv_at hl 0 rfl) ?_
  refine lv_sipush (v := 240) hx hb dX4i_32 (by decide) ?_
  refine nwB (k := k) (N := 240) hx hb (hts (.arrayClass .boolean) (inT 254 (by decide +kernel) rfl)) hK hP hD hS hA (by decide) (by decide) (by decide) (Nat.le_of_ble_eq_true rfl) (Nat.le_of_ble_eq_true rfl) dX4i_35 (fun q35 H hP hD hS => ?_)
  have hP : va_P k.1 classes [(h0, .inr (4, [.ref q8, .ref q17, .ref q26, .null, .int 0, .null, .int 0, .null])), (q8, .inl (k.2.1, 240, .inl z0)), (q17, .inl (k.2.1, 240, .inl z0)), (q26, .inl (k.2.1, 240, .inl z0)), (q35, .inl (k.2.2.1, 240, .inl z0))] H := hP
  have hD : va_D (va_A [(h0, .inr (4, [.null, .null, .null, .null, .int 0, .null, .int 0, .null]))] s.heap.size) [(h0, .inr (4, [.ref q8, .ref q17, .ref q26, .null, .int 0, .null, .int 0, .null])), (q8, .inl (k.2.1, 240, .inl z0)), (q17, .inl (k.2.1, 240, .inl z0)), (q26, .inl (k.2.1, 240, .inl z0)), (q35, .inl (k.2.2.1, 240, .inl z0))] := hD
  refine va_putF (D := k.1) (ci := 4) (v := .ref q35) (ty := .array .boolean) (C := RX4) (T := TX4) (N := 8) hx hb hts ihX4 tyX4 tyX4_ok nmX4 hown hK hP hD hS 0 rfl rfl 3 (by decide) (hts (.fieldLink RX4 21 "TankField$Grouping" "isTaken" "[Z") (inT 230 (by decide +kernel) rfl)) (fun _ h9 => h9) rfl hin rfl (by decide +kernel) rfl rfl (Nat.le_of_ble_eq_true rfl) dX4i_37 (fun H locs hP hD hS => ?_)
  have hP : va_P k.1 classes [(h0, .inr (4, [.ref q8, .ref q17, .ref q26, .ref q35, .int 0, .null, .int 0, .null])), (q8, .inl (k.2.1, 240, .inl z0)), (q17, .inl (k.2.1, 240, .inl z0)), (q26, .inl (k.2.1, 240, .inl z0)), (q35, .inl (k.2.2.1, 240, .inl z0))] H := hP
  have hD : va_D (va_A [(h0, .inr (4, [.null, .null, .null, .null, .int 0, .null, .int 0, .null]))] s.heap.size) [(h0, .inr (4, [.ref q8, .ref q17, .ref q26, .ref q35, .int 0, .null, .int 0, .null])), (q8, .inl (k.2.1, 240, .inl z0)), (q17, .inl (k.2.1, 240, .inl z0)), (q26, .inl (k.2.1, 240, .inl z0)), (q35, .inl (k.2.2.1, 240, .inl z0))] := hD
  refine lv_aload_n hx hb dX4i_40 rfl (lv_at hl 0 rfl) ?_
  refine lv_sipush (v := 240) hx hb dX4i_41 (by decide) ?_
  refine nwI (k := k) (N := 240) hx hb (hts (.arrayClass .int) (inT 124 (by decide +kernel) rfl)) hK hP hD hS hA (by decide) (by decide) (by decide) (Nat.le_of_ble_eq_true rfl) (Nat.le_of_ble_eq_true rfl) dX4i_44 (fun q44 H hP hD hS => ?_)
  have hP : va_P k.1 classes [(h0, .inr (4, [.ref q8, .ref q17, .ref q26, .ref q35, .int 0, .null, .int 0, .null])), (q8, .inl (k.2.1, 240, .inl z0)), (q17, .inl (k.2.1, 240, .inl z0)), (q26, .inl (k.2.1, 240, .inl z0)), (q35, .inl (k.2.2.1, 240, .inl z0)), (q44, .inl (k.2.1, 240, .inl z0))] H := hP
  have hD : va_D (va_A [(h0, .inr (4, [.null, .null, .null, .null, .int 0, .null, .int 0, .null]))] s.heap.size) [(h0, .inr (4, [.ref q8, .ref q17, .ref q26, .ref q35, .int 0, .null, .int 0, .null])), (q8, .inl (k.2.1, 240, .inl z0)), (q17, .inl (k.2.1, 240, .inl z0)), (q26, .inl (k.2.1, 240, .inl z0)), (q35, .inl (k.2.2.1, 240, .inl z0)), (q44, .inl (k.2.1, 240, .inl z0))] := hD
  refine va_putF (D := k.1) (ci := 4) (v := .ref q44) (ty := .array .int) (C := RX4) (T := TX4) (N := 8) hx hb hts ihX4 tyX4 tyX4_ok nmX4 hown hK hP hD hS 0 rfl rfl 5 (by decide) (hts (.fieldLink RX4 25 "TankField$Grouping" "group" "[I") (inT 234 (by decide +kernel) rfl)) (fun _ h9 => h9) rfl hin rfl (by decide +kernel) rfl rfl (Nat.le_of_ble_eq_true rfl) dX4i_46 (fun H locs hP hD hS => ?_)
  have hP : va_P k.1 classes [(h0, .inr (4, [.ref q8, .ref q17, .ref q26, .ref q35, .int 0, .ref q44, .int 0, .null])), (q8, .inl (k.2.1, 240, .inl z0)), (q17, .inl (k.2.1, 240, .inl z0)), (q26, .inl (k.2.1, 240, .inl z0)), (q35, .inl (k.2.2.1, 240, .inl z0)), (q44, .inl (k.2.1, 240, .inl z0))] H := hP
  have hD : va_D (va_A [(h0, .inr (4, [.null, .null, .null, .null, .int 0, .null, .int 0, .null]))] s.heap.size) [(h0, .inr (4, [.ref q8, .ref q17, .ref q26, .ref q35, .int 0, .ref q44, .int 0, .null])), (q8, .inl (k.2.1, 240, .inl z0)), (q17, .inl (k.2.1, 240, .inl z0)), (q26, .inl (k.2.1, 240, .inl z0)), (q35, .inl (k.2.2.1, 240, .inl z0)), (q44, .inl (k.2.1, 240, .inl z0))] := hD
  refine lv_aload_n hx hb dX4i_49 rfl (lv_at hl 0 rfl) ?_
  refine lv_bipush (v := 30) hx hb dX4i_50 (by decide) ?_
  refine nwI (k := k) (N := 30) hx hb (hts (.arrayClass .int) (inT 124 (by decide +kernel) rfl)) hK hP hD hS hA (by decide) (by decide) (by decide) (Nat.le_of_ble_eq_true rfl) (Nat.le_of_ble_eq_true rfl) dX4i_52 (fun q52 H hP hD hS => ?_)
  have hP : va_P k.1 classes [(h0, .inr (4, [.ref q8, .ref q17, .ref q26, .ref q35, .int 0, .ref q44, .int 0, .null])), (q8, .inl (k.2.1, 240, .inl z0)), (q17, .inl (k.2.1, 240, .inl z0)), (q26, .inl (k.2.1, 240, .inl z0)), (q35, .inl (k.2.2.1, 240, .inl z0)), (q44, .inl (k.2.1, 240, .inl z0)), (q52, .inl (k.2.1, 30, .inl z0))] H := hP
  have hD : va_D (va_A [(h0, .inr (4, [.null, .null, .null, .null, .int 0, .null, .int 0, .null]))] s.heap.size) [(h0, .inr (4, [.ref q8, .ref q17, .ref q26, .ref q35, .int 0, .ref q44, .int 0, .null])), (q8, .inl (k.2.1, 240, .inl z0)), (q17, .inl (k.2.1, 240, .inl z0)), (q26, .inl (k.2.1, 240, .inl z0)), (q35, .inl (k.2.2.1, 240, .inl z0)), (q44, .inl (k.2.1, 240, .inl z0)), (q52, .inl (k.2.1, 30, .inl z0))] := hD
  refine va_putF (D := k.1) (ci := 4) (v := .ref q52) (ty := .array .int) (C := RX4) (T := TX4) (N := 8) hx hb hts ihX4 tyX4 tyX4_ok nmX4 hown hK hP hD hS 0 rfl rfl 7 (by decide) (hts (.fieldLink RX4 28 "TankField$Grouping" "firstOfTank" "[I") (inT 236 (by decide +kernel) rfl)) (fun _ h9 => h9) rfl hin rfl (by decide +kernel) rfl rfl (Nat.le_of_ble_eq_true rfl) dX4i_54 (fun H locs hP hD hS => ?_)
  have hP : va_P k.1 classes [(h0, .inr (4, [.ref q8, .ref q17, .ref q26, .ref q35, .int 0, .ref q44, .int 0, .ref q52])), (q8, .inl (k.2.1, 240, .inl z0)), (q17, .inl (k.2.1, 240, .inl z0)), (q26, .inl (k.2.1, 240, .inl z0)), (q35, .inl (k.2.2.1, 240, .inl z0)), (q44, .inl (k.2.1, 240, .inl z0)), (q52, .inl (k.2.1, 30, .inl z0))] H := hP
  have hD : va_D (va_A [(h0, .inr (4, [.null, .null, .null, .null, .int 0, .null, .int 0, .null]))] s.heap.size) [(h0, .inr (4, [.ref q8, .ref q17, .ref q26, .ref q35, .int 0, .ref q44, .int 0, .ref q52])), (q8, .inl (k.2.1, 240, .inl z0)), (q17, .inl (k.2.1, 240, .inl z0)), (q26, .inl (k.2.1, 240, .inl z0)), (q35, .inl (k.2.2.1, 240, .inl z0)), (q44, .inl (k.2.1, 240, .inl z0)), (q52, .inl (k.2.1, 30, .inl z0))] := hD
  refine W.widen (k := 6) (n := 1230) (Nat.le_of_ble_eq_true rfl) (Nat.le_of_ble_eq_true rfl) ?_
  exact W.vret hx hb hr (fun t ht hW => ⟨⟨(fun j => match nth [q8, q17, q26, q35, q44, q52] j with | some a => a | none => 0), rfl, trivial, by rw [ht]; exact hP, hD⟩, hS.F ht⟩) hS.2.2 dX4i_57
theorem dX3i_0 : decode cX3_init 0 = .ok (.aload_n 0, 1) := by decide +kernel
theorem dX3i_1 : decode cX3_init 1 = .ok (.invokespecial 1, 3) := by decide +kernel
theorem dX3i_4 : decode cX3_init 4 = .ok (.return_, 1) := by decide +kernel
def clX3 (k : KK) (h0 : Nat) (u : Nat → Nat) : va_W := [(h0, .inr (3, [.int 0, .long 0, .long 0, .long 0, .long 0, .long 0, .long 0, .long 0, .long 0, .long 0, .long 0, .long 0, .long 0, .long 0]))]
set_option maxRecDepth 100000 in
set_option maxHeartbeats 8000000 in
theorem inX3 (l : Launch) : Ci l yX3_init cX3_init ({ frames := 1, cells := 0, slots := 0, locals := 12 }) 0 0 3 [.int 0, .long 0, .long 0, .long 0, .long 0, .long 0, .long 0, .long 0, .long 0, .long 0, .long 0, .long 0, .long 0, .long 0] clX3 := by
  intro k h0 sz
  refine Met.ofW (cc := cX3_init) (maxL := 1) (ret := none) (by decide) rfl ?_
  intro p e s m args below meth c s₁ B hml hv
  obtain ⟨rfl, hsz, hP, hK, hN, hD0⟩ := hv
  have hx := B.exec
  have hb := B.bytes
  have hr := B.returns
  have hts1 := atoms_spec (ws := Cond.code yX3_init cX3_init 1 none :: tT) B.pre
  have hts : ∀ w ∈ tT, w.before [Value.ref h0].toArray s = true := fun w hw => hts1 w (List.mem_cons_of_mem _ hw)
  have hown : s.vm.findClass RX3 = some m.cls := findClass_of_methodNamed B.named
  have hlocks := B.notSynchronized
  have hin : meth.name = "<init>" := (name_of_methodNamed B.named B.method).1
  subst hsz
  have hD := hD0.self (sz := s.heap.size)
  have hA : ∀ q : Nat, s.heap.size ≤ q → va_A [(h0, .inr (3, [.int 0, .long 0, .long 0, .long 0, .long 0, .long 0, .long 0, .long 0, .long 0, .long 0, .long 0, .long 0, .long 0, .long 0]))] s.heap.size q := fun q h => Or.inr h
  have hS : va_S (va_A [(h0, .inr (3, [.int 0, .long 0, .long 0, .long 0, .long 0, .long 0, .long 0, .long 0, .long 0, .long 0, .long 0, .long 0, .long 0, .long 0]))] s.heap.size) s.heap s.heap [] := va_S.rf
  have hl := lv_entry ([.ref h0]) (n := 1) (Nat.le_of_ble_eq_true rfl)
  rw [lg_entry_eq]
  generalize (lg_sl ([.ref h0]) ++ List.replicate (1 - (lg_sl ([.ref h0])).length) Slot.unset).toArray = ls at hl ⊢
  have hl : lv_has ls 1 [(0, .ref h0)] := hl
  refine lv_aload_n hx hb dX3i_0 rfl (lv_at hl 0 rfl) ?_
  refine W.objInit hx hb hown (hts (.methodLink RX3 1 Lib.objectInit) (inT 260 (by decide +kernel) rfl)) (hts (.instanceMethod Lib.objectInit) (inT 103 (by decide +kernel) rfl)) (hts (.code Lib.objectInit ⟨#[0xb1]⟩ 1 none) (inT 104 (by decide +kernel) rfl)) rfl (by rw [hml]; exact hl.1) rfl dX3i_1 (Nat.le_of_ble_eq_true rfl) (Nat.le_of_ble_eq_true rfl) ?_
  refine W.eq (g2 := F0 m 4 ls []) rfl ?_
  refine W.widen (k := 0) (n := 0) (Nat.le_of_ble_eq_true rfl) (Nat.le_of_ble_eq_true rfl) ?_
  exact W.vret hx hb hr (fun t ht hW => ⟨⟨(fun _ => 0), rfl, trivial, by rw [ht]; exact hP, hD⟩, hS.F ht⟩) hS.2.2 dX3i_4
theorem dX0i_0 : decode cX0_init 0 = .ok (.aload_n 0, 1) := by decide +kernel
theorem dX0i_1 : decode cX0_init 1 = .ok (.invokespecial 3, 3) := by decide +kernel
theorem dX0i_4 : decode cX0_init 4 = .ok (.aload_n 0, 1) := by decide +kernel
theorem dX0i_5 : decode cX0_init 5 = .ok (.sipush 241, 3) := by decide +kernel
theorem dX0i_8 : decode cX0_init 8 = .ok (.newarray .int, 2) := by decide +kernel
theorem dX0i_10 : decode cX0_init 10 = .ok (.putfield 9, 3) := by decide +kernel
theorem dX0i_13 : decode cX0_init 13 = .ok (.aload_n 0, 1) := by decide +kernel
theorem dX0i_14 : decode cX0_init 14 = .ok (.sipush 240, 3) := by decide +kernel
theorem dX0i_17 : decode cX0_init 17 = .ok (.newarray .int, 2) := by decide +kernel
theorem dX0i_19 : decode cX0_init 19 = .ok (.putfield 15, 3) := by decide +kernel
theorem dX0i_22 : decode cX0_init 22 = .ok (.aload_n 0, 1) := by decide +kernel
theorem dX0i_23 : decode cX0_init 23 = .ok (.sipush 240, 3) := by decide +kernel
theorem dX0i_26 : decode cX0_init 26 = .ok (.newarray .int, 2) := by decide +kernel
theorem dX0i_28 : decode cX0_init 28 = .ok (.putfield 18, 3) := by decide +kernel
theorem dX0i_31 : decode cX0_init 31 = .ok (.aload_n 0, 1) := by decide +kernel
theorem dX0i_32 : decode cX0_init 32 = .ok (.sipush 240, 3) := by decide +kernel
theorem dX0i_35 : decode cX0_init 35 = .ok (.newarray .int, 2) := by decide +kernel
theorem dX0i_37 : decode cX0_init 37 = .ok (.putfield 21, 3) := by decide +kernel
theorem dX0i_40 : decode cX0_init 40 = .ok (.aload_n 0, 1) := by decide +kernel
theorem dX0i_41 : decode cX0_init 41 = .ok (.sipush 240, 3) := by decide +kernel
theorem dX0i_44 : decode cX0_init 44 = .ok (.newarray .int, 2) := by decide +kernel
theorem dX0i_46 : decode cX0_init 46 = .ok (.putfield 24, 3) := by decide +kernel
theorem dX0i_49 : decode cX0_init 49 = .ok (.aload_n 0, 1) := by decide +kernel
theorem dX0i_50 : decode cX0_init 50 = .ok (.getfield 24, 3) := by decide +kernel
theorem dX0i_53 : decode cX0_init 53 = .ok (.bipush (-9), 2) := by decide +kernel
theorem dX0i_55 : decode cX0_init 55 = .ok (.invokestatic 27, 3) := by decide +kernel
theorem dX0i_58 : decode cX0_init 58 = .ok (.return_, 1) := by decide +kernel
def clX0 (k : KK) (h0 : Nat) (u : Nat → Nat) : va_W := [(h0, .inr (0, [.int 0, .ref (u 0), .ref (u 1), .ref (u 2), .ref (u 3), .ref (u 4)])), (u 0, .inl (k.2.1, 241, .inl z0)), (u 1, .inl (k.2.1, 240, .inl z0)), (u 2, .inl (k.2.1, 240, .inl z0)), (u 3, .inl (k.2.1, 240, .inl z0)), (u 4, .inl (k.2.1, 240, .inl (fillF z0 240 (-9))))]
set_option maxRecDepth 100000 in
set_option maxHeartbeats 8000000 in
theorem inX0 (l : Launch) : Ci l yX0_init cX0_init ({ frames := 1, cells := 5, slots := 1201, locals := 23 }) 5 1201 0 [.int 0, .null, .null, .null, .null, .null] clX0 := by
  intro k h0 sz
  refine Met.ofW (cc := cX0_init) (maxL := 1) (ret := none) (by decide) rfl ?_
  intro p e s m args below meth c s₁ B hml hv
  obtain ⟨rfl, hsz, hP, hK, hN, hD0⟩ := hv
  have hx := B.exec
  have hb := B.bytes
  have hr := B.returns
  have hts1 := atoms_spec (ws := Cond.code yX0_init cX0_init 1 none :: tT) B.pre
  have hts : ∀ w ∈ tT, w.before [Value.ref h0].toArray s = true := fun w hw => hts1 w (List.mem_cons_of_mem _ hw)
  have hown : s.vm.findClass RX0 = some m.cls := findClass_of_methodNamed B.named
  have hlocks := B.notSynchronized
  have hin : meth.name = "<init>" := (name_of_methodNamed B.named B.method).1
  subst hsz
  have hD := hD0.self (sz := s.heap.size)
  have hA : ∀ q : Nat, s.heap.size ≤ q → va_A [(h0, .inr (0, [.int 0, .null, .null, .null, .null, .null]))] s.heap.size q := fun q h => Or.inr h
  have hS : va_S (va_A [(h0, .inr (0, [.int 0, .null, .null, .null, .null, .null]))] s.heap.size) s.heap s.heap [] := va_S.rf
  have hl := lv_entry ([.ref h0]) (n := 1) (Nat.le_of_ble_eq_true rfl)
  rw [lg_entry_eq]
  generalize (lg_sl ([.ref h0]) ++ List.replicate (1 - (lg_sl ([.ref h0])).length) Slot.unset).toArray = ls at hl ⊢
  have hl : lv_has ls 1 [(0, .ref h0)] := hl
  refine lv_aload_n hx hb dX0i_0 rfl (lv_at hl 0 rfl) ?_
  refine W.objInit hx hb hown (hts (.methodLink RX0 3 Lib.objectInit) (inT 313 (by decide +kernel) rfl)) (hts (.instanceMethod Lib.objectInit) (inT 103 (by decide +kernel) rfl)) (hts (.code Lib.objectInit ⟨#[0xb1]⟩ 1 none) (inT 104 (by decide +kernel) rfl)) rfl (by rw [hml]; exact hl.1) rfl dX0i_1 (Nat.le_of_ble_eq_true rfl) (Nat.le_of_ble_eq_true rfl) ?_
  refine W.eq (g2 := F0 m 4 ls []) rfl ?_
  refine lv_aload_n hx hb dX0i_4 rfl (lv_at hl 0 rfl) ?_
  refine lv_sipush (v := 241) hx hb dX0i_5 (by decide) ?_
  refine nwI (k := k) (N := 241) hx hb (hts (.arrayClass .int) (inT 124 (by decide +kernel) rfl)) hK hP hD hS hA (by decide) (by decide) (by decide) (Nat.le_of_ble_eq_true rfl) (Nat.le_of_ble_eq_true rfl) dX0i_8 (fun q8 H hP hD hS => ?_)
  have hP : va_P k.1 classes [(h0, .inr (0, [.int 0, .null, .null, .null, .null, .null])), (q8, .inl (k.2.1, 241, .inl z0))] H := hP
  have hD : va_D (va_A [(h0, .inr (0, [.int 0, .null, .null, .null, .null, .null]))] s.heap.size) [(h0, .inr (0, [.int 0, .null, .null, .null, .null, .null])), (q8, .inl (k.2.1, 241, .inl z0))] := hD
  refine va_putF (D := k.1) (ci := 0) (v := .ref q8) (ty := .array .int) (C := RX0) (T := TX0) (N := 6) hx hb hts ihX0 tyX0 tyX0_ok nmX0 hown hK hP hD hS 0 rfl rfl 1 (by decide) (hts (.fieldLink RX0 9 "TankField$Building" "start" "[I") (inT 319 (by decide +kernel) rfl)) (fun _ h9 => h9) rfl hin rfl (by decide +kernel) rfl rfl (Nat.le_of_ble_eq_true rfl) dX0i_10 (fun H locs hP hD hS => ?_)
  have hP : va_P k.1 classes [(h0, .inr (0, [.int 0, .ref q8, .null, .null, .null, .null])), (q8, .inl (k.2.1, 241, .inl z0))] H := hP
  have hD : va_D (va_A [(h0, .inr (0, [.int 0, .null, .null, .null, .null, .null]))] s.heap.size) [(h0, .inr (0, [.int 0, .ref q8, .null, .null, .null, .null])), (q8, .inl (k.2.1, 241, .inl z0))] := hD
  refine lv_aload_n hx hb dX0i_13 rfl (lv_at hl 0 rfl) ?_
  refine lv_sipush (v := 240) hx hb dX0i_14 (by decide) ?_
  refine nwI (k := k) (N := 240) hx hb (hts (.arrayClass .int) (inT 124 (by decide +kernel) rfl)) hK hP hD hS hA (by decide) (by decide) (by decide) (Nat.le_of_ble_eq_true rfl) (Nat.le_of_ble_eq_true rfl) dX0i_17 (fun q17 H hP hD hS => ?_)
  have hP : va_P k.1 classes [(h0, .inr (0, [.int 0, .ref q8, .null, .null, .null, .null])), (q8, .inl (k.2.1, 241, .inl z0)), (q17, .inl (k.2.1, 240, .inl z0))] H := hP
  have hD : va_D (va_A [(h0, .inr (0, [.int 0, .null, .null, .null, .null, .null]))] s.heap.size) [(h0, .inr (0, [.int 0, .ref q8, .null, .null, .null, .null])), (q8, .inl (k.2.1, 241, .inl z0)), (q17, .inl (k.2.1, 240, .inl z0))] := hD
  refine va_putF (D := k.1) (ci := 0) (v := .ref q17) (ty := .array .int) (C := RX0) (T := TX0) (N := 6) hx hb hts ihX0 tyX0 tyX0_ok nmX0 hown hK hP hD hS 0 rfl rfl 2 (by decide) (hts (.fieldLink RX0 15 "TankField$Building" "groupSize" "[I") (inT 321 (by decide +kernel) rfl)) (fun _ h9 => h9) rfl hin rfl (by decide +kernel) rfl rfl (Nat.le_of_ble_eq_true rfl) dX0i_19 (fun H locs hP hD hS => ?_)
  have hP : va_P k.1 classes [(h0, .inr (0, [.int 0, .ref q8, .ref q17, .null, .null, .null])), (q8, .inl (k.2.1, 241, .inl z0)), (q17, .inl (k.2.1, 240, .inl z0))] H := hP
  have hD : va_D (va_A [(h0, .inr (0, [.int 0, .null, .null, .null, .null, .null]))] s.heap.size) [(h0, .inr (0, [.int 0, .ref q8, .ref q17, .null, .null, .null])), (q8, .inl (k.2.1, 241, .inl z0)), (q17, .inl (k.2.1, 240, .inl z0))] := hD
  refine lv_aload_n hx hb dX0i_22 rfl (lv_at hl 0 rfl) ?_
  refine lv_sipush (v := 240) hx hb dX0i_23 (by decide) ?_
  refine nwI (k := k) (N := 240) hx hb (hts (.arrayClass .int) (inT 124 (by decide +kernel) rfl)) hK hP hD hS hA (by decide) (by decide) (by decide) (Nat.le_of_ble_eq_true rfl) (Nat.le_of_ble_eq_true rfl) dX0i_26 (fun q26 H hP hD hS => ?_)
  have hP : va_P k.1 classes [(h0, .inr (0, [.int 0, .ref q8, .ref q17, .null, .null, .null])), (q8, .inl (k.2.1, 241, .inl z0)), (q17, .inl (k.2.1, 240, .inl z0)), (q26, .inl (k.2.1, 240, .inl z0))] H := hP
  have hD : va_D (va_A [(h0, .inr (0, [.int 0, .null, .null, .null, .null, .null]))] s.heap.size) [(h0, .inr (0, [.int 0, .ref q8, .ref q17, .null, .null, .null])), (q8, .inl (k.2.1, 241, .inl z0)), (q17, .inl (k.2.1, 240, .inl z0)), (q26, .inl (k.2.1, 240, .inl z0))] := hD
  refine va_putF (D := k.1) (ci := 0) (v := .ref q26) (ty := .array .int) (C := RX0) (T := TX0) (N := 6) hx hb hts ihX0 tyX0 tyX0_ok nmX0 hown hK hP hD hS 0 rfl rfl 3 (by decide) (hts (.fieldLink RX0 18 "TankField$Building" "memberHit" "[I") (inT 323 (by decide +kernel) rfl)) (fun _ h9 => h9) rfl hin rfl (by decide +kernel) rfl rfl (Nat.le_of_ble_eq_true rfl) dX0i_28 (fun H locs hP hD hS => ?_)
  have hP : va_P k.1 classes [(h0, .inr (0, [.int 0, .ref q8, .ref q17, .ref q26, .null, .null])), (q8, .inl (k.2.1, 241, .inl z0)), (q17, .inl (k.2.1, 240, .inl z0)), (q26, .inl (k.2.1, 240, .inl z0))] H := hP
  have hD : va_D (va_A [(h0, .inr (0, [.int 0, .null, .null, .null, .null, .null]))] s.heap.size) [(h0, .inr (0, [.int 0, .ref q8, .ref q17, .ref q26, .null, .null])), (q8, .inl (k.2.1, 241, .inl z0)), (q17, .inl (k.2.1, 240, .inl z0)), (q26, .inl (k.2.1, 240, .inl z0))] := hD
  refine lv_aload_n hx hb dX0i_31 rfl (lv_at hl 0 rfl) ?_
  refine lv_sipush (v := 240) hx hb dX0i_32 (by decide) ?_
  refine nwI (k := k) (N := 240) hx hb (hts (.arrayClass .int) (inT 124 (by decide +kernel) rfl)) hK hP hD hS hA (by decide) (by decide) (by decide) (Nat.le_of_ble_eq_true rfl) (Nat.le_of_ble_eq_true rfl) dX0i_35 (fun q35 H hP hD hS => ?_)
  have hP : va_P k.1 classes [(h0, .inr (0, [.int 0, .ref q8, .ref q17, .ref q26, .null, .null])), (q8, .inl (k.2.1, 241, .inl z0)), (q17, .inl (k.2.1, 240, .inl z0)), (q26, .inl (k.2.1, 240, .inl z0)), (q35, .inl (k.2.1, 240, .inl z0))] H := hP
  have hD : va_D (va_A [(h0, .inr (0, [.int 0, .null, .null, .null, .null, .null]))] s.heap.size) [(h0, .inr (0, [.int 0, .ref q8, .ref q17, .ref q26, .null, .null])), (q8, .inl (k.2.1, 241, .inl z0)), (q17, .inl (k.2.1, 240, .inl z0)), (q26, .inl (k.2.1, 240, .inl z0)), (q35, .inl (k.2.1, 240, .inl z0))] := hD
  refine va_putF (D := k.1) (ci := 0) (v := .ref q35) (ty := .array .int) (C := RX0) (T := TX0) (N := 6) hx hb hts ihX0 tyX0 tyX0_ok nmX0 hown hK hP hD hS 0 rfl rfl 4 (by decide) (hts (.fieldLink RX0 21 "TankField$Building" "memberTime" "[I") (inT 325 (by decide +kernel) rfl)) (fun _ h9 => h9) rfl hin rfl (by decide +kernel) rfl rfl (Nat.le_of_ble_eq_true rfl) dX0i_37 (fun H locs hP hD hS => ?_)
  have hP : va_P k.1 classes [(h0, .inr (0, [.int 0, .ref q8, .ref q17, .ref q26, .ref q35, .null])), (q8, .inl (k.2.1, 241, .inl z0)), (q17, .inl (k.2.1, 240, .inl z0)), (q26, .inl (k.2.1, 240, .inl z0)), (q35, .inl (k.2.1, 240, .inl z0))] H := hP
  have hD : va_D (va_A [(h0, .inr (0, [.int 0, .null, .null, .null, .null, .null]))] s.heap.size) [(h0, .inr (0, [.int 0, .ref q8, .ref q17, .ref q26, .ref q35, .null])), (q8, .inl (k.2.1, 241, .inl z0)), (q17, .inl (k.2.1, 240, .inl z0)), (q26, .inl (k.2.1, 240, .inl z0)), (q35, .inl (k.2.1, 240, .inl z0))] := hD
  refine lv_aload_n hx hb dX0i_40 rfl (lv_at hl 0 rfl) ?_
  refine lv_sipush (v := 240) hx hb dX0i_41 (by decide) ?_
  refine nwI (k := k) (N := 240) hx hb (hts (.arrayClass .int) (inT 124 (by decide +kernel) rfl)) hK hP hD hS hA (by decide) (by decide) (by decide) (Nat.le_of_ble_eq_true rfl) (Nat.le_of_ble_eq_true rfl) dX0i_44 (fun q44 H hP hD hS => ?_)
  have hP : va_P k.1 classes [(h0, .inr (0, [.int 0, .ref q8, .ref q17, .ref q26, .ref q35, .null])), (q8, .inl (k.2.1, 241, .inl z0)), (q17, .inl (k.2.1, 240, .inl z0)), (q26, .inl (k.2.1, 240, .inl z0)), (q35, .inl (k.2.1, 240, .inl z0)), (q44, .inl (k.2.1, 240, .inl z0))] H := hP
  have hD : va_D (va_A [(h0, .inr (0, [.int 0, .null, .null, .null, .null, .null]))] s.heap.size) [(h0, .inr (0, [.int 0, .ref q8, .ref q17, .ref q26, .ref q35, .null])), (q8, .inl (k.2.1, 241, .inl z0)), (q17, .inl (k.2.1, 240, .inl z0)), (q26, .inl (k.2.1, 240, .inl z0)), (q35, .inl (k.2.1, 240, .inl z0)), (q44, .inl (k.2.1, 240, .inl z0))] := hD
  refine va_putF (D := k.1) (ci := 0) (v := .ref q44) (ty := .array .int) (C := RX0) (T := TX0) (N := 6) hx hb hts ihX0 tyX0 tyX0_ok nmX0 hown hK hP hD hS 0 rfl rfl 5 (by decide) (hts (.fieldLink RX0 24 "TankField$Building" "eventOf" "[I") (inT 327 (by decide +kernel) rfl)) (fun _ h9 => h9) rfl hin rfl (by decide +kernel) rfl rfl (Nat.le_of_ble_eq_true rfl) dX0i_46 (fun H locs hP hD hS => ?_)
  have hP : va_P k.1 classes [(h0, .inr (0, [.int 0, .ref q8, .ref q17, .ref q26, .ref q35, .ref q44])), (q8, .inl (k.2.1, 241, .inl z0)), (q17, .inl (k.2.1, 240, .inl z0)), (q26, .inl (k.2.1, 240, .inl z0)), (q35, .inl (k.2.1, 240, .inl z0)), (q44, .inl (k.2.1, 240, .inl z0))] H := hP
  have hD : va_D (va_A [(h0, .inr (0, [.int 0, .null, .null, .null, .null, .null]))] s.heap.size) [(h0, .inr (0, [.int 0, .ref q8, .ref q17, .ref q26, .ref q35, .ref q44])), (q8, .inl (k.2.1, 241, .inl z0)), (q17, .inl (k.2.1, 240, .inl z0)), (q26, .inl (k.2.1, 240, .inl z0)), (q35, .inl (k.2.1, 240, .inl z0)), (q44, .inl (k.2.1, 240, .inl z0))] := hD
  refine lv_aload_n hx hb dX0i_49 rfl (lv_at hl 0 rfl) ?_
  refine va_get (D := k.1) (ci := 0) (v := .ref q44) (C := RX0) (T := TX0) (N := 6) hx hb hts ihX0 hown hK hP 0 rfl rfl 5 (by decide) (hts (.fieldLink RX0 24 "TankField$Building" "eventOf" "[I") (inT 327 (by decide +kernel) rfl)) (fun _ h9 => h9) rfl dX0i_50 ?_
  refine lv_bipush (v := (-9)) hx hb dX0i_53 (by decide) ?_
  refine fillCall (ws := [(h0, .inr (0, [.int 0, .ref q8, .ref q17, .ref q26, .ref q35, .ref q44])), (q8, .inl (k.2.1, 241, .inl z0)), (q17, .inl (k.2.1, 240, .inl z0)), (q26, .inl (k.2.1, 240, .inl z0)), (q35, .inl (k.2.1, 240, .inl z0))]) (rest := []) (inT 314 (by decide +kernel) rfl) ⟨Nat.le_of_ble_eq_true rfl, Nat.le_of_ble_eq_true rfl⟩ hx hb hml hown hts (n := 240) (v := (-9)) (by decide) hK hP hD hS hA hl.1 (Nat.le_of_ble_eq_true rfl) dX0i_55 ⟨Nat.le_of_ble_eq_true rfl, Nat.le_of_ble_eq_true rfl⟩ (fun H locs hP hD hS => ?_)
  have hP : va_P k.1 classes [(h0, .inr (0, [.int 0, .ref q8, .ref q17, .ref q26, .ref q35, .ref q44])), (q8, .inl (k.2.1, 241, .inl z0)), (q17, .inl (k.2.1, 240, .inl z0)), (q26, .inl (k.2.1, 240, .inl z0)), (q35, .inl (k.2.1, 240, .inl z0)), (q44, .inl (k.2.1, 240, .inl (fillF z0 240 (-9))))] H := hP
  have hD : va_D (va_A [(h0, .inr (0, [.int 0, .null, .null, .null, .null, .null]))] s.heap.size) [(h0, .inr (0, [.int 0, .ref q8, .ref q17, .ref q26, .ref q35, .ref q44])), (q8, .inl (k.2.1, 241, .inl z0)), (q17, .inl (k.2.1, 240, .inl z0)), (q26, .inl (k.2.1, 240, .inl z0)), (q35, .inl (k.2.1, 240, .inl z0)), (q44, .inl (k.2.1, 240, .inl (fillF z0 240 (-9))))] := hD
  refine W.widen (k := 5) (n := 1201) (Nat.le_of_ble_eq_true rfl) (Nat.le_of_ble_eq_true rfl) ?_
  exact W.vret hx hb hr (fun t ht hW => ⟨⟨(fun j => match nth [q8, q17, q26, q35, q44] j with | some a => a | none => 0), rfl, trivial, by rw [ht]; exact hP, hD⟩, hS.F ht⟩) hS.2.2 dX0i_58
