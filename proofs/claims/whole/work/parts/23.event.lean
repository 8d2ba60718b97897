def csX9_event : Cs := [(208, 1, true, spX0_has), (209, 1, true, spX0_sizeOf), (212, 1, true, spX0_leastTimeOf), (215, 1, true, spX0_greatestTimeOf), (221, 1, true, spX9_isSure)]
def spX9_event : SP := G [(2, [0]), (0, []), (0, [])] (slf 3 pgX9_event csX9_event lcX9 false 41)
theorem bdX9_event : Body 3 pgX9_event roM csX9_event lcX9 false spX9_event := Body.slf
theorem mnX9_event : Mono spX9_event := Mono.slf (csM_cons mnX0_has (csM_cons mnX0_sizeOf (csM_cons mnX0_leastTimeOf (csM_cons mnX0_greatestTimeOf (csM_cons mnX9_isSure csM_nil)))))
def csX10_event : Cs := [(138, 1, true, spX10_kindOf), (195, 1, true, spX10_isEvent), (198, 1, true, spX10_leastTime)]
def evM (σ : Mem) (e w : Int32) : Int32 := if ¬ (0 ≤ e ∧ e < gI σ 42 30) then -1 else if w = 0 then gI σ 65 (rI (e + 1)) - gI σ 65 (rI e) else if w = 1 then leastF (gI σ 67) (sB σ 65 e) (nB σ 65 e) else if w = 2 then grF (gI σ 67) (sB σ 65 e) (nB σ 65 e) else if w = 3 then gI σ 68 (rI e) else if w = 4 then sureF (fun p => kdM (gI σ 47 (rI (gI σ 66 p))) (gI σ 48 (rI (gI σ 66 p)))) (sB σ 65 e) (nB σ 65 e) else -2
def spX10_event : SP := G [(2, [42]), (0, []), (0, [])] (spV (fun vs σ => match vs with
  | [_, .int a1, .int a2] => 0 ≤ a1 ∧ a1 < gI σ 42 30 → okB σ 65 (a1) ∧ ∀ i, i < nB σ 65 (a1) → vp_in (gI σ 66 (sB σ 65 (a1) + i)) 240
  | _ => True) (fun vs σ => match vs with
  | [_, .int a1, .int a2] => (some (.int (evM σ (a1) (a2))), σ)
  | _ => (none, σ)))
theorem mnX10_event : Mono spX10_event := Mono.spV
set_option maxHeartbeats 4000000 in
theorem bdX10_event : Body 6 pgX10_event roM csX10_event lcX10 false spX10_event := by
  intro vs σ K h Ok hst
  obtain ⟨hs, hp, hk⟩ := h
  obtain ⟨vs, rfl, hs1⟩ := shpR1 hs
  obtain ⟨e, vs, rfl, hs2⟩ := shpI hs1
  obtain ⟨w, vs, rfl, hs3⟩ := shpI hs2
  cases shpN hs3
  have hk : K (some (.int (evM σ e w))) σ := hk
  have hp : 0 ≤ e ∧ e < gI σ 42 30 → okB σ 65 e ∧ ∀ i, i < nB σ 65 e → vp_in (gI σ 66 (sB σ 65 e + i)) 240 := hp
  refine hst [37, 74] 80 _ _ _ _ ?_
  refine c4 (Nat.le_of_ble_eq_true rfl) rfl trivial (brb (fun q1 => ?_) (fun q1 => ?_))
  · obtain ⟨ok, hv⟩ := hp q1
    have ok' := ok
    obtain ⟨o1, o1', o2, o3, o4, o5, o6⟩ := ok
    refine And.intro (fun w0 => ?_) (fun w0 => And.intro (fun w1 => ?_) (fun w1 => And.intro (fun w2 => ?_) (fun w2 => And.intro (fun w3 => ?_) (fun w3 => And.intro (fun w4 => ?_) (fun w4 => ?_)))))
    · exact And.intro o2 (And.intro o1' (K_int (by rw [evM, if_neg (fun z => z q1), if_pos w0]) hk))
    · exact c4 (Nat.le_of_ble_eq_true rfl) rfl ok' (K_int (by rw [evM, if_neg (fun z => z q1), if_neg w0, if_pos w1]) hk)
    · rw [evM, if_neg (fun z => z q1), if_neg w0, if_neg w1, if_pos w2] at hk
      generalize sB σ 65 e = s at o3 o4 o5 hk hv
      generalize nB σ 65 e = n at o4 o5 o6 hk hv
      have loop : ∀ d i, i + d = n → Ok 37 [some (.ref 42), some (.int e), some (.int w), some (.int (grF (gI σ 67) s i)), some (.int (nI (s + i))), none] [] σ := by
        intro d
        induction d with
        | zero =>
          intro i hi
          refine hst [37] 40 _ _ _ _ ?_
          refine And.intro o2 (br_t (by rw [o4]; exact nI_le (by omega) (by omega)) ?_)
          have : i = n := by omega
          subst this
          exact hk
        | succ d ih =>
          intro i hi
          have ih := ih (i + 1) (by omega)
          rw [← Nat.add_assoc, ← nI_1] at ih
          have hr : rI (nI (s + i)) = s + i := rI_nI (by omega)
          have nlt : ¬ gI σ 65 (rI (e + 1)) ≤ nI (s + i) := by rw [o4]; exact nI_ge (by omega) (by omega)
          have hin : vp_in (nI (s + i)) 240 := inI (by omega) (by decide)
          have nx : ∀ v, v = grF (gI σ 67) s (i + 1) → Ok 37 [some (.ref 42), some (.int e), some (.int w), some (.int v), some (.int (nI (s + i) + 1)), none] [] σ := fun v hv => by rw [hv]; exact ih
          refine hst [37] 40 _ _ _ _ ?_
          refine And.intro o2 (br_f nlt (And.intro hin (And.intro (fun c => ?_) (fun c => And.intro hin ?_))))
          · rw [hr] at c
            exact nx _ (if_neg (Int32.not_lt.mpr c)).symm
          · rw [hr] at c
            refine nx _ ?_
            rw [hr]
            exact (if_pos (Int32.not_le.mp c)).symm
      have hin0 : vp_in (gI σ 65 (rI e)) 240 := by rw [o3]; exact inI (by omega) (by decide)
      have l1 : Ok 37 [some (.ref 42), some (.int e), some (.int w), some (.int (gI σ 67 (rI (gI σ 65 (rI e))))), some (.int (gI σ 65 (rI e))), none] [] σ := by
        rw [o3, rI_nI (by omega)]
        exact loop n 0 (by omega)
      exact And.intro o1' (And.intro hin0 (And.intro o1' l1))
    · exact And.intro o1 (K_int (by rw [evM, if_neg (fun z => z q1), if_neg w0, if_neg w1, if_neg w2, if_pos w3]) hk)
    · rw [evM, if_neg (fun z => z q1), if_neg w0, if_neg w1, if_neg w2, if_neg w3, if_pos w4] at hk
      generalize sB σ 65 e = s at o3 o4 o5 hk hv
      generalize nB σ 65 e = n at o4 o5 o6 hk hv
      have loop : ∀ d i, i + d = n → Ok 74 [some (.ref 42), some (.int e), some (.int w), none, some (.int (sureF (fun p => kdM (gI σ 47 (rI (gI σ 66 p))) (gI σ 48 (rI (gI σ 66 p)))) s i)), some (.int (nI (s + i)))] [] σ := by
        intro d
        induction d with
        | zero =>
          intro i hi
          refine hst [74] 40 _ _ _ _ ?_
          refine And.intro o2 (br_t (by rw [o4]; exact nI_le (by omega) (by omega)) ?_)
          have : i = n := by omega
          subst this
          exact hk
        | succ d ih =>
          intro i hi
          have ih := ih (i + 1) (by omega)
          rw [← Nat.add_assoc, ← nI_1] at ih
          have hr : rI (nI (s + i)) = s + i := rI_nI (by omega)
          have nlt : ¬ gI σ 65 (rI (e + 1)) ≤ nI (s + i) := by rw [o4]; exact nI_ge (by omega) (by omega)
          have hin : vp_in (nI (s + i)) 240 := inI (by omega) (by decide)
          have nx : ∀ v, v = sureF (fun p => kdM (gI σ 47 (rI (gI σ 66 p))) (gI σ 48 (rI (gI σ 66 p)))) s (i + 1) → Ok 74 [some (.ref 42), some (.int e), some (.int w), none, some (.int v), some (.int (nI (s + i) + 1))] [] σ := fun v hv => by rw [hv]; exact ih
          refine hst [74] 40 _ _ _ _ ?_
          refine And.intro o2 (br_f nlt (And.intro hin (c4 (Nat.le_of_ble_eq_true rfl) rfl (by rw [hr]; exact hv i (by omega)) (And.intro (fun c => ?_) (fun c => ?_)))))
          · rw [hr] at c
            exact nx _ (if_neg (Int32.not_le.mpr c)).symm
          · rw [hr] at c
            exact nx _ (if_pos (Int32.not_lt.mp c)).symm
      have l1 : Ok 74 [some (.ref 42), some (.int e), some (.int w), none, some (.int 1), some (.int (gI σ 65 (rI e)))] [] σ := by
        rw [o3]
        exact loop n 0 (by omega)
      exact And.intro o1' l1
    · exact K_int (by rw [evM, if_neg (fun z => z q1), if_neg w0, if_neg w1, if_neg w2, if_neg w3, if_neg w4]) hk
  · exact K_int (by rw [evM, if_pos q1]) hk
def csX10_isMember : Cs := [(195, 1, true, spX10_isEvent)]
def spX10_isMember : SP := G [(2, [42]), (0, []), (0, [])] (spV (fun vs σ => match vs with
  | [_, .int a1, .int a2] => 0 ≤ a1 ∧ a1 < gI σ 42 30 → vp_in (a1 + 1) 241 ∧ vp_in (a1) 241
  | _ => True) (fun vs σ => match vs with
  | [_, .int a1, .int a2] => (some (.int (bI ((0 ≤ a1 ∧ a1 < gI σ 42 30) ∧ 0 ≤ a2 ∧ a2 < gI σ 65 (rI (a1 + 1)) - gI σ 65 (rI (a1))))), σ)
  | _ => (none, σ)))
theorem mnX10_isMember : Mono spX10_isMember := Mono.spV
theorem bdX10_isMember : Body 3 pgX10_isMember roM csX10_isMember lcX10 true spX10_isMember := by
  intro vs σ K h Ok hst
  obtain ⟨hs, hp, hk⟩ := h
  obtain ⟨vs, rfl, hs1⟩ := shpR1 hs
  obtain ⟨e, vs, rfl, hs2⟩ := shpI hs1
  obtain ⟨i, vs, rfl, hs3⟩ := shpI hs2
  cases shpN hs3
  refine hst [] 30 _ _ _ _ ?_
  refine c4 (Nat.le_of_ble_eq_true rfl) rfl trivial (brb (fun q => ?_) (fun q => ?_))
  · refine And.intro (fun q2 => ?_) (fun q2 => ?_)
    · exact And.intro (Or.inl rfl) (K_int (bI_neg (fun z => Int32.not_le.mpr q2 z.2.1)) hk)
    · refine And.intro (hp q).1 (And.intro (hp q).2 (And.intro (fun q3 => ?_) (fun q3 => ?_)))
      · exact And.intro (Or.inl rfl) (K_int (bI_neg (fun z => Int32.not_le.mpr z.2.2 q3)) hk)
      · exact And.intro (Or.inr rfl) (K_int (bI_pos ⟨q, Int32.not_lt.mp q2, Int32.not_le.mp q3⟩) hk)
  · exact And.intro (Or.inl rfl) (K_int (bI_neg (fun z => q z.1)) hk)
def csX9_member : Cs := [(224, 2, true, spX0_hasMember)]
def spX9_member : SP := G [(2, [0]), (0, []), (0, [])] (slf 3 pgX9_member csX9_member lcX9 false 21)
theorem bdX9_member : Body 3 pgX9_member roM csX9_member lcX9 false spX9_member := Body.slf
theorem mnX9_member : Mono spX9_member := Mono.slf (csM_cons mnX0_hasMember csM_nil)
def csX10_member : Cs := [(201, 2, true, spX10_isMember)]
def spX10_member : SP := G [(2, [42]), (0, []), (0, [])] (slf 3 pgX10_member csX10_member lcX10 false 18)
theorem bdX10_member : Body 3 pgX10_member roM csX10_member lcX10 false spX10_member := Body.slf
theorem mnX10_member : Mono spX10_member := Mono.slf (csM_cons mnX10_isMember csM_nil)
/-- what the invariant says of the latest events -/
theorem lat {σ : Mem} {nH : Nat} (hE : IE σ nH) : ∃ (b nE : Nat) (st mh : Nat → Nat), (b = 30 ∨ b = 36) ∧ gP σ = b ∧ EvC σ b nE st mh nH ∧ EvM σ b nE st mh := by
  obtain ⟨b, b', nE, nE', st, mh, st', mh', h1, h2, h3, h4, h5, h6, h7⟩ := hE
  exact ⟨b, nE, st, mh, by omega, h2, h4, h5⟩
theorem hasE {σ : Mem} {b nE : Nat} {st mh : Nat → Nat} {n : Nat} (h : EvC σ b nE st mh n) (hM : EvM σ b nE st mh) (e : Int32) : (0 ≤ e ∧ e ≤ gI σ b 0 - 1) ↔ (0 ≤ e ∧ e < gI σ 42 30) := by
  rw [cn_lt (cn_of h.2.1 h.1 (by decide)).1 (by decide), h.2.1, hM.1]
theorem leastF_congr {f g : Nat → Int32} {s n : Nat} (hn : 0 < n) (h : ∀ i, i < n → f (s + i) = g (s + i)) : leastF f s n = leastF g s n :=
  foldN_congr (by have := h 0 hn; simpa using this) (fun i hi x => by rw [h i hi])
theorem grF_congr {f g : Nat → Int32} {s n : Nat} (hn : 0 < n) (h : ∀ i, i < n → f (s + i) = g (s + i)) : grF f s n = grF g s n :=
  foldN_congr (by have := h 0 hn; simpa using this) (fun i hi x => by rw [h i hi])
theorem sureF_congr {f g : Nat → Int32} {s n : Nat} (h : ∀ i, i < n → f (s + i) = g (s + i)) : sureF f s n = sureF g s n :=
  foldN_congr rfl (fun i hi x => by rw [h i hi])
set_option maxHeartbeats 2000000 in
theorem prEvent {σ : Mem} (h : Inv σ) (e w : Int32) : PRi spX9_event spX10_event [.int e, .int w] σ := by
  have h0 := h
  obtain ⟨nT, nH, nC, nD, ⟨hT, hH, hC, hD⟩, ⟨hS, hR, hX⟩, hE⟩ := h
  obtain ⟨b, nE, st, mh, hb, hgp, hc, hm⟩ := lat hE
  have hn := hH.1
  refine And.intro rfl ?_
  by_cases q1 : 0 ≤ e ∧ e < gI σ 42 30
  · have q1' := (hasE hc hm e).mpr q1
    obtain ⟨k, hk, hw⟩ := idx_of (n := nE) (by rw [← hm.1]; exact q1) (by have := hc.1; omega)
    have hlen := hc.2.2.2.1 k hk
    have hle := hc.le_st (show k + 1 ≤ nE by omega)
    obtain ⟨B1, B2, B3⟩ := hc.okB hk
    obtain ⟨M1, M2, M3⟩ := EvM.okB hc hm hk
    rw [← hw] at B1 B2 B3 M1 M2 M3
    have hp1 : vp_in (e + 1) 241 ∧ vp_in e 241 := ⟨B1.2.2.1, B1.2.1⟩
    have hin : vp_in e 240 := B1.1
    have mem : ∀ i, i < nB σ 65 e → gI σ 66 (sB σ 65 e + i) = nI (mh (st k + i)) ∧ gI σ (b + 3) (st k + i) = nI (mh (st k + i)) ∧ mh (st k + i) < nH ∧ gI σ 67 (st k + i) = gI σ (b + 4) (st k + i) := by
      intro i hi
      rw [M3] at hi
      have h1 := hm.2.2.2.1 (st k + i) (by omega)
      have h2 := hc.2.2.2.2.2.2.1 (st k + i) (by omega)
      rw [M2]
      exact ⟨h1.1, h2.1, h2.2.1, h1.2⟩
    have pre : 0 ≤ e ∧ e < gI σ 42 30 → okB σ 65 e ∧ ∀ i, i < nB σ 65 e → vp_in (gI σ 66 (sB σ 65 e + i)) 240 := by
      refine fun _ => ⟨M1, fun i hi => ?_⟩
      obtain ⟨g1, -, g2, -⟩ := mem i hi
      rw [g1]
      exact inI (by omega) (by decide)
    have preS : okB σ (gP σ + 1) e ∧ (gP σ = 30 ∨ gP σ = 36) ∧ ∀ i, i < nB σ (gP σ + 1) e → vp_in (gI σ (gP σ + 3) (sB σ (gP σ + 1) e + i)) 240 := by
      rw [hgp]
      refine ⟨B1, hb, fun i hi => ?_⟩
      rw [B3, ← M3] at hi
      obtain ⟨-, g1, g2, -⟩ := mem i hi
      rw [B2, g1]
      exact inI (by omega) (by decide)
    have rsz : gI σ 65 (rI (e + 1)) - gI σ 65 (rI e) = gI σ (b + 1) (rI (e + 1)) - gI σ (b + 1) (rI e) := by
      rw [B1.2.2.2.1, B1.2.2.2.2.1, M1.2.2.2.1, M1.2.2.2.2.1, B2, B3, M2, M3]
    have rle : leastF (gI σ 67) (sB σ 65 e) (nB σ 65 e) = leastF (gI σ (b + 4)) (sB σ (b + 1) e) (nB σ (b + 1) e) := by
      rw [M2, M3, B2, B3]
      exact leastF_congr (by omega) (fun i hi => (mem i (by rw [M3]; exact hi)).2.2.2)
    have rgr : grF (gI σ 67) (sB σ 65 e) (nB σ 65 e) = grF (gI σ (b + 4)) (sB σ (b + 1) e) (nB σ (b + 1) e) := by
      rw [M2, M3, B2, B3]
      exact grF_congr (by omega) (fun i hi => (mem i (by rw [M3]; exact hi)).2.2.2)
    have rsu : sureF (fun p => kdM (gI σ 47 (rI (gI σ 66 p))) (gI σ 48 (rI (gI σ 66 p)))) (sB σ 65 e) (nB σ 65 e) = sureF (fun p => kdT (gI σ 7 (rI (gI σ (gP σ + 3) p))) (gI σ 8 (rI (gI σ (gP σ + 3) p)))) (sB σ (gP σ + 1) e) (nB σ (gP σ + 1) e) := by
      rw [hgp, M2, M3, B2, B3]
      refine sureF_congr (fun i hi => ?_)
      obtain ⟨g1, g2, g3, -⟩ := mem i (by rw [M3]; exact hi)
      rw [M2] at g1
      obtain ⟨⟨-, -, a3, a4⟩, ho⟩ := hH.2.2.2 _ g3
      show kdM (gI σ 47 (rI (gI σ 66 (st k + i)))) (gI σ 48 (rI (gI σ 66 (st k + i)))) = kdT (gI σ 7 (rI (gI σ (b + 3) (st k + i)))) (gI σ 8 (rI (gI σ (b + 3) (st k + i))))
      rw [g1, g2, rI_nI (by omega), a3, a4, kd_eq ho]
    have rgs : gI σ 68 (rI e) = gI σ (b + 2) (rI e) := by
      rw [hw, rI_nI (by have := hc.1; omega), hm.2.2.2.2 k hk]
    have e0 : evM σ e 0 = gI σ (b + 1) (rI (e + 1)) - gI σ (b + 1) (rI e) := by rw [evM, if_neg (fun z => z q1), if_pos rfl, rsz]
    have e1 : evM σ e 1 = leastF (gI σ (b + 4)) (sB σ (b + 1) e) (nB σ (b + 1) e) := by rw [evM, if_neg (fun z => z q1), if_neg (by decide), if_pos rfl, rle]
    have e2 : evM σ e 2 = grF (gI σ (b + 4)) (sB σ (b + 1) e) (nB σ (b + 1) e) := by rw [evM, if_neg (fun z => z q1), if_neg (by decide), if_neg (by decide), if_pos rfl, rgr]
    have e3 : evM σ e 3 = gI σ (b + 2) (rI e) := by rw [evM, if_neg (fun z => z q1), if_neg (by decide), if_neg (by decide), if_neg (by decide), if_pos rfl, rgs]
    have e4 : evM σ e 4 = sureF (fun p => kdT (gI σ 7 (rI (gI σ (gP σ + 3) p))) (gI σ 8 (rI (gI σ (gP σ + 3) p)))) (sB σ (gP σ + 1) e) (nB σ (gP σ + 1) e) := by rw [evM, if_neg (fun z => z q1), if_neg (by decide), if_neg (by decide), if_neg (by decide), if_neg (by decide), if_pos rfl, rsu]
    have s01 := sureF_01 (fun p => kdT (gI σ 7 (rI (gI σ (gP σ + 3) p))) (gI σ 8 (rI (gI σ (gP σ + 3) p)))) (sB σ (gP σ + 1) e) (nB σ (gP σ + 1) e)
    obtain ⟨s1, s2, s3, s4⟩ := σ
    have hgp : s3 = b := hgp
    subst hgp
    rcases hb with hb | hb
    · subst hb
      by_cases w0 : w = 0
      · subst w0
        repeat (first
          | refine c5 (Nat.le_of_ble_eq_true rfl) (Nat.le_of_ble_eq_true rfl) rfl trivial (brbT (by first | assumption | decide | exact rfl | exact ne10 | exact ne20 | exact ne30) ?_)
          | refine c5 (Nat.le_of_ble_eq_true rfl) (Nat.le_of_ble_eq_true rfl) rfl trivial (brbF (by first | assumption | decide | exact rfl | exact ne10 | exact ne20 | exact ne30) ?_)
          | refine c4 (Nat.le_of_ble_eq_true rfl) rfl trivial (brbT (by first | assumption | decide | exact rfl | exact ne10 | exact ne20 | exact ne30) ?_)
          | refine c4 (Nat.le_of_ble_eq_true rfl) rfl trivial (brbF (by first | assumption | decide | exact rfl | exact ne10 | exact ne20 | exact ne30) ?_)
          | refine c4 (Nat.le_of_ble_eq_true rfl) (Nat.le_of_ble_eq_true rfl) rfl ?_
          | refine c3 (Nat.le_of_ble_eq_true rfl) rfl ?_
          | refine And.intro (by first | assumption | exact trivial) ?_
          | refine brbT (by first | assumption | decide | exact rfl | exact ne10 | exact ne20 | exact ne30) ?_
          | refine brbF (by first | assumption | decide | exact rfl | exact ne10 | exact ne20 | exact ne30) ?_
          | refine br_t (by first | assumption | decide | exact rfl | exact ne10 | exact ne20 | exact ne30) ?_
          | refine br_f (by first | assumption | decide | exact rfl | exact ne10 | exact ne20 | exact ne30) ?_
          | refine Exists.intro _ (And.intro rfl (And.intro rfl ?_)))
        exact ⟨congrArg (fun z => some (Value.int z)) e0, h0⟩
      by_cases w1 : w = 1
      · subst w1
        repeat (first
          | refine c5 (Nat.le_of_ble_eq_true rfl) (Nat.le_of_ble_eq_true rfl) rfl trivial (brbT (by first | assumption | decide | exact rfl | exact ne10 | exact ne20 | exact ne30) ?_)
          | refine c5 (Nat.le_of_ble_eq_true rfl) (Nat.le_of_ble_eq_true rfl) rfl trivial (brbF (by first | assumption | decide | exact rfl | exact ne10 | exact ne20 | exact ne30) ?_)
          | refine c4 (Nat.le_of_ble_eq_true rfl) rfl trivial (brbT (by first | assumption | decide | exact rfl | exact ne10 | exact ne20 | exact ne30) ?_)
          | refine c4 (Nat.le_of_ble_eq_true rfl) rfl trivial (brbF (by first | assumption | decide | exact rfl | exact ne10 | exact ne20 | exact ne30) ?_)
          | refine c4 (Nat.le_of_ble_eq_true rfl) (Nat.le_of_ble_eq_true rfl) rfl ?_
          | refine c3 (Nat.le_of_ble_eq_true rfl) rfl ?_
          | refine And.intro (by first | assumption | exact trivial) ?_
          | refine brbT (by first | assumption | decide | exact rfl | exact ne10 | exact ne20 | exact ne30) ?_
          | refine brbF (by first | assumption | decide | exact rfl | exact ne10 | exact ne20 | exact ne30) ?_
          | refine br_t (by first | assumption | decide | exact rfl | exact ne10 | exact ne20 | exact ne30) ?_
          | refine br_f (by first | assumption | decide | exact rfl | exact ne10 | exact ne20 | exact ne30) ?_
          | refine Exists.intro _ (And.intro rfl (And.intro rfl ?_)))
        exact ⟨congrArg (fun z => some (Value.int z)) e1, h0⟩
      by_cases w2 : w = 2
      · subst w2
        repeat (first
          | refine c5 (Nat.le_of_ble_eq_true rfl) (Nat.le_of_ble_eq_true rfl) rfl trivial (brbT (by first | assumption | decide | exact rfl | exact ne10 | exact ne20 | exact ne30) ?_)
          | refine c5 (Nat.le_of_ble_eq_true rfl) (Nat.le_of_ble_eq_true rfl) rfl trivial (brbF (by first | assumption | decide | exact rfl | exact ne10 | exact ne20 | exact ne30) ?_)
          | refine c4 (Nat.le_of_ble_eq_true rfl) rfl trivial (brbT (by first | assumption | decide | exact rfl | exact ne10 | exact ne20 | exact ne30) ?_)
          | refine c4 (Nat.le_of_ble_eq_true rfl) rfl trivial (brbF (by first | assumption | decide | exact rfl | exact ne10 | exact ne20 | exact ne30) ?_)
          | refine c4 (Nat.le_of_ble_eq_true rfl) (Nat.le_of_ble_eq_true rfl) rfl ?_
          | refine c3 (Nat.le_of_ble_eq_true rfl) rfl ?_
          | refine And.intro (by first | assumption | exact trivial) ?_
          | refine brbT (by first | assumption | decide | exact rfl | exact ne10 | exact ne20 | exact ne30) ?_
          | refine brbF (by first | assumption | decide | exact rfl | exact ne10 | exact ne20 | exact ne30) ?_
          | refine br_t (by first | assumption | decide | exact rfl | exact ne10 | exact ne20 | exact ne30) ?_
          | refine br_f (by first | assumption | decide | exact rfl | exact ne10 | exact ne20 | exact ne30) ?_
          | refine Exists.intro _ (And.intro rfl (And.intro rfl ?_)))
        exact ⟨congrArg (fun z => some (Value.int z)) e2, h0⟩
      by_cases w3 : w = 3
      · subst w3
        repeat (first
          | refine c5 (Nat.le_of_ble_eq_true rfl) (Nat.le_of_ble_eq_true rfl) rfl trivial (brbT (by first | assumption | decide | exact rfl | exact ne10 | exact ne20 | exact ne30) ?_)
          | refine c5 (Nat.le_of_ble_eq_true rfl) (Nat.le_of_ble_eq_true rfl) rfl trivial (brbF (by first | assumption | decide | exact rfl | exact ne10 | exact ne20 | exact ne30) ?_)
          | refine c4 (Nat.le_of_ble_eq_true rfl) rfl trivial (brbT (by first | assumption | decide | exact rfl | exact ne10 | exact ne20 | exact ne30) ?_)
          | refine c4 (Nat.le_of_ble_eq_true rfl) rfl trivial (brbF (by first | assumption | decide | exact rfl | exact ne10 | exact ne20 | exact ne30) ?_)
          | refine c4 (Nat.le_of_ble_eq_true rfl) (Nat.le_of_ble_eq_true rfl) rfl ?_
          | refine c3 (Nat.le_of_ble_eq_true rfl) rfl ?_
          | refine And.intro (by first | assumption | exact trivial) ?_
          | refine brbT (by first | assumption | decide | exact rfl | exact ne10 | exact ne20 | exact ne30) ?_
          | refine brbF (by first | assumption | decide | exact rfl | exact ne10 | exact ne20 | exact ne30) ?_
          | refine br_t (by first | assumption | decide | exact rfl | exact ne10 | exact ne20 | exact ne30) ?_
          | refine br_f (by first | assumption | decide | exact rfl | exact ne10 | exact ne20 | exact ne30) ?_
          | refine Exists.intro _ (And.intro rfl (And.intro rfl ?_)))
        exact ⟨congrArg (fun z => some (Value.int z)) e3, h0⟩
      by_cases w4 : w = 4
      · subst w4
        rcases s01 with z | z
        · have z3 := z
          repeat (first
            | refine c5 (Nat.le_of_ble_eq_true rfl) (Nat.le_of_ble_eq_true rfl) rfl trivial (brbT (by first | assumption | decide | exact rfl | exact ne10 | exact ne20 | exact ne30) ?_)
            | refine c5 (Nat.le_of_ble_eq_true rfl) (Nat.le_of_ble_eq_true rfl) rfl trivial (brbF (by first | assumption | decide | exact rfl | exact ne10 | exact ne20 | exact ne30) ?_)
            | refine c4 (Nat.le_of_ble_eq_true rfl) rfl trivial (brbT (by first | assumption | decide | exact rfl | exact ne10 | exact ne20 | exact ne30) ?_)
            | refine c4 (Nat.le_of_ble_eq_true rfl) rfl trivial (brbF (by first | assumption | decide | exact rfl | exact ne10 | exact ne20 | exact ne30) ?_)
            | refine c4 (Nat.le_of_ble_eq_true rfl) (Nat.le_of_ble_eq_true rfl) rfl ?_
            | refine c3 (Nat.le_of_ble_eq_true rfl) rfl ?_
            | refine And.intro (by first | assumption | exact trivial) ?_
            | refine brbT (by first | assumption | decide | exact rfl | exact ne10 | exact ne20 | exact ne30) ?_
            | refine brbF (by first | assumption | decide | exact rfl | exact ne10 | exact ne20 | exact ne30) ?_
            | refine br_t (by first | assumption | decide | exact rfl | exact ne10 | exact ne20 | exact ne30) ?_
            | refine br_f (by first | assumption | decide | exact rfl | exact ne10 | exact ne20 | exact ne30) ?_
            | refine Exists.intro _ (And.intro rfl (And.intro rfl ?_)))
          exact ⟨congrArg (fun z => some (Value.int z)) (e4.trans z), h0⟩
        · have z3 : ¬ sureF (fun p => kdT (gI (s1, s2, 30, s4) 7 (rI (gI (s1, s2, 30, s4) (gP (s1, s2, 30, s4) + 3) p))) (gI (s1, s2, 30, s4) 8 (rI (gI (s1, s2, 30, s4) (gP (s1, s2, 30, s4) + 3) p)))) (sB (s1, s2, 30, s4) (gP (s1, s2, 30, s4) + 1) e) (nB (s1, s2, 30, s4) (gP (s1, s2, 30, s4) + 1) e) = 0 := by rw [z]; decide
          repeat (first
            | refine c5 (Nat.le_of_ble_eq_true rfl) (Nat.le_of_ble_eq_true rfl) rfl trivial (brbT (by first | assumption | decide | exact rfl | exact ne10 | exact ne20 | exact ne30) ?_)
            | refine c5 (Nat.le_of_ble_eq_true rfl) (Nat.le_of_ble_eq_true rfl) rfl trivial (brbF (by first | assumption | decide | exact rfl | exact ne10 | exact ne20 | exact ne30) ?_)
            | refine c4 (Nat.le_of_ble_eq_true rfl) rfl trivial (brbT (by first | assumption | decide | exact rfl | exact ne10 | exact ne20 | exact ne30) ?_)
            | refine c4 (Nat.le_of_ble_eq_true rfl) rfl trivial (brbF (by first | assumption | decide | exact rfl | exact ne10 | exact ne20 | exact ne30) ?_)
            | refine c4 (Nat.le_of_ble_eq_true rfl) (Nat.le_of_ble_eq_true rfl) rfl ?_
            | refine c3 (Nat.le_of_ble_eq_true rfl) rfl ?_
            | refine And.intro (by first | assumption | exact trivial) ?_
            | refine brbT (by first | assumption | decide | exact rfl | exact ne10 | exact ne20 | exact ne30) ?_
            | refine brbF (by first | assumption | decide | exact rfl | exact ne10 | exact ne20 | exact ne30) ?_
            | refine br_t (by first | assumption | decide | exact rfl | exact ne10 | exact ne20 | exact ne30) ?_
            | refine br_f (by first | assumption | decide | exact rfl | exact ne10 | exact ne20 | exact ne30) ?_
            | refine Exists.intro _ (And.intro rfl (And.intro rfl ?_)))
          exact ⟨congrArg (fun z => some (Value.int z)) (e4.trans z), h0⟩
      repeat (first
        | refine c5 (Nat.le_of_ble_eq_true rfl) (Nat.le_of_ble_eq_true rfl) rfl trivial (brbT (by first | assumption | decide | exact rfl | exact ne10 | exact ne20 | exact ne30) ?_)
        | refine c5 (Nat.le_of_ble_eq_true rfl) (Nat.le_of_ble_eq_true rfl) rfl trivial (brbF (by first | assumption | decide | exact rfl | exact ne10 | exact ne20 | exact ne30) ?_)
        | refine c4 (Nat.le_of_ble_eq_true rfl) rfl trivial (brbT (by first | assumption | decide | exact rfl | exact ne10 | exact ne20 | exact ne30) ?_)
        | refine c4 (Nat.le_of_ble_eq_true rfl) rfl trivial (brbF (by first | assumption | decide | exact rfl | exact ne10 | exact ne20 | exact ne30) ?_)
        | refine c4 (Nat.le_of_ble_eq_true rfl) (Nat.le_of_ble_eq_true rfl) rfl ?_
        | refine c3 (Nat.le_of_ble_eq_true rfl) rfl ?_
        | refine And.intro (by first | assumption | exact trivial) ?_
        | refine brbT (by first | assumption | decide | exact rfl | exact ne10 | exact ne20 | exact ne30) ?_
        | refine brbF (by first | assumption | decide | exact rfl | exact ne10 | exact ne20 | exact ne30) ?_
        | refine br_t (by first | assumption | decide | exact rfl | exact ne10 | exact ne20 | exact ne30) ?_
        | refine br_f (by first | assumption | decide | exact rfl | exact ne10 | exact ne20 | exact ne30) ?_
        | refine Exists.intro _ (And.intro rfl (And.intro rfl ?_)))
      refine ⟨?_, h0⟩
      rw [evM, if_neg (fun z => z q1), if_neg w0, if_neg w1, if_neg w2, if_neg w3, if_neg w4]
    · subst hb
      by_cases w0 : w = 0
      · subst w0
        repeat (first
          | refine c5 (Nat.le_of_ble_eq_true rfl) (Nat.le_of_ble_eq_true rfl) rfl trivial (brbT (by first | assumption | decide | exact rfl | exact ne10 | exact ne20 | exact ne30) ?_)
          | refine c5 (Nat.le_of_ble_eq_true rfl) (Nat.le_of_ble_eq_true rfl) rfl trivial (brbF (by first | assumption | decide | exact rfl | exact ne10 | exact ne20 | exact ne30) ?_)
          | refine c4 (Nat.le_of_ble_eq_true rfl) rfl trivial (brbT (by first | assumption | decide | exact rfl | exact ne10 | exact ne20 | exact ne30) ?_)
          | refine c4 (Nat.le_of_ble_eq_true rfl) rfl trivial (brbF (by first | assumption | decide | exact rfl | exact ne10 | exact ne20 | exact ne30) ?_)
          | refine c4 (Nat.le_of_ble_eq_true rfl) (Nat.le_of_ble_eq_true rfl) rfl ?_
          | refine c3 (Nat.le_of_ble_eq_true rfl) rfl ?_
          | refine And.intro (by first | assumption | exact trivial) ?_
          | refine brbT (by first | assumption | decide | exact rfl | exact ne10 | exact ne20 | exact ne30) ?_
          | refine brbF (by first | assumption | decide | exact rfl | exact ne10 | exact ne20 | exact ne30) ?_
          | refine br_t (by first | assumption | decide | exact rfl | exact ne10 | exact ne20 | exact ne30) ?_
          | refine br_f (by first | assumption | decide | exact rfl | exact ne10 | exact ne20 | exact ne30) ?_
          | refine Exists.intro _ (And.intro rfl (And.intro rfl ?_)))
        exact ⟨congrArg (fun z => some (Value.int z)) e0, h0⟩
      by_cases w1 : w = 1
      · subst w1
        repeat (first
          | refine c5 (Nat.le_of_ble_eq_true rfl) (Nat.le_of_ble_eq_true rfl) rfl trivial (brbT (by first | assumption | decide | exact rfl | exact ne10 | exact ne20 | exact ne30) ?_)
          | refine c5 (Nat.le_of_ble_eq_true rfl) (Nat.le_of_ble_eq_true rfl) rfl trivial (brbF (by first | assumption | decide | exact rfl | exact ne10 | exact ne20 | exact ne30) ?_)
          | refine c4 (Nat.le_of_ble_eq_true rfl) rfl trivial (brbT (by first | assumption | decide | exact rfl | exact ne10 | exact ne20 | exact ne30) ?_)
          | refine c4 (Nat.le_of_ble_eq_true rfl) rfl trivial (brbF (by first | assumption | decide | exact rfl | exact ne10 | exact ne20 | exact ne30) ?_)
          | refine c4 (Nat.le_of_ble_eq_true rfl) (Nat.le_of_ble_eq_true rfl) rfl ?_
          | refine c3 (Nat.le_of_ble_eq_true rfl) rfl ?_
          | refine And.intro (by first | assumption | exact trivial) ?_
          | refine brbT (by first | assumption | decide | exact rfl | exact ne10 | exact ne20 | exact ne30) ?_
          | refine brbF (by first | assumption | decide | exact rfl | exact ne10 | exact ne20 | exact ne30) ?_
          | refine br_t (by first | assumption | decide | exact rfl | exact ne10 | exact ne20 | exact ne30) ?_
          | refine br_f (by first | assumption | decide | exact rfl | exact ne10 | exact ne20 | exact ne30) ?_
          | refine Exists.intro _ (And.intro rfl (And.intro rfl ?_)))
        exact ⟨congrArg (fun z => some (Value.int z)) e1, h0⟩
      by_cases w2 : w = 2
      · subst w2
        repeat (first
          | refine c5 (Nat.le_of_ble_eq_true rfl) (Nat.le_of_ble_eq_true rfl) rfl trivial (brbT (by first | assumption | decide | exact rfl | exact ne10 | exact ne20 | exact ne30) ?_)
          | refine c5 (Nat.le_of_ble_eq_true rfl) (Nat.le_of_ble_eq_true rfl) rfl trivial (brbF (by first | assumption | decide | exact rfl | exact ne10 | exact ne20 | exact ne30) ?_)
          | refine c4 (Nat.le_of_ble_eq_true rfl) rfl trivial (brbT (by first | assumption | decide | exact rfl | exact ne10 | exact ne20 | exact ne30) ?_)
          | refine c4 (Nat.le_of_ble_eq_true rfl) rfl trivial (brbF (by first | assumption | decide | exact rfl | exact ne10 | exact ne20 | exact ne30) ?_)
          | refine c4 (Nat.le_of_ble_eq_true rfl) (Nat.le_of_ble_eq_true rfl) rfl ?_
          | refine c3 (Nat.le_of_ble_eq_true rfl) rfl ?_
          | refine And.intro (by first | assumption | exact trivial) ?_
          | refine brbT (by first | assumption | decide | exact rfl | exact ne10 | exact ne20 | exact ne30) ?_
          | refine brbF (by first | assumption | decide | exact rfl | exact ne10 | exact ne20 | exact ne30) ?_
          | refine br_t (by first | assumption | decide | exact rfl | exact ne10 | exact ne20 | exact ne30) ?_
          | refine br_f (by first | assumption | decide | exact rfl | exact ne10 | exact ne20 | exact ne30) ?_
          | refine Exists.intro _ (And.intro rfl (And.intro rfl ?_)))
        exact ⟨congrArg (fun z => some (Value.int z)) e2, h0⟩
      by_cases w3 : w = 3
      · subst w3
        repeat (first
          | refine c5 (Nat.le_of_ble_eq_true rfl) (Nat.le_of_ble_eq_true rfl) rfl trivial (brbT (by first | assumption | decide | exact rfl | exact ne10 | exact ne20 | exact ne30) ?_)
          | refine c5 (Nat.le_of_ble_eq_true rfl) (Nat.le_of_ble_eq_true rfl) rfl trivial (brbF (by first | assumption | decide | exact rfl | exact ne10 | exact ne20 | exact ne30) ?_)
          | refine c4 (Nat.le_of_ble_eq_true rfl) rfl trivial (brbT (by first | assumption | decide | exact rfl | exact ne10 | exact ne20 | exact ne30) ?_)
          | refine c4 (Nat.le_of_ble_eq_true rfl) rfl trivial (brbF (by first | assumption | decide | exact rfl | exact ne10 | exact ne20 | exact ne30) ?_)
          | refine c4 (Nat.le_of_ble_eq_true rfl) (Nat.le_of_ble_eq_true rfl) rfl ?_
          | refine c3 (Nat.le_of_ble_eq_true rfl) rfl ?_
          | refine And.intro (by first | assumption | exact trivial) ?_
          | refine brbT (by first | assumption | decide | exact rfl | exact ne10 | exact ne20 | exact ne30) ?_
          | refine brbF (by first | assumption | decide | exact rfl | exact ne10 | exact ne20 | exact ne30) ?_
          | refine br_t (by first | assumption | decide | exact rfl | exact ne10 | exact ne20 | exact ne30) ?_
          | refine br_f (by first | assumption | decide | exact rfl | exact ne10 | exact ne20 | exact ne30) ?_
          | refine Exists.intro _ (And.intro rfl (And.intro rfl ?_)))
        exact ⟨congrArg (fun z => some (Value.int z)) e3, h0⟩
      by_cases w4 : w = 4
      · subst w4
        rcases s01 with z | z
        · have z3 := z
          repeat (first
            | refine c5 (Nat.le_of_ble_eq_true rfl) (Nat.le_of_ble_eq_true rfl) rfl trivial (brbT (by first | assumption | decide | exact rfl | exact ne10 | exact ne20 | exact ne30) ?_)
            | refine c5 (Nat.le_of_ble_eq_true rfl) (Nat.le_of_ble_eq_true rfl) rfl trivial (brbF (by first | assumption | decide | exact rfl | exact ne10 | exact ne20 | exact ne30) ?_)
            | refine c4 (Nat.le_of_ble_eq_true rfl) rfl trivial (brbT (by first | assumption | decide | exact rfl | exact ne10 | exact ne20 | exact ne30) ?_)
            | refine c4 (Nat.le_of_ble_eq_true rfl) rfl trivial (brbF (by first | assumption | decide | exact rfl | exact ne10 | exact ne20 | exact ne30) ?_)
            | refine c4 (Nat.le_of_ble_eq_true rfl) (Nat.le_of_ble_eq_true rfl) rfl ?_
            | refine c3 (Nat.le_of_ble_eq_true rfl) rfl ?_
            | refine And.intro (by first | assumption | exact trivial) ?_
            | refine brbT (by first | assumption | decide | exact rfl | exact ne10 | exact ne20 | exact ne30) ?_
            | refine brbF (by first | assumption | decide | exact rfl | exact ne10 | exact ne20 | exact ne30) ?_
            | refine br_t (by first | assumption | decide | exact rfl | exact ne10 | exact ne20 | exact ne30) ?_
            | refine br_f (by first | assumption | decide | exact rfl | exact ne10 | exact ne20 | exact ne30) ?_
            | refine Exists.intro _ (And.intro rfl (And.intro rfl ?_)))
          exact ⟨congrArg (fun z => some (Value.int z)) (e4.trans z), h0⟩
        · have z3 : ¬ sureF (fun p => kdT (gI (s1, s2, 36, s4) 7 (rI (gI (s1, s2, 36, s4) (gP (s1, s2, 36, s4) + 3) p))) (gI (s1, s2, 36, s4) 8 (rI (gI (s1, s2, 36, s4) (gP (s1, s2, 36, s4) + 3) p)))) (sB (s1, s2, 36, s4) (gP (s1, s2, 36, s4) + 1) e) (nB (s1, s2, 36, s4) (gP (s1, s2, 36, s4) + 1) e) = 0 := by rw [z]; decide
          repeat (first
            | refine c5 (Nat.le_of_ble_eq_true rfl) (Nat.le_of_ble_eq_true rfl) rfl trivial (brbT (by first | assumption | decide | exact rfl | exact ne10 | exact ne20 | exact ne30) ?_)
            | refine c5 (Nat.le_of_ble_eq_true rfl) (Nat.le_of_ble_eq_true rfl) rfl trivial (brbF (by first | assumption | decide | exact rfl | exact ne10 | exact ne20 | exact ne30) ?_)
            | refine c4 (Nat.le_of_ble_eq_true rfl) rfl trivial (brbT (by first | assumption | decide | exact rfl | exact ne10 | exact ne20 | exact ne30) ?_)
            | refine c4 (Nat.le_of_ble_eq_true rfl) rfl trivial (brbF (by first | assumption | decide | exact rfl | exact ne10 | exact ne20 | exact ne30) ?_)
            | refine c4 (Nat.le_of_ble_eq_true rfl) (Nat.le_of_ble_eq_true rfl) rfl ?_
            | refine c3 (Nat.le_of_ble_eq_true rfl) rfl ?_
            | refine And.intro (by first | assumption | exact trivial) ?_
            | refine brbT (by first | assumption | decide | exact rfl | exact ne10 | exact ne20 | exact ne30) ?_
            | refine brbF (by first | assumption | decide | exact rfl | exact ne10 | exact ne20 | exact ne30) ?_
            | refine br_t (by first | assumption | decide | exact rfl | exact ne10 | exact ne20 | exact ne30) ?_
            | refine br_f (by first | assumption | decide | exact rfl | exact ne10 | exact ne20 | exact ne30) ?_
            | refine Exists.intro _ (And.intro rfl (And.intro rfl ?_)))
          exact ⟨congrArg (fun z => some (Value.int z)) (e4.trans z), h0⟩
      repeat (first
        | refine c5 (Nat.le_of_ble_eq_true rfl) (Nat.le_of_ble_eq_true rfl) rfl trivial (brbT (by first | assumption | decide | exact rfl | exact ne10 | exact ne20 | exact ne30) ?_)
        | refine c5 (Nat.le_of_ble_eq_true rfl) (Nat.le_of_ble_eq_true rfl) rfl trivial (brbF (by first | assumption | decide | exact rfl | exact ne10 | exact ne20 | exact ne30) ?_)
        | refine c4 (Nat.le_of_ble_eq_true rfl) rfl trivial (brbT (by first | assumption | decide | exact rfl | exact ne10 | exact ne20 | exact ne30) ?_)
        | refine c4 (Nat.le_of_ble_eq_true rfl) rfl trivial (brbF (by first | assumption | decide | exact rfl | exact ne10 | exact ne20 | exact ne30) ?_)
        | refine c4 (Nat.le_of_ble_eq_true rfl) (Nat.le_of_ble_eq_true rfl) rfl ?_
        | refine c3 (Nat.le_of_ble_eq_true rfl) rfl ?_
        | refine And.intro (by first | assumption | exact trivial) ?_
        | refine brbT (by first | assumption | decide | exact rfl | exact ne10 | exact ne20 | exact ne30) ?_
        | refine brbF (by first | assumption | decide | exact rfl | exact ne10 | exact ne20 | exact ne30) ?_
        | refine br_t (by first | assumption | decide | exact rfl | exact ne10 | exact ne20 | exact ne30) ?_
        | refine br_f (by first | assumption | decide | exact rfl | exact ne10 | exact ne20 | exact ne30) ?_
        | refine Exists.intro _ (And.intro rfl (And.intro rfl ?_)))
      refine ⟨?_, h0⟩
      rw [evM, if_neg (fun z => z q1), if_neg w0, if_neg w1, if_neg w2, if_neg w3, if_neg w4]
  · have q1' : ¬ (0 ≤ e ∧ e ≤ gI σ b 0 - 1) := fun z => q1 ((hasE hc hm e).mp z)
    have pre : 0 ≤ e ∧ e < gI σ 42 30 → okB σ 65 e ∧ ∀ i, i < nB σ 65 e → vp_in (gI σ 66 (sB σ 65 e + i)) 240 := fun z => absurd z q1
    obtain ⟨s1, s2, s3, s4⟩ := σ
    have hgp : s3 = b := hgp
    subst hgp
    rcases hb with hb | hb
    · subst hb
      repeat (first
        | refine c5 (Nat.le_of_ble_eq_true rfl) (Nat.le_of_ble_eq_true rfl) rfl trivial (brbT (by first | assumption | decide | exact rfl | exact ne10 | exact ne20 | exact ne30) ?_)
        | refine c5 (Nat.le_of_ble_eq_true rfl) (Nat.le_of_ble_eq_true rfl) rfl trivial (brbF (by first | assumption | decide | exact rfl | exact ne10 | exact ne20 | exact ne30) ?_)
        | refine c4 (Nat.le_of_ble_eq_true rfl) rfl trivial (brbT (by first | assumption | decide | exact rfl | exact ne10 | exact ne20 | exact ne30) ?_)
        | refine c4 (Nat.le_of_ble_eq_true rfl) rfl trivial (brbF (by first | assumption | decide | exact rfl | exact ne10 | exact ne20 | exact ne30) ?_)
        | refine c4 (Nat.le_of_ble_eq_true rfl) (Nat.le_of_ble_eq_true rfl) rfl ?_
        | refine c3 (Nat.le_of_ble_eq_true rfl) rfl ?_
        | refine And.intro (by first | assumption | exact trivial) ?_
        | refine brbT (by first | assumption | decide | exact rfl | exact ne10 | exact ne20 | exact ne30) ?_
        | refine brbF (by first | assumption | decide | exact rfl | exact ne10 | exact ne20 | exact ne30) ?_
        | refine br_t (by first | assumption | decide | exact rfl | exact ne10 | exact ne20 | exact ne30) ?_
        | refine br_f (by first | assumption | decide | exact rfl | exact ne10 | exact ne20 | exact ne30) ?_
        | refine Exists.intro _ (And.intro rfl (And.intro rfl ?_)))
      refine ⟨?_, h0⟩
      rw [evM, if_pos q1]
    · subst hb
      repeat (first
        | refine c5 (Nat.le_of_ble_eq_true rfl) (Nat.le_of_ble_eq_true rfl) rfl trivial (brbT (by first | assumption | decide | exact rfl | exact ne10 | exact ne20 | exact ne30) ?_)
        | refine c5 (Nat.le_of_ble_eq_true rfl) (Nat.le_of_ble_eq_true rfl) rfl trivial (brbF (by first | assumption | decide | exact rfl | exact ne10 | exact ne20 | exact ne30) ?_)
        | refine c4 (Nat.le_of_ble_eq_true rfl) rfl trivial (brbT (by first | assumption | decide | exact rfl | exact ne10 | exact ne20 | exact ne30) ?_)
        | refine c4 (Nat.le_of_ble_eq_true rfl) rfl trivial (brbF (by first | assumption | decide | exact rfl | exact ne10 | exact ne20 | exact ne30) ?_)
        | refine c4 (Nat.le_of_ble_eq_true rfl) (Nat.le_of_ble_eq_true rfl) rfl ?_
        | refine c3 (Nat.le_of_ble_eq_true rfl) rfl ?_
        | refine And.intro (by first | assumption | exact trivial) ?_
        | refine brbT (by first | assumption | decide | exact rfl | exact ne10 | exact ne20 | exact ne30) ?_
        | refine brbF (by first | assumption | decide | exact rfl | exact ne10 | exact ne20 | exact ne30) ?_
        | refine br_t (by first | assumption | decide | exact rfl | exact ne10 | exact ne20 | exact ne30) ?_
        | refine br_f (by first | assumption | decide | exact rfl | exact ne10 | exact ne20 | exact ne30) ?_
        | refine Exists.intro _ (And.intro rfl (And.intro rfl ?_)))
      refine ⟨?_, h0⟩
      rw [evM, if_pos q1]
