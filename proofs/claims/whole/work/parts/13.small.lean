def csX8_add : Cs := []
def spX8_add : SP := G [(2, [1]), (0, []), (0, [])] (slf 3 pgX8_add csX8_add lcX8 false 21)
theorem bdX8_add : Body 3 pgX8_add roM csX8_add lcX8 false spX8_add := Body.slf
theorem mnX8_add : Mono spX8_add := Mono.slf csM_nil
def csX5_add : Cs := []
def spX5_add : SP := G [(2, [4]), (0, []), (0, []), (0, []), (0, [])] (slf 5 pgX5_add csX5_add lcX5 false 33)
theorem bdX5_add : Body 5 pgX5_add roM csX5_add lcX5 false spX5_add := Body.slf
theorem mnX5_add : Mono spX5_add := Mono.slf csM_nil
def csX6_add : Cs := []
def spX6_add_c : SP := G [(2, [9]), (0, []), (0, []), (0, [])] (slf 4 pgX6_add_c csX6_add lcX6 false 30)
theorem bdX6_add_c : Body 4 pgX6_add_c roM csX6_add lcX6 false spX6_add_c := Body.slf
theorem mnX6_add_c : Mono spX6_add_c := Mono.slf csM_nil
def spX6_add_d : SP := G [(2, [13]), (0, []), (0, []), (0, [])] (slf 4 pgX6_add_d csX6_add lcX6 false 30)
theorem bdX6_add_d : Body 4 pgX6_add_d roM csX6_add lcX6 false spX6_add_d := Body.slf
theorem mnX6_add_d : Mono spX6_add_d := Mono.slf csM_nil
def csX7_cellAt : Cs := []
def spX7_cellAt : SP := G [(2, [17]), (0, []), (0, [])] (slf 3 pgX7_cellAt csX7_cellAt lcX7 false 10)
theorem bdX7_cellAt : Body 3 pgX7_cellAt roM csX7_cellAt lcX7 false spX7_cellAt := Body.slf
theorem mnX7_cellAt : Mono spX7_cellAt := Mono.slf csM_nil
def csX7_cutToLane : Cs := []
def spX7_cutToLane : SP := G [(0, []), (0, [])] (slf 2 pgX7_cutToLane csX7_cutToLane lcX7 false 11)
theorem bdX7_cutToLane : Body 2 pgX7_cutToLane roM csX7_cutToLane lcX7 false spX7_cutToLane := Body.slf
theorem mnX7_cutToLane : Mono spX7_cutToLane := Mono.slf csM_nil
def csX7_setCell : Cs := [(31, 2, false, spX7_cutToLane)]
def spX7_setCell : SP := G [(2, [17]), (0, []), (0, []), (0, [])] (slf 4 pgX7_setCell csX7_setCell lcX7 false 16)
theorem bdX7_setCell : Body 4 pgX7_setCell roM csX7_setCell lcX7 false spX7_setCell := Body.slf
theorem mnX7_setCell : Mono spX7_setCell := Mono.slf (csM_cons mnX7_cutToLane csM_nil)
def csX7_faultOfTaking : Cs := []
def spX7_faultOfTaking : SP := G [(2, [17]), (0, []), (0, [])] (slf 3 pgX7_faultOfTaking csX7_faultOfTaking lcX7 false 19)
theorem bdX7_faultOfTaking : Body 3 pgX7_faultOfTaking roM csX7_faultOfTaking lcX7 false spX7_faultOfTaking := Body.slf
theorem mnX7_faultOfTaking : Mono spX7_faultOfTaking := Mono.slf csM_nil
def csX7_renew : Cs := [(25, 4, false, spJ7_fill_fda19)]
def spX7_renew : SP := G [(2, [17]), (0, []), (0, []), (0, [])] (slf 4 pgX7_renew csX7_renew lcX7 false 24)
theorem bdX7_renew : Body 4 pgX7_renew roM csX7_renew lcX7 false spX7_renew := Body.slf
theorem mnX7_renew : Mono spX7_renew := Mono.slf (csM_cons mnJ7_fill_fda19 csM_nil)
def csX9_answerFault : Cs := []
def spX9_answerFault : SP := G [(2, [0]), (0, [])] (slf 2 pgX9_answerFault csX9_answerFault lcX9 false 8)
theorem bdX9_answerFault : Body 2 pgX9_answerFault roM csX9_answerFault lcX9 false spX9_answerFault := Body.slf
theorem mnX9_answerFault : Mono spX9_answerFault := Mono.slf csM_nil
def csX9_leaveInTrace : Cs := []
def spX9_leaveInTrace : SP := G [(2, [0]), (0, [])] (slf 2 pgX9_leaveInTrace csX9_leaveInTrace lcX9 false 10)
theorem bdX9_leaveInTrace : Body 2 pgX9_leaveInTrace roM csX9_leaveInTrace lcX9 false spX9_leaveInTrace := Body.slf
theorem mnX9_leaveInTrace : Mono spX9_leaveInTrace := Mono.slf csM_nil
def csX9_tellAsPlain : Cs := [(330, 1, true, spX9_leaveInTrace)]
def spX9_tellAsPlain : SP := G [(2, [0]), (0, [])] (slf 2 pgX9_tellAsPlain csX9_tellAsPlain lcX9 false 10)
theorem bdX9_tellAsPlain : Body 2 pgX9_tellAsPlain roM csX9_tellAsPlain lcX9 false spX9_tellAsPlain := Body.slf
theorem mnX9_tellAsPlain : Mono spX9_tellAsPlain := Mono.slf (csM_cons mnX9_leaveInTrace csM_nil)
def csX9_tellAsSteep : Cs := [(317, 1, true, spX9_tellAsPlain), (330, 1, true, spX9_leaveInTrace)]
def spX9_tellAsSteep : SP := G [(2, [0]), (0, [])] (slf 2 pgX9_tellAsSteep csX9_tellAsSteep lcX9 false 16)
theorem bdX9_tellAsSteep : Body 2 pgX9_tellAsSteep roM csX9_tellAsSteep lcX9 false spX9_tellAsSteep := Body.slf
theorem mnX9_tellAsSteep : Mono spX9_tellAsSteep := Mono.slf (csM_cons mnX9_tellAsPlain (csM_cons mnX9_leaveInTrace csM_nil))
def csX9_tellAsBrim : Cs := [(317, 1, true, spX9_tellAsPlain), (330, 1, true, spX9_leaveInTrace)]
def spX9_tellAsBrim : SP := G [(2, [0]), (0, [])] (slf 2 pgX9_tellAsBrim csX9_tellAsBrim lcX9 false 10)
theorem bdX9_tellAsBrim : Body 2 pgX9_tellAsBrim roM csX9_tellAsBrim lcX9 false spX9_tellAsBrim := Body.slf
theorem mnX9_tellAsBrim : Mono spX9_tellAsBrim := Mono.slf (csM_cons mnX9_tellAsPlain (csM_cons mnX9_leaveInTrace csM_nil))
def csX9_weighAsLent : Cs := [(156, 1, true, spX5_amountOf), (330, 1, true, spX9_leaveInTrace)]
def spX9_weighAsLent : SP := G [(2, [0]), (0, []), (0, [])] (slf 3 pgX9_weighAsLent csX9_weighAsLent lcX9 false 11)
theorem bdX9_weighAsLent : Body 3 pgX9_weighAsLent roM csX9_weighAsLent lcX9 false spX9_weighAsLent := Body.slf
theorem mnX9_weighAsLent : Mono spX9_weighAsLent := Mono.slf (csM_cons mnX5_amountOf (csM_cons mnX9_leaveInTrace csM_nil))
def csX9_weighAsOver : Cs := [(330, 1, true, spX9_leaveInTrace)]
def spX9_weighAsOver : SP := G [(2, [0])] (slf 1 pgX9_weighAsOver csX9_weighAsOver lcX9 false 6)
theorem bdX9_weighAsOver : Body 1 pgX9_weighAsOver roM csX9_weighAsOver lcX9 false spX9_weighAsOver := Body.slf
theorem mnX9_weighAsOver : Mono spX9_weighAsOver := Mono.slf (csM_cons mnX9_leaveInTrace csM_nil)
def csX9_refusalOfHit : Cs := [(74, 3, false, spX9_isWithin), (118, 1, true, spX8_has)]
/-- a HIT's refusal: c TANKS there are -/
def hitR (c t tm lo hi : Int32) : Int32 := if ¬ (0 ≤ t ∧ t < c) then -1 else if (0 ≤ tm ∧ tm ≤ 20000) ∧ (0 ≤ lo ∧ lo ≤ 255) ∧ (-1 ≤ hi ∧ hi ≤ 255) ∧ (lo = 255 ∨ hi = -1) then 0 else -2
theorem cn_lt {c : Int32} {N : Nat} (h : cn c N) (hN : N < 2 ^ 31) (t : Int32) : t ≤ c - 1 ↔ t < c := by
  obtain ⟨h1, h2⟩ := h
  rw [h1]
  generalize rI c = n at h2
  rw [leI, ltI, nI_toInt (by omega)]
  have : (nI n - 1).toInt = (n : Int) - 1 := by
    cases n with
    | zero => decide
    | succ n => rw [nI_pred, nI_toInt (by omega)]; omega
  rw [this]
  omega
def spX9_refusalOfHit : SP := G [(2, [0]), (0, []), (0, []), (0, []), (0, [])] (spV (fun _ σ => cn (gI σ 1 2) 30) (fun vs σ => match vs with
  | [_, .int a1, .int a2, .int a3, .int a4] => (some (.int (hitR (gI σ 1 2) (a1) (a2) (a3) (a4))), σ)
  | _ => (none, σ)))
theorem mnX9_refusalOfHit : Mono spX9_refusalOfHit := Mono.spV
theorem bdX9_refusalOfHit : Body 6 pgX9_refusalOfHit roM csX9_refusalOfHit lcX9 false spX9_refusalOfHit := by
  intro vs σ K h Ok hst
  obtain ⟨hs, hp, hk⟩ := h
  obtain ⟨vs, rfl, hs1⟩ := shpR1 hs
  obtain ⟨t, vs, rfl, hs2⟩ := shpI hs1
  obtain ⟨tm, vs, rfl, hs3⟩ := shpI hs2
  obtain ⟨lo, vs, rfl, hs4⟩ := shpI hs3
  obtain ⟨hi, vs, rfl, hs5⟩ := shpI hs4
  cases shpN hs5
  have hk : K (some (.int (hitR (gI σ 1 2) t tm lo hi))) σ := hk
  refine hst [] 50 _ _ _ _ ?_
  refine c4 (Nat.le_of_ble_eq_true rfl) rfl trivial (brb (fun q1 => ?_) (fun q1 => ?_))
  · have q1 : 0 ≤ t ∧ t < gI σ 1 2 := ⟨q1.1, (cn_lt hp (by decide) t).mp q1.2⟩
    refine c5 (Nat.le_of_ble_eq_true rfl) (Nat.le_of_ble_eq_true rfl) rfl trivial (brb (fun q2 => ?_) (fun q2 => ?_))
    · refine c5 (Nat.le_of_ble_eq_true rfl) (Nat.le_of_ble_eq_true rfl) rfl trivial (brb (fun q3 => ?_) (fun q3 => ?_))
      · refine And.intro (fun c => ?_) (fun c => ?_)
        · refine c5 (Nat.le_of_ble_eq_true rfl) (Nat.le_of_ble_eq_true rfl) rfl trivial (brb (fun q4 => ?_) (fun q4 => ?_))
          · have e : lo = 255 := Int32.le_antisymm q3.2 c
            exact K_int (by rw [hitR, if_neg (fun z => z q1), if_pos ⟨q2, q3, q4, Or.inl e⟩]) hk
          · exact K_int (by rw [hitR, if_neg (fun z => z q1), if_neg (fun z => q4 z.2.2.1)]) hk
        · refine c5 (Nat.le_of_ble_eq_true rfl) (Nat.le_of_ble_eq_true rfl) rfl trivial (brb (fun q4 => ?_) (fun q4 => ?_))
          · have e : hi = -1 := Int32.le_antisymm q4.2 q4.1
            exact K_int (by rw [hitR, if_neg (fun z => z q1), if_pos ⟨q2, q3, ⟨q4.1, by rw [e]; decide⟩, Or.inr e⟩]) hk
          · refine K_int ?_ hk
            rw [hitR, if_neg (fun z => z q1), if_neg]
            intro z
            rcases z.2.2.2 with z1 | z1
            · exact c (by rw [z1]; decide)
            · exact q4 (by rw [z1]; decide)
      · exact K_int (by rw [hitR, if_neg (fun z => z q1), if_neg (fun z => q3 z.2.1)]) hk
    · exact K_int (by rw [hitR, if_neg (fun z => z q1), if_neg (fun z => q2 z.1)]) hk
  · exact K_int (by rw [hitR, if_pos (fun z => q1 ⟨z.1, (cn_lt hp (by decide) t).mpr z.2⟩)]) hk
def csX9_faultOfLoad : Cs := [(170, 2, true, spX7_faultOfTaking)]
def spX9_faultOfLoad : SP := G [(2, [0]), (0, []), (0, []), (0, []), (0, [])] (slf 8 pgX9_faultOfLoad csX9_faultOfLoad lcX9 false 38)
theorem bdX9_faultOfLoad : Body 8 pgX9_faultOfLoad roM csX9_faultOfLoad lcX9 false spX9_faultOfLoad := Body.slf
theorem mnX9_faultOfLoad : Mono spX9_faultOfLoad := Mono.slf (csM_cons mnX7_faultOfTaking csM_nil)
def csX9_addHitOfSheet : Cs := [(91, 4, true, spX5_add), (178, 2, true, spX7_cellAt)]
def spX9_addHitOfSheet : SP := G [(2, [0]), (0, []), (0, [])] (slf 3 pgX9_addHitOfSheet csX9_addHitOfSheet lcX9 false 32)
theorem bdX9_addHitOfSheet : Body 3 pgX9_addHitOfSheet roM csX9_addHitOfSheet lcX9 false spX9_addHitOfSheet := Body.slf
theorem mnX9_addHitOfSheet : Mono spX9_addHitOfSheet := Mono.slf (csM_cons mnX5_add (csM_cons mnX7_cellAt csM_nil))
def csX9_tank : Cs := [(74, 3, false, spX9_isWithin), (82, 2, true, spX8_add)]
def spX9_tank : SP := G [(2, [0]), (0, []), (0, [])] (slf 3 pgX9_tank csX9_tank lcX9 false 26)
theorem bdX9_tank : Body 3 pgX9_tank roM csX9_tank lcX9 false spX9_tank := Body.slf
theorem mnX9_tank : Mono spX9_tank := Mono.slf (csM_cons mnX9_isWithin (csM_cons mnX8_add csM_nil))
def csX9_hit : Cs := [(86, 4, true, spX9_refusalOfHit), (91, 4, true, spX5_add)]
def spX9_hit : SP := G [(2, [0]), (0, []), (0, []), (0, []), (0, [])] (slf 6 pgX9_hit csX9_hit lcX9 false 27)
theorem bdX9_hit : Body 6 pgX9_hit roM csX9_hit lcX9 false spX9_hit := Body.slf
theorem mnX9_hit : Mono spX9_hit := Mono.slf (csM_cons mnX9_refusalOfHit (csM_cons mnX5_add csM_nil))
def csX9_clock : Cs := [(74, 3, false, spX9_isWithin), (118, 1, true, spX8_has), (120, 3, true, spX6_add_c)]
def spX9_clock : SP := G [(2, [0]), (0, []), (0, []), (0, [])] (slf 4 pgX9_clock csX9_clock lcX9 false 34)
theorem bdX9_clock : Body 4 pgX9_clock roM csX9_clock lcX9 false spX9_clock := Body.slf
theorem mnX9_clock : Mono spX9_clock := Mono.slf (csM_cons mnX9_isWithin (csM_cons mnX8_has (csM_cons mnX6_add_c csM_nil)))
def csX9_down : Cs := [(122, 2, false, spX9_isSpan), (118, 1, true, spX8_has), (127, 3, true, spX6_add_d)]
def spX9_down : SP := G [(2, [0]), (0, []), (0, []), (0, [])] (slf 4 pgX9_down csX9_down lcX9 false 28)
theorem bdX9_down : Body 4 pgX9_down roM csX9_down lcX9 false spX9_down := Body.slf
theorem mnX9_down : Mono spX9_down := Mono.slf (csM_cons mnX9_isSpan (csM_cons mnX8_has (csM_cons mnX6_add_d csM_nil)))
def csX9_rule : Cs := [(74, 3, false, spX9_isWithin)]
def spX9_rule : SP := G [(2, [0]), (0, []), (0, [])] (slf 4 pgX9_rule csX9_rule lcX9 false 31)
theorem bdX9_rule : Body 4 pgX9_rule roM csX9_rule lcX9 false spX9_rule := Body.slf
theorem mnX9_rule : Mono spX9_rule := Mono.slf (csM_cons mnX9_isWithin csM_nil)
def csX9_sheet : Cs := [(100, 1, false, spX9_isLane), (96, 1, true, spX7_has), (106, 1, true, spX9_answerFault), (299, 3, true, spX7_renew)]
def spX9_sheet : SP := G [(2, [0]), (0, []), (0, []), (0, [])] (slf 4 pgX9_sheet csX9_sheet lcX9 false 33)
theorem bdX9_sheet : Body 4 pgX9_sheet roM csX9_sheet lcX9 false spX9_sheet := Body.slf
theorem mnX9_sheet : Mono spX9_sheet := Mono.slf (csM_cons mnX9_isLane (csM_cons mnX7_has (csM_cons mnX9_answerFault (csM_cons mnX7_renew csM_nil))))
def csX9_drop : Cs := [(96, 1, true, spX7_has)]
def spX9_drop : SP := G [(2, [0]), (0, [])] (slf 2 pgX9_drop csX9_drop lcX9 false 25)
theorem bdX9_drop : Body 2 pgX9_drop roM csX9_drop lcX9 false spX9_drop := Body.slf
theorem mnX9_drop : Mono spX9_drop := Mono.slf (csM_cons mnX7_has csM_nil)
def csX9_put : Cs := [(96, 1, true, spX7_has), (106, 1, true, spX9_answerFault), (305, 2, true, spX7_hasCell), (308, 3, true, spX7_setCell)]
def spX9_put : SP := G [(2, [0]), (0, []), (0, []), (0, [])] (slf 4 pgX9_put csX9_put lcX9 false 40)
theorem bdX9_put : Body 4 pgX9_put roM csX9_put lcX9 false spX9_put := Body.slf
theorem mnX9_put : Mono spX9_put := Mono.slf (csM_cons mnX7_has (csM_cons mnX9_answerFault (csM_cons mnX7_hasCell (csM_cons mnX7_setCell csM_nil))))
def csX9_at : Cs := [(100, 1, false, spX9_isLane), (96, 1, true, spX7_has), (170, 2, true, spX7_faultOfTaking), (178, 2, true, spX7_cellAt), (305, 2, true, spX7_hasCell)]
def spX9_at : SP := G [(2, [0]), (0, []), (0, []), (0, [])] (slf 4 pgX9_at csX9_at lcX9 false 44)
theorem bdX9_at : Body 4 pgX9_at roM csX9_at lcX9 false spX9_at := Body.slf
theorem mnX9_at : Mono spX9_at := Mono.slf (csM_cons mnX9_isLane (csM_cons mnX7_has (csM_cons mnX7_faultOfTaking (csM_cons mnX7_cellAt (csM_cons mnX7_hasCell csM_nil)))))
def csX9_tell : Cs := [(143, 1, true, spX5_has), (153, 1, true, spX5_kindOf), (311, 1, true, spX9_tellAsSteep), (314, 1, true, spX9_tellAsBrim), (317, 1, true, spX9_tellAsPlain)]
def spX9_tell : SP := G [(2, [0]), (0, [])] (slf 2 pgX9_tell csX9_tell lcX9 false 25)
theorem bdX9_tell : Body 2 pgX9_tell roM csX9_tell lcX9 false spX9_tell := Body.slf
theorem mnX9_tell : Mono spX9_tell := Mono.slf (csM_cons mnX5_has (csM_cons mnX5_kindOf (csM_cons mnX9_tellAsSteep (csM_cons mnX9_tellAsBrim (csM_cons mnX9_tellAsPlain csM_nil)))))
def csX9_weigh : Cs := [(143, 1, true, spX5_has), (153, 1, true, spX5_kindOf), (320, 0, true, spX9_weighAsOver), (324, 2, true, spX9_weighAsLent)]
def spX9_weigh : SP := G [(2, [0]), (0, [])] (slf 3 pgX9_weigh csX9_weigh lcX9 false 27)
theorem bdX9_weigh : Body 3 pgX9_weigh roM csX9_weigh lcX9 false spX9_weigh := Body.slf
theorem mnX9_weigh : Mono spX9_weigh := Mono.slf (csM_cons mnX5_has (csM_cons mnX5_kindOf (csM_cons mnX9_weighAsOver (csM_cons mnX9_weighAsLent csM_nil))))
def csX9_as : Cs := [(74, 3, false, spX9_isWithin), (106, 1, true, spX9_answerFault), (143, 1, true, spX5_has), (153, 1, true, spX5_kindOf)]
def spX9_as : SP := G [(2, [0]), (0, []), (0, [])] (slf 5 pgX9_as csX9_as lcX9 false 46)
theorem bdX9_as : Body 5 pgX9_as roM csX9_as lcX9 false spX9_as := Body.slf
theorem mnX9_as : Mono spX9_as := Mono.slf (csM_cons mnX9_isWithin (csM_cons mnX9_answerFault (csM_cons mnX5_has (csM_cons mnX5_kindOf csM_nil))))
def csX9_trace : Cs := []
def spX9_trace : SP := G [(2, [0])] (slf 1 pgX9_trace csX9_trace lcX9 false 4)
theorem bdX9_trace : Body 1 pgX9_trace roM csX9_trace lcX9 false spX9_trace := Body.slf
theorem mnX9_trace : Mono spX9_trace := Mono.slf csM_nil
def csX9_fault : Cs := []
def spX9_fault : SP := G [(2, [0])] (slf 1 pgX9_fault csX9_fault lcX9 false 4)
theorem bdX9_fault : Body 1 pgX9_fault roM csX9_fault lcX9 false spX9_fault := Body.slf
theorem mnX9_fault : Mono spX9_fault := Mono.slf csM_nil
def csX9_told : Cs := []
def spX9_told : SP := G [(2, [0]), (0, [])] (slf 2 pgX9_told csX9_told lcX9 false 48)
theorem bdX9_told : Body 2 pgX9_told roM csX9_told lcX9 false spX9_told := Body.slf
theorem mnX9_told : Mono spX9_told := Mono.slf csM_nil
def csX10_fails : Cs := []
def spX10_fails : SP := G [(2, [42]), (0, [])] (slf 2 pgX10_fails csX10_fails lcX10 false 8)
theorem bdX10_fails : Body 2 pgX10_fails roM csX10_fails lcX10 false spX10_fails := Body.slf
theorem mnX10_fails : Mono spX10_fails := Mono.slf csM_nil
def csX10_lost : Cs := []
def spX10_lost : SP := G [(2, [42]), (0, [])] (slf 2 pgX10_lost csX10_lost lcX10 false 6)
theorem bdX10_lost : Body 2 pgX10_lost roM csX10_lost lcX10 false spX10_lost := Body.slf
theorem mnX10_lost : Mono spX10_lost := Mono.slf csM_nil
def csX10_tank : Cs := [(110, 3, false, spX10_within)]
def spX10_tank : SP := G [(2, [42]), (0, []), (0, [])] (slf 3 pgX10_tank csX10_tank lcX10 false 42)
theorem bdX10_tank : Body 3 pgX10_tank roM csX10_tank lcX10 false spX10_tank := Body.slf
theorem mnX10_tank : Mono spX10_tank := Mono.slf (csM_cons mnX10_within csM_nil)
def csX10_against : Cs := [(110, 3, false, spX10_within), (114, 1, true, spX10_isTank)]
def spX10_against : SP := G [(2, [42]), (0, []), (0, []), (0, []), (0, [])] (spV (fun _ σ => True) (fun vs σ => match vs with
  | [_, .int a1, .int a2, .int a3, .int a4] => (some (.int (hitR (gI σ 42 2) (a1) (a2) (a3) (a4))), σ)
  | _ => (none, σ)))
theorem mnX10_against : Mono spX10_against := Mono.spV
theorem bdX10_against : Body 6 pgX10_against roM csX10_against lcX10 false spX10_against := by
  intro vs σ K h Ok hst
  obtain ⟨hs, hp, hk⟩ := h
  obtain ⟨vs, rfl, hs1⟩ := shpR1 hs
  obtain ⟨t, vs, rfl, hs2⟩ := shpI hs1
  obtain ⟨tm, vs, rfl, hs3⟩ := shpI hs2
  obtain ⟨lo, vs, rfl, hs4⟩ := shpI hs3
  obtain ⟨hi, vs, rfl, hs5⟩ := shpI hs4
  cases shpN hs5
  have hk : K (some (.int (hitR (gI σ 42 2) t tm lo hi))) σ := hk
  have no : ∀ (q1 : 0 ≤ t ∧ t < gI σ 42 2), ¬ ((0 ≤ tm ∧ tm ≤ 20000) ∧ (0 ≤ lo ∧ lo ≤ 255) ∧ (-1 ≤ hi ∧ hi ≤ 255) ∧ (lo = 255 ∨ hi = -1)) → ((0 : Int32) = 0 → K (some (.int (-2))) σ) ∧ (¬ (0 : Int32) = 0 → K (some (.int 0)) σ) := fun q1 q => ⟨fun _ => K_int (by rw [hitR, if_neg (fun z => z q1), if_neg q]) hk, fun z => absurd rfl z⟩
  have yes : ∀ (q1 : 0 ≤ t ∧ t < gI σ 42 2), ((0 ≤ tm ∧ tm ≤ 20000) ∧ (0 ≤ lo ∧ lo ≤ 255) ∧ (-1 ≤ hi ∧ hi ≤ 255) ∧ (lo = 255 ∨ hi = -1)) → ((1 : Int32) = 0 → K (some (.int (-2))) σ) ∧ (¬ (1 : Int32) = 0 → K (some (.int 0)) σ) := fun q1 q => ⟨fun z => absurd z (by decide), fun _ => K_int (by rw [hitR, if_neg (fun z => z q1), if_pos q]) hk⟩
  refine hst [] 50 _ _ _ _ ?_
  refine c4 (Nat.le_of_ble_eq_true rfl) rfl trivial (brb (fun q1 => ?_) (fun q1 => ?_))
  · refine c5 (Nat.le_of_ble_eq_true rfl) (Nat.le_of_ble_eq_true rfl) rfl trivial (brb (fun q2 => ?_) (fun q2 => ?_))
    · refine c5 (Nat.le_of_ble_eq_true rfl) (Nat.le_of_ble_eq_true rfl) rfl trivial (brb (fun q3 => ?_) (fun q3 => ?_))
      · refine c5 (Nat.le_of_ble_eq_true rfl) (Nat.le_of_ble_eq_true rfl) rfl trivial (brb (fun q4 => ?_) (fun q4 => ?_))
        · refine And.intro (fun c => ?_) (fun c => And.intro (fun c5 => ?_) (fun c5 => ?_))
          · exact yes q1 ⟨q2, q3, q4, Or.inl c⟩
          · exact yes q1 ⟨q2, q3, q4, Or.inr c5⟩
          · exact no q1 (fun z => z.2.2.2.elim c c5)
        · exact no q1 (fun z => q4 z.2.2.1)
      · exact no q1 (fun z => q3 z.2.1)
    · exact no q1 (fun z => q2 z.1)
  · exact K_int (by rw [hitR, if_pos q1]) hk
def csX10_addHit : Cs := []
def spX10_addHit : SP := G [(2, [42]), (0, []), (0, []), (0, []), (0, [])] (slf 5 pgX10_addHit csX10_addHit lcX10 false 32)
theorem bdX10_addHit : Body 5 pgX10_addHit roM csX10_addHit lcX10 false spX10_addHit := Body.slf
theorem mnX10_addHit : Mono spX10_addHit := Mono.slf csM_nil
def csX10_hit : Cs := [(118, 4, true, spX10_against), (122, 4, true, spX10_addHit)]
def spX10_hit : SP := G [(2, [42]), (0, []), (0, []), (0, []), (0, [])] (slf 6 pgX10_hit csX10_hit lcX10 false 29)
theorem bdX10_hit : Body 6 pgX10_hit roM csX10_hit lcX10 false spX10_hit := Body.slf
theorem mnX10_hit : Mono spX10_hit := Mono.slf (csM_cons mnX10_against (csM_cons mnX10_addHit csM_nil))
def csX10_clock : Cs := [(110, 3, false, spX10_within), (114, 1, true, spX10_isTank)]
def spX10_clock : SP := G [(2, [42]), (0, []), (0, []), (0, [])] (slf 4 pgX10_clock csX10_clock lcX10 false 52)
theorem bdX10_clock : Body 4 pgX10_clock roM csX10_clock lcX10 false spX10_clock := Body.slf
theorem mnX10_clock : Mono spX10_clock := Mono.slf (csM_cons mnX10_within (csM_cons mnX10_isTank csM_nil))
def csX10_down : Cs := [(110, 3, false, spX10_within), (114, 1, true, spX10_isTank)]
def spX10_down : SP := G [(2, [42]), (0, []), (0, []), (0, [])] (slf 4 pgX10_down csX10_down lcX10 false 52)
theorem bdX10_down : Body 4 pgX10_down roM csX10_down lcX10 false spX10_down := Body.slf
theorem mnX10_down : Mono spX10_down := Mono.slf (csM_cons mnX10_within (csM_cons mnX10_isTank csM_nil))
def csX10_mostOf : Cs := []
def spX10_mostOf : SP := G [(0, [])] (slf 1 pgX10_mostOf csX10_mostOf lcX10 false 13)
theorem bdX10_mostOf : Body 1 pgX10_mostOf roM csX10_mostOf lcX10 false spX10_mostOf := Body.slf
theorem mnX10_mostOf : Mono spX10_mostOf := Mono.slf csM_nil
def csX10_rule : Cs := [(110, 3, false, spX10_within), (163, 1, false, spX10_mostOf)]
def spX10_rule : SP := G [(2, [42]), (0, []), (0, [])] (slf 4 pgX10_rule csX10_rule lcX10 false 33)
theorem bdX10_rule : Body 4 pgX10_rule roM csX10_rule lcX10 false spX10_rule := Body.slf
theorem mnX10_rule : Mono spX10_rule := Mono.slf (csM_cons mnX10_within (csM_cons mnX10_mostOf csM_nil))
def csX10_drop : Cs := [(110, 3, false, spX10_within)]
def spX10_drop : SP := G [(2, [42]), (0, [])] (slf 3 pgX10_drop csX10_drop lcX10 false 25)
theorem bdX10_drop : Body 3 pgX10_drop roM csX10_drop lcX10 false spX10_drop := Body.slf
theorem mnX10_drop : Mono spX10_drop := Mono.slf (csM_cons mnX10_within csM_nil)
def csX10_put : Cs := [(110, 3, false, spX10_within), (126, 1, true, spX10_fails)]
def spX10_put : SP := G [(2, [42]), (0, []), (0, []), (0, [])] (slf 4 pgX10_put csX10_put lcX10 false 63)
theorem bdX10_put : Body 4 pgX10_put roM csX10_put lcX10 false spX10_put := Body.slf
theorem mnX10_put : Mono spX10_put := Mono.slf (csM_cons mnX10_within (csM_cons mnX10_fails csM_nil))
def csX10_at : Cs := [(110, 3, false, spX10_within), (217, 1, true, spX10_lost)]
def spX10_at : SP := G [(2, [42]), (0, []), (0, []), (0, [])] (slf 4 pgX10_at csX10_at lcX10 false 66)
theorem bdX10_at : Body 4 pgX10_at roM csX10_at lcX10 false spX10_at := Body.slf
theorem mnX10_at : Mono spX10_at := Mono.slf (csM_cons mnX10_within (csM_cons mnX10_lost csM_nil))
def csX10_begins : Cs := []
def spX10_begins : SP := G [(2, [42]), (0, [])] (slf 2 pgX10_begins csX10_begins lcX10 false 10)
theorem bdX10_begins : Body 2 pgX10_begins roM csX10_begins lcX10 false spX10_begins := Body.slf
theorem mnX10_begins : Mono spX10_begins := Mono.slf csM_nil
def csX10_tell : Cs := [(138, 1, true, spX10_kindOf), (151, 1, true, spX10_isHit), (224, 1, true, spX10_begins)]
def spX10_tell : SP := G [(2, [42]), (0, [])] (slf 2 pgX10_tell csX10_tell lcX10 false 50)
theorem bdX10_tell : Body 2 pgX10_tell roM csX10_tell lcX10 false spX10_tell := Body.slf
theorem mnX10_tell : Mono spX10_tell := Mono.slf (csM_cons mnX10_kindOf (csM_cons mnX10_isHit (csM_cons mnX10_begins csM_nil)))
def csX10_weigh : Cs := [(138, 1, true, spX10_kindOf), (151, 1, true, spX10_isHit), (157, 1, true, spX10_amountOf), (224, 1, true, spX10_begins)]
def spX10_weigh : SP := G [(2, [42]), (0, [])] (slf 3 pgX10_weigh csX10_weigh lcX10 false 35)
theorem bdX10_weigh : Body 3 pgX10_weigh roM csX10_weigh lcX10 false spX10_weigh := Body.slf
theorem mnX10_weigh : Mono spX10_weigh := Mono.slf (csM_cons mnX10_kindOf (csM_cons mnX10_isHit (csM_cons mnX10_amountOf (csM_cons mnX10_begins csM_nil))))
def csX10_as : Cs := [(110, 3, false, spX10_within), (126, 1, true, spX10_fails), (138, 1, true, spX10_kindOf), (151, 1, true, spX10_isHit)]
def spX10_as : SP := G [(2, [42]), (0, []), (0, [])] (slf 5 pgX10_as csX10_as lcX10 false 44)
theorem bdX10_as : Body 5 pgX10_as roM csX10_as lcX10 false spX10_as := Body.slf
theorem mnX10_as : Mono spX10_as := Mono.slf (csM_cons mnX10_within (csM_cons mnX10_fails (csM_cons mnX10_kindOf (csM_cons mnX10_isHit csM_nil))))
def csX10_trace : Cs := []
def spX10_trace : SP := G [(2, [42])] (slf 1 pgX10_trace csX10_trace lcX10 false 4)
theorem bdX10_trace : Body 1 pgX10_trace roM csX10_trace lcX10 false spX10_trace := Body.slf
theorem mnX10_trace : Mono spX10_trace := Mono.slf csM_nil
def csX10_fault : Cs := []
def spX10_fault : SP := G [(2, [42])] (slf 1 pgX10_fault csX10_fault lcX10 false 4)
theorem bdX10_fault : Body 1 pgX10_fault roM csX10_fault lcX10 false spX10_fault := Body.slf
theorem mnX10_fault : Mono spX10_fault := Mono.slf csM_nil
def csX10_told : Cs := []
def spX10_told : SP := G [(2, [42]), (0, [])] (slf 2 pgX10_told csX10_told lcX10 false 30)
theorem bdX10_told : Body 2 pgX10_told roM csX10_told lcX10 false spX10_told := Body.slf
theorem mnX10_told : Mono spX10_told := Mono.slf csM_nil
/-! THE INVARIANT: the class's memory beside the reference's -/
def IT (σ : Mem) (nT : Nat) : Prop := nT ≤ 30 ∧ gI σ 1 2 = nI nT ∧ gI σ 42 2 = nI nT ∧ ∀ i, i < nT → gI σ 43 i = gI σ 2 i ∧ gI σ 44 i = gI σ 3 i ∧ (-100 ≤ gI σ 2 i ∧ gI σ 2 i ≤ 100) ∧ (-100 ≤ gI σ 3 i ∧ gI σ 3 i ≤ 100)
def okHit (nT : Nat) (t tm lo hi : Int32) : Prop := (∃ j, j < nT ∧ t = nI j) ∧ (0 ≤ tm ∧ tm ≤ 20000) ∧ (0 ≤ lo ∧ lo ≤ 255) ∧ (-1 ≤ hi ∧ hi ≤ 255) ∧ (lo = 255 ∨ hi = -1)
def IH (σ : Mem) (nT nH : Nat) : Prop := nH ≤ 240 ∧ gI σ 4 4 = nI nH ∧ gI σ 42 5 = nI nH ∧ ∀ h, h < nH → (gI σ 45 h = gI σ 5 h ∧ gI σ 46 h = gI σ 6 h ∧ gI σ 47 h = gI σ 7 h ∧ gI σ 48 h = gI σ 8 h) ∧ okHit nT (gI σ 5 h) (gI σ 6 h) (gI σ 7 h) (gI σ 8 h)
def IC (σ : Mem) (nC : Nat) : Prop := nC ≤ 20 ∧ gI σ 9 3 = nI nC ∧ gI σ 42 10 = nI nC ∧ ∀ i, i < nC → gI σ 49 i = gI σ 10 i ∧ gI σ 50 i = gI σ 11 i ∧ gI σ 51 i = gI σ 12 i ∧ (-500 ≤ gI σ 12 i ∧ gI σ 12 i ≤ 500)
def ID (σ : Mem) (nD : Nat) : Prop := nD ≤ 20 ∧ gI σ 13 3 = nI nD ∧ gI σ 42 14 = nI nD ∧ ∀ i, i < nD → gI σ 52 i = gI σ 14 i ∧ gI σ 53 i = gI σ 15 i ∧ gI σ 54 i = gI σ 16 i ∧ (0 ≤ gI σ 15 i ∧ gI σ 15 i ≤ 20000) ∧ (gI σ 15 i ≤ gI σ 16 i ∧ gI σ 16 i ≤ 20001)
def IS (σ : Mem) : Prop := (∀ k, k < 4 → (gI σ 18 k = -1 ∧ gI σ 55 k = -9) ∨ (gI σ 55 k = gI σ 18 k ∧ (gI σ 18 k = 0 ∨ gI σ 18 k = 1 ∨ gI σ 18 k = 2))) ∧ (∀ k, k < 4 → gI σ 56 k = gI σ 19 k ∧ ∃ n, n ≤ 40 ∧ gI σ 19 k = nI n) ∧ ∀ i, i < 160 → gI σ 57 i = gI σ 20 i
def IR (σ : Mem) : Prop := ∀ k, k < 4 → gI σ 58 k = gI σ 29 k ∧ rlo k ≤ gI σ 29 k ∧ gI σ 29 k ≤ rhi k
def IX (σ : Mem) : Prop := gI σ 42 22 = gI σ 0 10 ∧ gI σ 42 1 = gI σ 0 11 ∧ gI σ 42 0 = gI σ 0 12
/-- the events of a building b: nE of them, event e's members from st e on, the hit of place p is mh p -/
def EvC (σ : Mem) (b nE : Nat) (st mh : Nat → Nat) (nH : Nat) : Prop := nE ≤ 240 ∧ gI σ b 0 = nI nE ∧ st 0 = 0 ∧ (∀ e, e < nE → st e < st (e + 1) ∧ st (e + 1) ≤ st e + 30) ∧ st nE ≤ 240 ∧ (∀ e, e ≤ nE → gI σ (b + 1) e = nI (st e)) ∧
  (∀ p, p < st nE → gI σ (b + 3) p = nI (mh p) ∧ mh p < nH ∧ (-500 ≤ gI σ (b + 4) p ∧ gI σ (b + 4) p ≤ 20500)) ∧ (∀ p q, p < st nE → q < st nE → mh p = mh q → p = q) ∧
  (∀ e p, e < nE → st e ≤ p → p < st (e + 1) → gI σ (b + 5) (mh p) = nI e) ∧ (∀ h, h < 240 → (∀ p, p < st nE → mh p ≠ h) → gI σ (b + 5) h = -9)
def EvM (σ : Mem) (b nE : Nat) (st mh : Nat → Nat) : Prop := gI σ 42 30 = nI nE ∧ gI σ 42 31 = nI (st nE) ∧ (∀ e, e ≤ nE → gI σ 65 e = nI (st e)) ∧ (∀ p, p < st nE → gI σ 66 p = nI (mh p) ∧ gI σ 67 p = gI σ (b + 4) p) ∧ ∀ e, e < nE → gI σ 68 e = gI σ (b + 2) e
def EvO (σ : Mem) (nE : Nat) (st mh : Nat → Nat) : Prop := gI σ 42 36 = nI nE ∧ (∀ e, e ≤ nE → gI σ 69 e = nI (st e)) ∧ ∀ p, p < st nE → gI σ 70 p = nI (mh p)
def IE (σ : Mem) (nH : Nat) : Prop := ∃ (b b' nE nE' : Nat) (st mh st' mh' : Nat → Nat), ((b = 30 ∧ b' = 36) ∨ (b = 36 ∧ b' = 30)) ∧ gP σ = b ∧ gQ σ = b' ∧ EvC σ b nE st mh nH ∧ EvM σ b nE st mh ∧ EvC σ b' nE' st' mh' nH ∧ EvO σ nE' st' mh'
def Inv (σ : Mem) : Prop := ∃ nT nH nC nD : Nat, (IT σ nT ∧ IH σ nT nH ∧ IC σ nC ∧ ID σ nD) ∧ (IS σ ∧ IR σ ∧ IX σ) ∧ IE σ nH
theorem EvC.mono {σ : Mem} {b nE : Nat} {st mh : Nat → Nat} {n n' : Nat} (h : EvC σ b nE st mh n) (hn : n ≤ n') : EvC σ b nE st mh n' := by
  obtain ⟨h1, h2, h3, h4, h5, h6, h7, h8⟩ := h
  exact ⟨h1, h2, h3, h4, h5, h6, fun p hp => ⟨(h7 p hp).1, Nat.lt_of_lt_of_le (h7 p hp).2.1 hn, (h7 p hp).2.2⟩, h8⟩
theorem IE.mono {σ : Mem} {n n' : Nat} (h : IE σ n) (hn : n ≤ n') : IE σ n' := by
  obtain ⟨b, b', nE, nE', st, mh, st', mh', h1, h2, h3, h4, h5, h6, h7⟩ := h
  exact ⟨b, b', nE, nE', st, mh, st', mh', h1, h2, h3, h4.mono hn, h5, h6.mono hn, h7⟩
def PRi (spx spm : SP) (as : List Value) (σ : Mem) : Prop := spx (.ref 0 :: as) σ (fun v σ1 => ∃ r : Int32, v = some (.int r) ∧ spm (.ref 42 :: as) σ1 (fun w σ2 => w = some (.int r) ∧ Inv σ2))
def PRl (spx spm : SP) (as : List Value) (σ : Mem) : Prop := spx (.ref 0 :: as) σ (fun v σ1 => ∃ r : Int64, v = some (.long r) ∧ spm (.ref 42 :: as) σ1 (fun w σ2 => w = some (.long r) ∧ Inv σ2))
theorem okHit.mono {n n' : Nat} {t tm lo hi : Int32} (h : okHit n t tm lo hi) (hn : n ≤ n') : okHit n' t tm lo hi := by
  obtain ⟨⟨j, h1, h2⟩, h3⟩ := h
  exact ⟨⟨j, by omega, h2⟩, h3⟩
theorem IH.mono {σ : Mem} {n n' k : Nat} (h : IH σ n k) (hn : n ≤ n') : IH σ n' k := ⟨h.1, h.2.1, h.2.2.1, fun i hi => ⟨(h.2.2.2 i hi).1, (h.2.2.2 i hi).2.mono hn⟩⟩
/-- a count and its bound -/
theorem nI_full {n N : Nat} (h : n ≤ N) (hN : N < 2 ^ 31) (c : nI N ≤ nI n) : n = N := by
  have := (nI_leI (by omega) (by omega)).mp c
  omega
theorem nI_room {n N : Nat} (h : n ≤ N) (hN : N < 2 ^ 31) (c : ¬ nI N ≤ nI n) : n < N := by
  rcases Nat.lt_or_ge n N with q | q
  · exact q
  · exact absurd (nI_le q (by omega)) c
/-- an array that a place more is put into, beside another -/
theorem up_lt {f g : Nat → Int32} {n i : Nat} {x : Int32} (P : Int32 → Prop) (h : ∀ i, i < n → g i = f i ∧ P (f i)) (hx : P x) (hi : i < n + 1) : (if i = n then x else g i) = (if i = n then x else f i) ∧ P (if i = n then x else f i) := by
  by_cases e : i = n
  · rw [if_pos e, if_pos e]; exact ⟨rfl, hx⟩
  · rw [if_neg e, if_neg e]; exact h i (by omega)
theorem gI_sI_same (σ : Mem) (a j : Nat) (v : Int32) (i : Nat) : gI (sI σ a j v) a i = if i = j then v else gI σ a i := by
  rw [gI_sI]
  simp
theorem brbT {p A B : Prop} [Decidable p] (h : p) (b : B) : (bI p = 0 → A) ∧ (¬ bI p = 0 → B) := brb (fun _ => b) (fun z => absurd h z)
theorem brbF {p A B : Prop} [Decidable p] (h : ¬ p) (a : A) : (bI p = 0 → A) ∧ (¬ bI p = 0 → B) := brb (fun z => absurd z h) (fun _ => a)
def Ek (k j : Nat) : Prop := (30 ≤ k ∧ k ≤ 41) ∨ (65 ≤ k ∧ k ≤ 70) ∨ (k = 42 ∧ (j = 30 ∨ j = 31 ∨ j = 36))
theorem gI_off {σ : Mem} {a j : Nat} {v : Int32} {k i : Nat} (h : ¬ (k = a ∧ i = j)) : gI (sI σ a j v) k i = gI σ k i := by rw [gI_sI, if_neg h]
theorem gI_on {σ : Mem} {a j : Nat} {v : Int32} {k i : Nat} (h : k = a ∧ i = j) : gI (sI σ a j v) k i = v := by rw [gI_sI, if_pos h]
theorem IE.congr {σ σ' : Mem} {n : Nat} (h : ∀ k j, Ek k j → gI σ' k j = gI σ k j) (hp : gP σ' = gP σ) (hq : gQ σ' = gQ σ) (hE : IE σ n) : IE σ' n := by
  obtain ⟨b, b', nE, nE', st, mh, st', mh', h1, h2, h3, h4, h5, h6, h7⟩ := hE
  have hb : 30 ≤ b ∧ b + 5 ≤ 41 ∧ 30 ≤ b' ∧ b' + 5 ≤ 41 := by omega
  have A : ∀ b nE st mh, 30 ≤ b → b + 5 ≤ 41 → EvC σ b nE st mh n → EvC σ' b nE st mh n := by
    intro b nE st mh g1 g2 ⟨a1, a2, a3, a4, a5, a6, a7, a8, a9, a10⟩
    refine ⟨a1, ?_, a3, a4, a5, fun e he => ?_, fun p hp => ?_, a8, fun e p he hp1 hp2 => ?_, fun x hx hx2 => ?_⟩
    · rw [h _ _ (Or.inl ⟨by omega, by omega⟩)]; exact a2
    · rw [h _ _ (Or.inl ⟨by omega, by omega⟩)]; exact a6 e he
    · rw [h _ _ (Or.inl ⟨by omega, by omega⟩), h _ _ (Or.inl ⟨by omega, by omega⟩)]; exact a7 p hp
    · rw [h _ _ (Or.inl ⟨by omega, by omega⟩)]; exact a9 e p he hp1 hp2
    · rw [h _ _ (Or.inl ⟨by omega, by omega⟩)]; exact a10 x hx hx2
  refine ⟨b, b', nE, nE', st, mh, st', mh', h1, by rw [hp]; exact h2, by rw [hq]; exact h3, A _ _ _ _ hb.1 hb.2.1 h4, ?_, A _ _ _ _ hb.2.2.1 hb.2.2.2 h6, ?_⟩
  · obtain ⟨a1, a2, a3, a4, a5⟩ := h5
    refine ⟨?_, ?_, fun e he => ?_, fun p hp => ?_, fun e he => ?_⟩
    · rw [h _ _ (Or.inr (Or.inr ⟨rfl, Or.inl rfl⟩))]; exact a1
    · rw [h _ _ (Or.inr (Or.inr ⟨rfl, Or.inr (Or.inl rfl)⟩))]; exact a2
    · rw [h _ _ (Or.inr (Or.inl ⟨by omega, by omega⟩))]; exact a3 e he
    · rw [h _ _ (Or.inr (Or.inl ⟨by omega, by omega⟩)), h _ _ (Or.inr (Or.inl ⟨by omega, by omega⟩)), h _ _ (Or.inl ⟨by omega, by omega⟩)]; exact a4 p hp
    · rw [h _ _ (Or.inr (Or.inl ⟨by omega, by omega⟩)), h _ _ (Or.inl ⟨by omega, by omega⟩)]; exact a5 e he
  · obtain ⟨a1, a2, a3⟩ := h7
    refine ⟨?_, fun e he => ?_, fun p hp => ?_⟩
    · rw [h _ _ (Or.inr (Or.inr ⟨rfl, Or.inr (Or.inr rfl)⟩))]; exact a1
    · rw [h _ _ (Or.inr (Or.inl ⟨by omega, by omega⟩))]; exact a2 e he
    · rw [h _ _ (Or.inr (Or.inl ⟨by omega, by omega⟩))]; exact a3 p hp
theorem ne10 : ¬ (1 : Int32) = 0 := by decide
theorem ne20 : ¬ (2 : Int32) = 0 := by decide
theorem ne30 : ¬ (3 : Int32) = 0 := by decide
