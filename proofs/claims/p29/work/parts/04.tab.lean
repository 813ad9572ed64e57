/-! ===== the tables of the abstract machine: methods, places of the pools, throws; each held against the words of the claim ===== -/
def sp_AW : List Cond := lw_tbl.filter goodWord
theorem sp_pick (ws : List Cond) (ps : List Nat) (hp : ws = ps.filterMap (fun i => lw_tbl[i]?)) (h : ws.all goodWord = true) : ∀ w ∈ ws, w ∈ sp_AW := by
  intro w hw
  have h1 := List.all_eq_true.mp h w hw
  rw [hp] at hw
  obtain ⟨i, -, hi⟩ := List.mem_filterMap.mp hw
  exact List.mem_filter.mpr ⟨List.mem_of_getElem? hi, h1⟩
theorem sp_pickT (ws : List Cond) (ps : List Nat) (hp : ws = ps.filterMap (fun i => lw_tbl[i]?)) : ∀ w ∈ ws, w ∈ lw_tbl := by
  intro w hw
  rw [hp] at hw
  obtain ⟨i, -, hi⟩ := List.mem_filterMap.mp hw
  exact List.mem_of_getElem? hi
-- a method: name, code, locals, what it returns, its table of handlers, the number of its class, of its arguments, frames and words that it needs, its kind (0 by its receiver, 1 static, 2 a constructor)
abbrev sp_E : Type := MethodName × ByteArray × Nat × Option FieldType × List (Nat × Nat × Nat × Nat) × Nat × Nat × Nat × Nat × Nat
def sp_T0 : List sp_E := [
  (yX0_init, cX0_init, 2, none, [], 0, 0, 3, 65, 2),
  (yX0_save, cX0_save, 3, none, [], 0, 1, 2, 45, 0),
  (yX0_restoreLatest, cX0_restoreLatest, 3, none, [], 0, 1, 2, 45, 0),
  (yX0_dropOldest, cX0_dropOldest, 3, none, [], 0, 0, 0, 0, 0),
  (yX1_init, cX1_init, 1, none, [], 1, 0, 1, 24, 2),
  (yX2_init, cX2_init, 1, none, [], 2, 0, 1, 24, 2),
  (yX2_copyFrom, cX2_copyFrom, 4, none, [], 2, 1, 0, 0, 0),
  (yX2_height, cX2_height, 2, (some .int), [], 2, 1, 0, 0, 0),
  (yX2_at, cX2_at, 3, (some .int), [], 2, 2, 0, 0, 0),
  (yX2_putNear, cX2_putNear, 4, none, [], 2, 2, 0, 0, 0),
  (yX2_takeNear, cX2_takeNear, 3, (some .int), [], 2, 1, 0, 0, 0),
  (yX2_takeFar, cX2_takeFar, 4, (some .int), [], 2, 1, 0, 0, 0),
  (yX3_init, cX3_init, 2, none, [], 3, 0, 2, 44, 2),
  (yX3_copyFrom, cX3_copyFrom, 3, none, [], 3, 1, 1, 23, 0),
  (yX3_hasSeamstress, cX3_hasSeamstress, 2, (some .boolean), [], 3, 1, 0, 0, 0),
  (yX3_addSeamstress, cX3_addSeamstress, 2, (some .int), [], 3, 1, 0, 0, 0),
  (yX3_changeSpeed, cX3_changeSpeed, 4, (some .int), [], 3, 2, 1, 21, 0),
  (yX3_rouse, cX3_rouse, 3, (some .int), [], 3, 1, 1, 21, 0),
  (yX3_canLayOnto, cX3_canLayOnto, 2, (some .boolean), [], 3, 1, 1, 21, 0),
  (yX3_layNewShirt, cX3_layNewShirt, 4, (some .int), [], 3, 2, 1, 23, 0),
  (yX3_wakeFirstSleeper, cX3_wakeFirstSleeper, 2, none, [], 3, 0, 0, 0, 0),
  (yX3_passMinutes, cX3_passMinutes, 3, none, [], 3, 1, 5, 115, 0),
  (yX3_passMinute, cX3_passMinute, 4, none, [], 3, 1, 4, 92, 0),
  (yX3_act, cX3_act, 4, (some .int), [], 3, 2, 3, 69, 0),
  (yX3_sew, cX3_sew, 4, none, [], 3, 1, 2, 44, 0),
  (yX3_miss, cX3_miss, 2, none, [], 3, 1, 1, 21, 0),
  (yX3_takeIntoHand, cX3_takeIntoHand, 5, none, [], 3, 2, 2, 46, 0),
  (yX3_chosenPile, cX3_chosenPile, 6, (some .int), [], 3, 1, 2, 44, 0),
  (yX3_canBeTakenFrom, cX3_canBeTakenFrom, 3, (some .boolean), [], 3, 1, 1, 21, 0),
  (yX3_merit, cX3_merit, 3, (some .int), [], 3, 2, 1, 22, 0),
  (yX3_seamstressNumber, cX3_seamstressNumber, 3, (some .int), [], 3, 2, 2, 45, 0),
  (yX3_countedNumber, cX3_countedNumber, 2, (some .int), [], 3, 1, 2, 43, 0),
  (yX3_load, cX3_load, 4, (some .int), [], 3, 1, 1, 22, 0),
  (yX3_sewnShirts, cX3_sewnShirts, 1, (some .int), [], 3, 0, 1, 23, 0),
  (yX3_fullHands, cX3_fullHands, 3, (some .int), [], 3, 0, 0, 0, 0),
  (yX3_sleepers, cX3_sleepers, 3, (some .int), [], 3, 0, 0, 0, 0),
  (yX3_total, cX3_total, 4, (some .int), [], 3, 1, 0, 0, 0),
  (yX4_init, cX4_init, 1, none, [], 4, 0, 1, 24, 2),
  (yX4_copyFrom, cX4_copyFrom, 3, none, [], 4, 1, 0, 0, 0),
  (yX4_has, cX4_has, 2, (some .boolean), [], 4, 1, 0, 0, 0),
  (yX4_add, cX4_add, 3, (some .int), [], 4, 2, 0, 0, 0),
  (yX4_workOf, cX4_workOf, 2, (some .int), [], 4, 1, 0, 0, 0),
  (yX4_setWork, cX4_setWork, 3, none, [], 4, 2, 1, 21, 0),
  (yX4_move, cX4_move, 4, none, [], 4, 3, 1, 21, 0),
  (yX4_number, cX4_number, 3, (some .int), [], 4, 2, 1, 21, 0),
  (yX4_workLeft, cX4_workLeft, 3, (some .int), [], 4, 0, 0, 0, 0),
  (yX5_init, cX5_init, 1, none, [], 5, 0, 4, 86, 2),
  (yX5_hire, cX5_hire, 2, (some .int), [], 5, 1, 8, 120, 0),
  (yX5_speed, cX5_speed, 3, (some .int), [], 5, 2, 8, 121, 0),
  (yX5_lay, cX5_lay, 3, (some .int), [], 5, 2, 8, 121, 0),
  (yX5_wake, cX5_wake, 2, (some .int), [], 5, 1, 8, 121, 0),
  (yX5_pass, cX5_pass, 3, (some .int), [], 5, 1, 7, 137, 0),
  (yX5_set, cX5_set, 4, (some .int), [], 5, 2, 8, 120, 0),
  (yX5_keep, cX5_keep, 1, (some .int), [], 5, 0, 2, 45, 0),
  (yX5_goBack, cX5_goBack, 1, (some .int), [], 5, 0, 7, 100, 0),
  (yX5_undo, cX5_undo, 1, (some .int), [], 5, 0, 7, 100, 0),
  (yX5_seamstress, cX5_seamstress, 3, (some .int), [], 5, 2, 8, 121, 0),
  (yX5_pile, cX5_pile, 3, (some .int), [], 5, 2, 8, 121, 0),
  (yX5_shirt, cX5_shirt, 3, (some .int), [], 5, 2, 7, 100, 0),
  (yX5_count, cX5_count, 2, (some .int), [], 5, 1, 7, 100, 0),
  (yX5_setting, cX5_setting, 2, (some .int), [], 5, 1, 8, 120, 0),
  (yX5_choice, cX5_choice, 2, (some .int), [], 5, 1, 8, 121, 0),
  (yX5_ifPassed, cX5_ifPassed, 3, (some .int), [], 5, 2, 7, 137, 0),
  (yX5_takenShare, cX5_takenShare, 1, (some .double), [], 5, 0, 1, 23, 0),
  (yX5_evenness, cX5_evenness, 5, (some .float), [], 5, 0, 2, 45, 0),
  (yX5_checkSeamstress, cX5_checkSeamstress, 2, none, [], 5, 1, 7, 100, 0),
  (yX5_checkSpeed, cX5_checkSpeed, 1, none, [], 5, 1, 7, 100, 1),
  (yX5_checkSetting, cX5_checkSetting, 1, none, [], 5, 1, 7, 100, 1),
  (yL_cell, cL_cell, 2, (some .int), [], 7, 2, 0, 0, 1),
  (yL_low, cL_low, 2, (some .int), [], 7, 2, 0, 0, 1),
  (yL_told, cL_told, 5, (some .long), [], 7, 1, 9, 143, 1),
  (yL_act, cL_act, 5, (some .int), [], 7, 3, 9, 159, 1),
  (yL_holds, cL_holds, 16, (some .boolean), [], 7, 1, 9, 159, 1)]
def sp_T : List sp_E := sp_T0 ++ [(yL_law, cL_law, 15, (some .boolean), [], 7, 1, 10, 194, 1)]
def sp_code (e : sp_E) : Cond := if e.2.2.2.2.1 = [] then .code e.1 e.2.1 e.2.2.1 e.2.2.2.1 else .codeWith e.1 e.2.1 e.2.2.1 e.2.2.2.1 e.2.2.2.2.1
set_option maxRecDepth 100000 in
theorem sp_tc_0 : sp_code (yX0_init, cX0_init, 2, none, [], 0, 0, 3, 65, 2) ∈ sp_AW := List.mem_filter.mpr ⟨List.mem_of_getElem? (i := 137) rfl, rfl⟩
set_option maxRecDepth 100000 in
theorem sp_tc_1 : sp_code (yX0_save, cX0_save, 3, none, [], 0, 1, 2, 45, 0) ∈ sp_AW := List.mem_filter.mpr ⟨List.mem_of_getElem? (i := 273) rfl, rfl⟩
set_option maxRecDepth 100000 in
theorem sp_tc_2 : sp_code (yX0_restoreLatest, cX0_restoreLatest, 3, none, [], 0, 1, 2, 45, 0) ∈ sp_AW := List.mem_filter.mpr ⟨List.mem_of_getElem? (i := 287) rfl, rfl⟩
set_option maxRecDepth 100000 in
theorem sp_tc_3 : sp_code (yX0_dropOldest, cX0_dropOldest, 3, none, [], 0, 0, 0, 0, 0) ∈ sp_AW := List.mem_filter.mpr ⟨List.mem_of_getElem? (i := 277) rfl, rfl⟩
set_option maxRecDepth 100000 in
theorem sp_tc_4 : sp_code (yX1_init, cX1_init, 1, none, [], 1, 0, 1, 24, 2) ∈ sp_AW := List.mem_filter.mpr ⟨List.mem_of_getElem? (i := 154) rfl, rfl⟩
set_option maxRecDepth 100000 in
theorem sp_tc_5 : sp_code (yX2_init, cX2_init, 1, none, [], 2, 0, 1, 24, 2) ∈ sp_AW := List.mem_filter.mpr ⟨List.mem_of_getElem? (i := 44) rfl, rfl⟩
set_option maxRecDepth 100000 in
theorem sp_tc_6 : sp_code (yX2_copyFrom, cX2_copyFrom, 4, none, [], 2, 1, 0, 0, 0) ∈ sp_AW := List.mem_filter.mpr ⟨List.mem_of_getElem? (i := 193) rfl, rfl⟩
set_option maxRecDepth 100000 in
theorem sp_tc_7 : sp_code (yX2_height, cX2_height, 2, (some .int), [], 2, 1, 0, 0, 0) ∈ sp_AW := List.mem_filter.mpr ⟨List.mem_of_getElem? (i := 377) rfl, rfl⟩
set_option maxRecDepth 100000 in
theorem sp_tc_8 : sp_code (yX2_at, cX2_at, 3, (some .int), [], 2, 2, 0, 0, 0) ∈ sp_AW := List.mem_filter.mpr ⟨List.mem_of_getElem? (i := 389) rfl, rfl⟩
set_option maxRecDepth 100000 in
theorem sp_tc_9 : sp_code (yX2_putNear, cX2_putNear, 4, none, [], 2, 2, 0, 0, 0) ∈ sp_AW := List.mem_filter.mpr ⟨List.mem_of_getElem? (i := 532) rfl, rfl⟩
set_option maxRecDepth 100000 in
theorem sp_tc_10 : sp_code (yX2_takeNear, cX2_takeNear, 3, (some .int), [], 2, 1, 0, 0, 0) ∈ sp_AW := List.mem_filter.mpr ⟨List.mem_of_getElem? (i := 496) rfl, rfl⟩
set_option maxRecDepth 100000 in
theorem sp_tc_11 : sp_code (yX2_takeFar, cX2_takeFar, 4, (some .int), [], 2, 1, 0, 0, 0) ∈ sp_AW := List.mem_filter.mpr ⟨List.mem_of_getElem? (i := 512) rfl, rfl⟩
set_option maxRecDepth 100000 in
theorem sp_tc_12 : sp_code (yX3_init, cX3_init, 2, none, [], 3, 0, 2, 44, 2) ∈ sp_AW := List.mem_filter.mpr ⟨List.mem_of_getElem? (i := 38) rfl, rfl⟩
set_option maxRecDepth 100000 in
theorem sp_tc_13 : sp_code (yX3_copyFrom, cX3_copyFrom, 3, none, [], 3, 1, 1, 23, 0) ∈ sp_AW := List.mem_filter.mpr ⟨List.mem_of_getElem? (i := 189) rfl, rfl⟩
set_option maxRecDepth 100000 in
theorem sp_tc_14 : sp_code (yX3_hasSeamstress, cX3_hasSeamstress, 2, (some .boolean), [], 3, 1, 0, 0, 0) ∈ sp_AW := List.mem_filter.mpr ⟨List.mem_of_getElem? (i := 351) rfl, rfl⟩
set_option maxRecDepth 100000 in
theorem sp_tc_15 : sp_code (yX3_addSeamstress, cX3_addSeamstress, 2, (some .int), [], 3, 1, 0, 0, 0) ∈ sp_AW := List.mem_filter.mpr ⟨List.mem_of_getElem? (i := 437) rfl, rfl⟩
set_option maxRecDepth 100000 in
theorem sp_tc_16 : sp_code (yX3_changeSpeed, cX3_changeSpeed, 4, (some .int), [], 3, 2, 1, 21, 0) ∈ sp_AW := List.mem_filter.mpr ⟨List.mem_of_getElem? (i := 445) rfl, rfl⟩
set_option maxRecDepth 100000 in
theorem sp_tc_17 : sp_code (yX3_rouse, cX3_rouse, 3, (some .int), [], 3, 1, 1, 21, 0) ∈ sp_AW := List.mem_filter.mpr ⟨List.mem_of_getElem? (i := 453) rfl, rfl⟩
set_option maxRecDepth 100000 in
theorem sp_tc_18 : sp_code (yX3_canLayOnto, cX3_canLayOnto, 2, (some .boolean), [], 3, 1, 1, 21, 0) ∈ sp_AW := List.mem_filter.mpr ⟨List.mem_of_getElem? (i := 545) rfl, rfl⟩
set_option maxRecDepth 100000 in
theorem sp_tc_19 : sp_code (yX3_layNewShirt, cX3_layNewShirt, 4, (some .int), [], 3, 2, 1, 23, 0) ∈ sp_AW := List.mem_filter.mpr ⟨List.mem_of_getElem? (i := 524) rfl, rfl⟩
set_option maxRecDepth 100000 in
theorem sp_tc_20 : sp_code (yX3_wakeFirstSleeper, cX3_wakeFirstSleeper, 2, none, [], 3, 0, 0, 0, 0) ∈ sp_AW := List.mem_filter.mpr ⟨List.mem_of_getElem? (i := 536) rfl, rfl⟩
set_option maxRecDepth 100000 in
theorem sp_tc_21 : sp_code (yX3_passMinutes, cX3_passMinutes, 3, none, [], 3, 1, 5, 115, 0) ∈ sp_AW := List.mem_filter.mpr ⟨List.mem_of_getElem? (i := 472) rfl, rfl⟩
set_option maxRecDepth 100000 in
theorem sp_tc_22 : sp_code (yX3_passMinute, cX3_passMinute, 4, none, [], 3, 1, 4, 92, 0) ∈ sp_AW := List.mem_filter.mpr ⟨List.mem_of_getElem? (i := 476) rfl, rfl⟩
set_option maxRecDepth 100000 in
theorem sp_tc_23 : sp_code (yX3_act, cX3_act, 4, (some .int), [], 3, 2, 3, 69, 0) ∈ sp_AW := List.mem_filter.mpr ⟨List.mem_of_getElem? (i := 480) rfl, rfl⟩
set_option maxRecDepth 100000 in
theorem sp_tc_24 : sp_code (yX3_sew, cX3_sew, 4, none, [], 3, 1, 2, 44, 0) ∈ sp_AW := List.mem_filter.mpr ⟨List.mem_of_getElem? (i := 484) rfl, rfl⟩
set_option maxRecDepth 100000 in
theorem sp_tc_25 : sp_code (yX3_miss, cX3_miss, 2, none, [], 3, 1, 1, 21, 0) ∈ sp_AW := List.mem_filter.mpr ⟨List.mem_of_getElem? (i := 516) rfl, rfl⟩
set_option maxRecDepth 100000 in
theorem sp_tc_26 : sp_code (yX3_takeIntoHand, cX3_takeIntoHand, 5, none, [], 3, 2, 2, 46, 0) ∈ sp_AW := List.mem_filter.mpr ⟨List.mem_of_getElem? (i := 520) rfl, rfl⟩
set_option maxRecDepth 100000 in
theorem sp_tc_27 : sp_code (yX3_chosenPile, cX3_chosenPile, 6, (some .int), [], 3, 1, 2, 44, 0) ∈ sp_AW := List.mem_filter.mpr ⟨List.mem_of_getElem? (i := 500) rfl, rfl⟩
set_option maxRecDepth 100000 in
theorem sp_tc_28 : sp_code (yX3_canBeTakenFrom, cX3_canBeTakenFrom, 3, (some .boolean), [], 3, 1, 1, 21, 0) ∈ sp_AW := List.mem_filter.mpr ⟨List.mem_of_getElem? (i := 504) rfl, rfl⟩
set_option maxRecDepth 100000 in
theorem sp_tc_29 : sp_code (yX3_merit, cX3_merit, 3, (some .int), [], 3, 2, 1, 22, 0) ∈ sp_AW := List.mem_filter.mpr ⟨List.mem_of_getElem? (i := 508) rfl, rfl⟩
set_option maxRecDepth 100000 in
theorem sp_tc_30 : sp_code (yX3_seamstressNumber, cX3_seamstressNumber, 3, (some .int), [], 3, 2, 2, 45, 0) ∈ sp_AW := List.mem_filter.mpr ⟨List.mem_of_getElem? (i := 372) rfl, rfl⟩
set_option maxRecDepth 100000 in
theorem sp_tc_31 : sp_code (yX3_countedNumber, cX3_countedNumber, 2, (some .int), [], 3, 1, 2, 43, 0) ∈ sp_AW := List.mem_filter.mpr ⟨List.mem_of_getElem? (i := 311) rfl, rfl⟩
set_option maxRecDepth 100000 in
theorem sp_tc_32 : sp_code (yX3_load, cX3_load, 4, (some .int), [], 3, 1, 1, 22, 0) ∈ sp_AW := List.mem_filter.mpr ⟨List.mem_of_getElem? (i := 381) rfl, rfl⟩
set_option maxRecDepth 100000 in
theorem sp_tc_33 : sp_code (yX3_sewnShirts, cX3_sewnShirts, 1, (some .int), [], 3, 0, 1, 23, 0) ∈ sp_AW := List.mem_filter.mpr ⟨List.mem_of_getElem? (i := 315) rfl, rfl⟩
set_option maxRecDepth 100000 in
theorem sp_tc_34 : sp_code (yX3_fullHands, cX3_fullHands, 3, (some .int), [], 3, 0, 0, 0, 0) ∈ sp_AW := List.mem_filter.mpr ⟨List.mem_of_getElem? (i := 323) rfl, rfl⟩
set_option maxRecDepth 100000 in
theorem sp_tc_35 : sp_code (yX3_sleepers, cX3_sleepers, 3, (some .int), [], 3, 0, 0, 0, 0) ∈ sp_AW := List.mem_filter.mpr ⟨List.mem_of_getElem? (i := 327) rfl, rfl⟩
set_option maxRecDepth 100000 in
theorem sp_tc_36 : sp_code (yX3_total, cX3_total, 4, (some .int), [], 3, 1, 0, 0, 0) ∈ sp_AW := List.mem_filter.mpr ⟨List.mem_of_getElem? (i := 319) rfl, rfl⟩
set_option maxRecDepth 100000 in
theorem sp_tc_37 : sp_code (yX4_init, cX4_init, 1, none, [], 4, 0, 1, 24, 2) ∈ sp_AW := List.mem_filter.mpr ⟨List.mem_of_getElem? (i := 62) rfl, rfl⟩
set_option maxRecDepth 100000 in
theorem sp_tc_38 : sp_code (yX4_copyFrom, cX4_copyFrom, 3, none, [], 4, 1, 0, 0, 0) ∈ sp_AW := List.mem_filter.mpr ⟨List.mem_of_getElem? (i := 197) rfl, rfl⟩
set_option maxRecDepth 100000 in
theorem sp_tc_39 : sp_code (yX4_has, cX4_has, 2, (some .boolean), [], 4, 1, 0, 0, 0) ∈ sp_AW := List.mem_filter.mpr ⟨List.mem_of_getElem? (i := 409) rfl, rfl⟩
set_option maxRecDepth 100000 in
theorem sp_tc_40 : sp_code (yX4_add, cX4_add, 3, (some .int), [], 4, 2, 0, 0, 0) ∈ sp_AW := List.mem_filter.mpr ⟨List.mem_of_getElem? (i := 528) rfl, rfl⟩
set_option maxRecDepth 100000 in
theorem sp_tc_41 : sp_code (yX4_workOf, cX4_workOf, 2, (some .int), [], 4, 1, 0, 0, 0) ∈ sp_AW := List.mem_filter.mpr ⟨List.mem_of_getElem? (i := 385) rfl, rfl⟩
set_option maxRecDepth 100000 in
theorem sp_tc_42 : sp_code (yX4_setWork, cX4_setWork, 3, none, [], 4, 2, 1, 21, 0) ∈ sp_AW := List.mem_filter.mpr ⟨List.mem_of_getElem? (i := 488) rfl, rfl⟩
set_option maxRecDepth 100000 in
theorem sp_tc_43 : sp_code (yX4_move, cX4_move, 4, none, [], 4, 3, 1, 21, 0) ∈ sp_AW := List.mem_filter.mpr ⟨List.mem_of_getElem? (i := 492) rfl, rfl⟩
set_option maxRecDepth 100000 in
theorem sp_tc_44 : sp_code (yX4_number, cX4_number, 3, (some .int), [], 4, 2, 1, 21, 0) ∈ sp_AW := List.mem_filter.mpr ⟨List.mem_of_getElem? (i := 405) rfl, rfl⟩
set_option maxRecDepth 100000 in
theorem sp_tc_45 : sp_code (yX4_workLeft, cX4_workLeft, 3, (some .int), [], 4, 0, 0, 0, 0) ∈ sp_AW := List.mem_filter.mpr ⟨List.mem_of_getElem? (i := 331) rfl, rfl⟩
set_option maxRecDepth 100000 in
theorem sp_tc_46 : sp_code (yX5_init, cX5_init, 1, none, [], 5, 0, 4, 86, 2) ∈ sp_AW := List.mem_filter.mpr ⟨List.mem_of_getElem? (i := 30) rfl, rfl⟩
set_option maxRecDepth 100000 in
theorem sp_tc_47 : sp_code (yX5_hire, cX5_hire, 2, (some .int), [], 5, 1, 8, 120, 0) ∈ sp_AW := List.mem_filter.mpr ⟨List.mem_of_getElem? (i := 428) rfl, rfl⟩
set_option maxRecDepth 100000 in
theorem sp_tc_48 : sp_code (yX5_speed, cX5_speed, 3, (some .int), [], 5, 2, 8, 121, 0) ∈ sp_AW := List.mem_filter.mpr ⟨List.mem_of_getElem? (i := 441) rfl, rfl⟩
set_option maxRecDepth 100000 in
theorem sp_tc_49 : sp_code (yX5_lay, cX5_lay, 3, (some .int), [], 5, 2, 8, 121, 0) ∈ sp_AW := List.mem_filter.mpr ⟨List.mem_of_getElem? (i := 540) rfl, rfl⟩
set_option maxRecDepth 100000 in
theorem sp_tc_50 : sp_code (yX5_wake, cX5_wake, 2, (some .int), [], 5, 1, 8, 121, 0) ∈ sp_AW := List.mem_filter.mpr ⟨List.mem_of_getElem? (i := 449) rfl, rfl⟩
set_option maxRecDepth 100000 in
theorem sp_tc_51 : sp_code (yX5_pass, cX5_pass, 3, (some .int), [], 5, 1, 7, 137, 0) ∈ sp_AW := List.mem_filter.mpr ⟨List.mem_of_getElem? (i := 466) rfl, rfl⟩
set_option maxRecDepth 100000 in
theorem sp_tc_52 : sp_code (yX5_set, cX5_set, 4, (some .int), [], 5, 2, 8, 120, 0) ∈ sp_AW := List.mem_filter.mpr ⟨List.mem_of_getElem? (i := 457) rfl, rfl⟩
set_option maxRecDepth 100000 in
theorem sp_tc_53 : sp_code (yX5_keep, cX5_keep, 1, (some .int), [], 5, 0, 2, 45, 0) ∈ sp_AW := List.mem_filter.mpr ⟨List.mem_of_getElem? (i := 185) rfl, rfl⟩
set_option maxRecDepth 100000 in
theorem sp_tc_54 : sp_code (yX5_goBack, cX5_goBack, 1, (some .int), [], 5, 0, 7, 100, 0) ∈ sp_AW := List.mem_filter.mpr ⟨List.mem_of_getElem? (i := 201) rfl, rfl⟩
set_option maxRecDepth 100000 in
theorem sp_tc_55 : sp_code (yX5_undo, cX5_undo, 1, (some .int), [], 5, 0, 7, 100, 0) ∈ sp_AW := List.mem_filter.mpr ⟨List.mem_of_getElem? (i := 282) rfl, rfl⟩
set_option maxRecDepth 100000 in
theorem sp_tc_56 : sp_code (yX5_seamstress, cX5_seamstress, 3, (some .int), [], 5, 2, 8, 121, 0) ∈ sp_AW := List.mem_filter.mpr ⟨List.mem_of_getElem? (i := 343) rfl, rfl⟩
set_option maxRecDepth 100000 in
theorem sp_tc_57 : sp_code (yX5_pile, cX5_pile, 3, (some .int), [], 5, 2, 8, 121, 0) ∈ sp_AW := List.mem_filter.mpr ⟨List.mem_of_getElem? (i := 393) rfl, rfl⟩
set_option maxRecDepth 100000 in
theorem sp_tc_58 : sp_code (yX5_shirt, cX5_shirt, 3, (some .int), [], 5, 2, 7, 100, 0) ∈ sp_AW := List.mem_filter.mpr ⟨List.mem_of_getElem? (i := 399) rfl, rfl⟩
set_option maxRecDepth 100000 in
theorem sp_tc_59 : sp_code (yX5_count, cX5_count, 2, (some .int), [], 5, 1, 7, 100, 0) ∈ sp_AW := List.mem_filter.mpr ⟨List.mem_of_getElem? (i := 291) rfl, rfl⟩
set_option maxRecDepth 100000 in
theorem sp_tc_60 : sp_code (yX5_setting, cX5_setting, 2, (some .int), [], 5, 1, 8, 120, 0) ∈ sp_AW := List.mem_filter.mpr ⟨List.mem_of_getElem? (i := 413) rfl, rfl⟩
set_option maxRecDepth 100000 in
theorem sp_tc_61 : sp_code (yX5_choice, cX5_choice, 2, (some .int), [], 5, 1, 8, 121, 0) ∈ sp_AW := List.mem_filter.mpr ⟨List.mem_of_getElem? (i := 554) rfl, rfl⟩
set_option maxRecDepth 100000 in
theorem sp_tc_62 : sp_code (yX5_ifPassed, cX5_ifPassed, 3, (some .int), [], 5, 2, 7, 137, 0) ∈ sp_AW := List.mem_filter.mpr ⟨List.mem_of_getElem? (i := 569) rfl, rfl⟩
set_option maxRecDepth 100000 in
theorem sp_tc_63 : sp_code (yX5_takenShare, cX5_takenShare, 1, (some .double), [], 5, 0, 1, 23, 0) ∈ sp_AW := List.mem_filter.mpr ⟨List.mem_of_getElem? (i := 559) rfl, rfl⟩
set_option maxRecDepth 100000 in
theorem sp_tc_64 : sp_code (yX5_evenness, cX5_evenness, 5, (some .float), [], 5, 0, 2, 45, 0) ∈ sp_AW := List.mem_filter.mpr ⟨List.mem_of_getElem? (i := 564) rfl, rfl⟩
set_option maxRecDepth 100000 in
theorem sp_tc_65 : sp_code (yX5_checkSeamstress, cX5_checkSeamstress, 2, none, [], 5, 1, 7, 100, 0) ∈ sp_AW := List.mem_filter.mpr ⟨List.mem_of_getElem? (i := 347) rfl, rfl⟩
set_option maxRecDepth 100000 in
theorem sp_tc_66 : sp_code (yX5_checkSpeed, cX5_checkSpeed, 1, none, [], 5, 1, 7, 100, 1) ∈ sp_AW := List.mem_filter.mpr ⟨List.mem_of_getElem? (i := 431) rfl, rfl⟩
set_option maxRecDepth 100000 in
theorem sp_tc_67 : sp_code (yX5_checkSetting, cX5_checkSetting, 1, none, [], 5, 1, 7, 100, 1) ∈ sp_AW := List.mem_filter.mpr ⟨List.mem_of_getElem? (i := 416) rfl, rfl⟩
set_option maxRecDepth 100000 in
theorem sp_tc_68 : sp_code (yL_cell, cL_cell, 2, (some .int), [], 7, 2, 0, 0, 1) ∈ sp_AW := List.mem_filter.mpr ⟨List.mem_of_getElem? (i := 334) rfl, rfl⟩
set_option maxRecDepth 100000 in
theorem sp_tc_69 : sp_code (yL_low, cL_low, 2, (some .int), [], 7, 2, 0, 0, 1) ∈ sp_AW := List.mem_filter.mpr ⟨List.mem_of_getElem? (i := 423) rfl, rfl⟩
set_option maxRecDepth 100000 in
theorem sp_tc_70 : sp_code (yL_told, cL_told, 5, (some .long), [], 7, 1, 9, 143, 1) ∈ sp_AW := List.mem_filter.mpr ⟨List.mem_of_getElem? (i := 337) rfl, rfl⟩
set_option maxRecDepth 100000 in
theorem sp_tc_71 : sp_code (yL_act, cL_act, 5, (some .int), [], 7, 3, 9, 159, 1) ∈ sp_AW := List.mem_filter.mpr ⟨List.mem_of_getElem? (i := 420) rfl, rfl⟩
set_option maxRecDepth 100000 in
theorem sp_tc_72 : sp_code (yL_holds, cL_holds, 16, (some .boolean), [], 7, 1, 9, 159, 1) ∈ sp_AW := List.mem_filter.mpr ⟨List.mem_of_getElem? (i := 550) rfl, rfl⟩
set_option maxRecDepth 100000 in
theorem sp_T_code : ∀ w ∈ sp_T0.map sp_code, w ∈ sp_AW := List.forall_mem_cons.mpr ⟨sp_tc_0, List.forall_mem_cons.mpr ⟨sp_tc_1, List.forall_mem_cons.mpr ⟨sp_tc_2, List.forall_mem_cons.mpr ⟨sp_tc_3, List.forall_mem_cons.mpr ⟨sp_tc_4, List.forall_mem_cons.mpr ⟨sp_tc_5, List.forall_mem_cons.mpr ⟨sp_tc_6, List.forall_mem_cons.mpr ⟨sp_tc_7, List.forall_mem_cons.mpr ⟨sp_tc_8, List.forall_mem_cons.mpr ⟨sp_tc_9, List.forall_mem_cons.mpr ⟨sp_tc_10, List.forall_mem_cons.mpr ⟨sp_tc_11, List.forall_mem_cons.mpr ⟨sp_tc_12, List.forall_mem_cons.mpr ⟨sp_tc_13, List.forall_mem_cons.mpr ⟨sp_tc_14, List.forall_mem_cons.mpr ⟨sp_tc_15, List.forall_mem_cons.mpr ⟨sp_tc_16, List.forall_mem_cons.mpr ⟨sp_tc_17, List.forall_mem_cons.mpr ⟨sp_tc_18, List.forall_mem_cons.mpr ⟨sp_tc_19, List.forall_mem_cons.mpr ⟨sp_tc_20, List.forall_mem_cons.mpr ⟨sp_tc_21, List.forall_mem_cons.mpr ⟨sp_tc_22, List.forall_mem_cons.mpr ⟨sp_tc_23, List.forall_mem_cons.mpr ⟨sp_tc_24, List.forall_mem_cons.mpr ⟨sp_tc_25, List.forall_mem_cons.mpr ⟨sp_tc_26, List.forall_mem_cons.mpr ⟨sp_tc_27, List.forall_mem_cons.mpr ⟨sp_tc_28, List.forall_mem_cons.mpr ⟨sp_tc_29, List.forall_mem_cons.mpr ⟨sp_tc_30, List.forall_mem_cons.mpr ⟨sp_tc_31, List.forall_mem_cons.mpr ⟨sp_tc_32, List.forall_mem_cons.mpr ⟨sp_tc_33, List.forall_mem_cons.mpr ⟨sp_tc_34, List.forall_mem_cons.mpr ⟨sp_tc_35, List.forall_mem_cons.mpr ⟨sp_tc_36, List.forall_mem_cons.mpr ⟨sp_tc_37, List.forall_mem_cons.mpr ⟨sp_tc_38, List.forall_mem_cons.mpr ⟨sp_tc_39, List.forall_mem_cons.mpr ⟨sp_tc_40, List.forall_mem_cons.mpr ⟨sp_tc_41, List.forall_mem_cons.mpr ⟨sp_tc_42, List.forall_mem_cons.mpr ⟨sp_tc_43, List.forall_mem_cons.mpr ⟨sp_tc_44, List.forall_mem_cons.mpr ⟨sp_tc_45, List.forall_mem_cons.mpr ⟨sp_tc_46, List.forall_mem_cons.mpr ⟨sp_tc_47, List.forall_mem_cons.mpr ⟨sp_tc_48, List.forall_mem_cons.mpr ⟨sp_tc_49, List.forall_mem_cons.mpr ⟨sp_tc_50, List.forall_mem_cons.mpr ⟨sp_tc_51, List.forall_mem_cons.mpr ⟨sp_tc_52, List.forall_mem_cons.mpr ⟨sp_tc_53, List.forall_mem_cons.mpr ⟨sp_tc_54, List.forall_mem_cons.mpr ⟨sp_tc_55, List.forall_mem_cons.mpr ⟨sp_tc_56, List.forall_mem_cons.mpr ⟨sp_tc_57, List.forall_mem_cons.mpr ⟨sp_tc_58, List.forall_mem_cons.mpr ⟨sp_tc_59, List.forall_mem_cons.mpr ⟨sp_tc_60, List.forall_mem_cons.mpr ⟨sp_tc_61, List.forall_mem_cons.mpr ⟨sp_tc_62, List.forall_mem_cons.mpr ⟨sp_tc_63, List.forall_mem_cons.mpr ⟨sp_tc_64, List.forall_mem_cons.mpr ⟨sp_tc_65, List.forall_mem_cons.mpr ⟨sp_tc_66, List.forall_mem_cons.mpr ⟨sp_tc_67, List.forall_mem_cons.mpr ⟨sp_tc_68, List.forall_mem_cons.mpr ⟨sp_tc_69, List.forall_mem_cons.mpr ⟨sp_tc_70, List.forall_mem_cons.mpr ⟨sp_tc_71, List.forall_mem_cons.mpr ⟨sp_tc_72, fun _ h => absurd h List.not_mem_nil⟩⟩⟩⟩⟩⟩⟩⟩⟩⟩⟩⟩⟩⟩⟩⟩⟩⟩⟩⟩⟩⟩⟩⟩⟩⟩⟩⟩⟩⟩⟩⟩⟩⟩⟩⟩⟩⟩⟩⟩⟩⟩⟩⟩⟩⟩⟩⟩⟩⟩⟩⟩⟩⟩⟩⟩⟩⟩⟩⟩⟩⟩⟩⟩⟩⟩⟩⟩⟩⟩⟩⟩⟩
set_option maxRecDepth 100000 in
theorem sp_T_ini : ∀ w ∈ sp_T0.map (fun e => Cond.initialized e.1.cls), w ∈ sp_AW := sp_pick _ [18, 18, 18, 18, 19, 16, 16, 16, 16, 16, 16, 16, 15, 15, 15, 15, 15, 15, 15, 15, 15, 15, 15, 15, 15, 15, 15, 15, 15, 15, 15, 15, 15, 15, 15, 15, 15, 17, 17, 17, 17, 17, 17, 17, 17, 17, 14, 14, 14, 14, 14, 14, 14, 14, 14, 14, 14, 14, 14, 14, 14, 14, 14, 14, 14, 14, 14, 14, 13, 13, 13, 13, 13] (by decide +kernel) (by decide +kernel)
set_option maxRecDepth 100000 in
theorem sp_T_inst : ∀ w ∈ (sp_T0.filter (fun e => decide (e.2.2.2.2.2.2.2.2.2 ≠ 1))).map (fun e => Cond.instanceMethod e.1), w ∈ sp_AW := sp_pick _ [136, 271, 285, 276, 153, 43, 191, 375, 387, 530, 494, 510, 37, 187, 349, 435, 443, 451, 543, 522, 535, 470, 475, 479, 483, 515, 519, 498, 503, 507, 370, 309, 379, 313, 322, 326, 317, 61, 195, 407, 526, 383, 486, 490, 403, 329, 29, 426, 439, 538, 447, 464, 455, 183, 199, 280, 341, 391, 397, 289, 411, 552, 567, 557, 562, 346] (by decide +kernel) (by decide +kernel)
set_option maxRecDepth 100000 in
theorem sp_T_stat : ∀ w ∈ (sp_T0.filter (fun e => decide (e.2.2.2.2.2.2.2.2.2 = 1))).map (fun e => Cond.static e.1), w ∈ sp_AW := sp_pick _ [430, 415, 333, 422, 336, 419, 549] (by decide +kernel) (by decide +kernel)
set_option maxRecDepth 100000 in
theorem sp_T_sel : ∀ w ∈ (sp_T0.filter (fun e => decide (e.2.2.2.2.2.2.2.2.2 = 0))).map (fun e => Cond.selects e.1.cls e.1 e.1), w ∈ sp_AW := sp_pick _ [272, 286, 1, 192, 376, 388, 531, 495, 511, 188, 350, 436, 444, 452, 544, 523, 12, 471, 5, 6, 7, 10, 11, 499, 8, 9, 371, 310, 380, 314, 2, 3, 318, 196, 408, 527, 384, 487, 491, 404, 330, 427, 440, 539, 448, 465, 456, 184, 200, 281, 342, 392, 398, 290, 412, 553, 568, 558, 563, 4] (by decide +kernel) (by decide +kernel)
def sp_cls (c : Nat) : String := match c with
  | 0 => RX0
  | 1 => RX1
  | 2 => RX2
  | 3 => RX3
  | 4 => RX4
  | 5 => RX5
  | _ => RL
def sp_Tf (c : Nat) : u_T := match c with
  | 0 => TX0
  | 1 => TX1
  | 2 => TX2
  | 3 => TX3
  | 4 => TX4
  | _ => TX5
def sp_N (c : Nat) : Nat := match c with
  | 0 => 2
  | 1 => 2
  | 2 => 2
  | 3 => 15
  | 4 => 4
  | _ => 6
def sp_ty (c : Nat) : Nat → FieldType := match c with
  | 0 => tyX0
  | 1 => tyX1
  | 2 => tyX2
  | 3 => tyX3
  | 4 => tyX4
  | _ => tyX5
def sp_flT : List (Nat × Nat × (Nat × Nat)) := [(2, 11, 2, 0), (2, 19, 2, 1), (4, 21, 4, 0), (4, 9, 4, 1), (4, 15, 4, 2), (4, 18, 4, 3), (3, 58, 3, 0), (3, 9, 3, 1), (3, 61, 3, 2), (3, 64, 3, 3), (3, 15, 3, 4), (3, 19, 3, 5), (3, 22, 3, 6), (3, 25, 3, 7), (3, 28, 3, 8), (3, 32, 3, 9), (3, 35, 3, 10), (3, 38, 3, 11), (3, 41, 3, 12), (3, 47, 3, 13), (3, 54, 3, 14), (0, 11, 0, 0), (0, 18, 0, 1), (1, 9, 1, 0), (5, 10, 5, 0), (5, 16, 5, 1), (5, 19, 5, 2), (5, 25, 5, 3), (5, 32, 5, 4), (5, 138, 5, 5)]
def sp_fnT : List (Nat × Nat × (Nat × Nat)) := [(3, 155, 2, 0), (3, 82, 4, 0), (5, 175, 4, 0), (5, 142, 3, 0), (5, 40, 3, 1), (5, 217, 3, 2), (5, 104, 3, 4), (5, 204, 3, 10), (5, 211, 3, 12), (5, 162, 3, 13), (5, 171, 3, 14), (5, 147, 0, 1)]
def sp_flw (q : Nat × Nat × Nat × Nat) : Cond := .fieldLink (sp_cls q.1) q.2.1 (sp_Tf q.2.2.1 q.2.2.2).1 (sp_Tf q.2.2.1 q.2.2.2).2.1 (sp_Tf q.2.2.1 q.2.2.2).2.2.1
def sp_fnw (q : Nat × Nat × Nat × Nat) : Cond := .fieldLinkNest (sp_cls q.1) q.2.1 (sp_Tf q.2.2.1 q.2.2.2).1 (sp_Tf q.2.2.1 q.2.2.2).2.1 (sp_Tf q.2.2.1 q.2.2.2).2.2.1 "SewingPiles"
set_option maxRecDepth 100000 in
theorem sp_fl_in : ∀ w ∈ sp_flT.map sp_flw, w ∈ sp_AW := sp_pick _ [48, 50, 64, 67, 68, 69, 79, 81, 83, 85, 86, 88, 89, 90, 91, 92, 93, 95, 96, 98, 100, 142, 143, 156, 163, 164, 165, 166, 167, 168] (by decide +kernel) (by decide +kernel)
theorem sp_fn_in : ∀ w ∈ sp_fnT.map sp_fnw, w ∈ lw_tbl := sp_pickT _ [49, 65, 66, 80, 82, 84, 87, 94, 97, 99, 101, 144] (by decide +kernel)
theorem sp_fl_ok : ∀ q ∈ sp_flT, q.2.2.1 < 6 ∧ q.2.2.2 < sp_N q.2.2.1 := by decide +kernel
theorem sp_fn_ok : ∀ q ∈ sp_fnT, q.2.2.1 < 6 ∧ q.2.2.2 < sp_N q.2.2.1 := by decide +kernel
def sp_stT : List (Nat × Nat × Nat) := [(5, 95, 0), (5, 99, 1)]
def sp_stn (k : Nat) : String := if k = 0 then "LEAST_SETTINGS" else "MOST_SETTINGS"
set_option maxRecDepth 100000 in
theorem sp_st_in : ∀ w ∈ sp_stT.map (fun q => Cond.fieldLink (sp_cls q.1) q.2.1 "SewingPiles" (sp_stn q.2.2) "[I"), w ∈ sp_AW := sp_pick _ [458, 460] (by decide +kernel) (by decide +kernel)
def sp_clT : List (Nat × Nat × Int64) := [(7, 8, 3), (7, 10, 31)]
set_option maxRecDepth 100000 in
theorem sp_cl_in : ∀ w ∈ sp_clT.map (fun q => Cond.constantLong (sp_cls q.1) q.2.1 q.2.2), w ∈ sp_AW := sp_pick _ [338, 339] (by decide +kernel) (by decide +kernel)
def sp_cdT : List (Nat × Nat × UInt64) := []
set_option maxRecDepth 100000 in
theorem sp_cd_in : ∀ w ∈ sp_cdT.map (fun q => Cond.constantDouble (sp_cls q.1) q.2.1 q.2.2), w ∈ sp_AW := sp_pick _ [] (by decide +kernel) (by decide +kernel)
def sp_cfT : List (Nat × Nat × UInt32) := []
set_option maxRecDepth 100000 in
theorem sp_cf_in : ∀ w ∈ sp_cfT.map (fun q => Cond.constantFloat (sp_cls q.1) q.2.1 q.2.2), w ∈ sp_AW := sp_pick _ [] (by decide +kernel) (by decide +kernel)
def sp_ciT : List (Nat × Nat × Int32) := [(7, 7, 2147483647)]
set_option maxRecDepth 100000 in
theorem sp_ci_in : ∀ w ∈ sp_ciT.map (fun q => Cond.constant (sp_cls q.1) q.2.1 q.2.2), w ∈ sp_AW := sp_pick _ [424] (by decide +kernel) (by decide +kernel)
-- new of a class: its number
def sp_nwT : List (Nat × Nat × Nat) := [(7, 13, 5), (5, 7, 3), (3, 44, 2), (3, 51, 4), (5, 22, 0), (0, 9, 3), (5, 29, 1)]
set_option maxRecDepth 100000 in
theorem sp_nw_in : ∀ w ∈ sp_nwT.map (fun q => Cond.classLink (sp_cls q.1) q.2.1 (sp_cls q.2.2)), w ∈ sp_AW := sp_pick _ [26, 34, 40, 58, 133, 139, 150] (by decide +kernel) (by decide +kernel)
set_option maxRecDepth 100000 in
theorem sp_nw_i1 : ∀ w ∈ sp_nwT.map (fun q => Cond.instantiable (sp_cls q.2.2) (sp_N q.2.2)), w ∈ sp_AW := sp_pick _ [27, 35, 41, 59, 134, 35, 151] (by decide +kernel) (by decide +kernel)
set_option maxRecDepth 100000 in
theorem sp_nw_i2 : ∀ w ∈ sp_nwT.map (fun q => Cond.initialized (sp_cls q.2.2)), w ∈ sp_AW := sp_pick _ [14, 15, 16, 17, 18, 15, 19] (by decide +kernel) (by decide +kernel)
theorem sp_nw_ok : ∀ q ∈ sp_nwT, q.2.2 < 6 := by decide +kernel
def sp_anT : List (Nat × Nat × Unit) := [(0, 9, ())]
set_option maxRecDepth 100000 in
theorem sp_an_in : ∀ w ∈ sp_anT.map (fun q => Cond.classLink (sp_cls q.1) q.2.1 RX3), w ∈ sp_AW := sp_pick _ [139] (by decide +kernel) (by decide +kernel)
def sp_muT : List (Nat × Nat × Unit) := [(2, 17, ())]
set_option maxRecDepth 100000 in
theorem sp_mu_in : ∀ w ∈ sp_muT.map (fun q => Cond.classLink (sp_cls q.1) q.2.1 "[[I"), w ∈ sp_AW := sp_pick _ [46] (by decide +kernel) (by decide +kernel)
set_option maxRecDepth 100000 in
theorem sp_arr_in : ∀ w ∈ [Cond.arrayClass .int, Cond.arrayClass .boolean, Cond.arrayClass .char], w ∈ sp_AW := sp_pick _ [56, 57, 162] (by decide +kernel) (by decide +kernel)
def sp_caT : List (Nat × Nat × Nat) := [(7, 68, 46), (5, 9, 12), (5, 24, 0), (0, 17, 12), (7, 73, 53), (5, 135, 13), (3, 67, 6), (3, 71, 38), (7, 92, 54), (5, 51, 1), (0, 22, 3), (0, 25, 13), (7, 81, 55), (5, 152, 2), (7, 12, 59), (5, 192, 31), (3, 145, 33), (3, 158, 36), (3, 162, 34), (3, 149, 35), (3, 165, 45), (7, 77, 68), (7, 69, 70), (7, 18, 56), (5, 59, 65), (5, 293, 14), (5, 157, 30), (3, 74, 14), (3, 78, 7), (3, 152, 32), (3, 123, 41), (3, 142, 8), (7, 22, 57), (5, 166, 8), (7, 25, 58), (5, 187, 44), (4, 25, 39), (7, 28, 60), (5, 92, 67), (7, 84, 71), (7, 31, 69), (7, 36, 47), (5, 36, 66), (5, 55, 15), (7, 39, 48), (5, 62, 16), (7, 42, 50), (5, 80, 17), (7, 45, 52), (7, 48, 51), (5, 85, 33), (5, 89, 21), (3, 96, 22), (3, 100, 23), (3, 107, 24), (3, 126, 42), (3, 129, 43), (3, 111, 10), (3, 114, 27), (3, 136, 28), (3, 139, 29), (3, 117, 11), (3, 120, 25), (3, 104, 26), (3, 133, 19), (3, 85, 40), (3, 89, 9), (3, 93, 20), (7, 51, 49), (5, 71, 18), (5, 77, 19), (7, 88, 72), (7, 54, 61), (5, 195, 27), (7, 57, 63), (5, 207, 36), (7, 61, 64), (5, 220, 32), (7, 65, 62), (5, 214, 45)]
def sp_cnT : List (Nat × Nat × Nat) := [(3, 46, 5), (3, 53, 37), (5, 31, 4)]
def sp_nm (y : Nat) : MethodName := match sp_T[y]? with
  | some e => e.1
  | none => yL_law
set_option maxRecDepth 100000 in
theorem sp_ca_in : ∀ w ∈ sp_caT.map (fun q => Cond.methodLink (sp_cls q.1) q.2.1 (sp_nm q.2.2)), w ∈ sp_AW := sp_pick _ [28, 36, 135, 141, 182, 186, 190, 194, 198, 270, 274, 278, 279, 284, 288, 308, 312, 316, 320, 324, 328, 332, 335, 340, 344, 348, 369, 373, 374, 378, 382, 386, 390, 395, 396, 402, 406, 410, 414, 418, 421, 425, 429, 434, 438, 442, 446, 450, 454, 463, 468, 469, 473, 477, 481, 485, 489, 493, 497, 501, 505, 509, 513, 517, 521, 525, 529, 533, 537, 542, 547, 548, 551, 555, 556, 560, 561, 565, 566, 571] (by decide +kernel) (by decide +kernel)
theorem sp_cn_in : ∀ w ∈ sp_cnT.map (fun q => Cond.methodLinkNest (sp_cls q.1) q.2.1 (sp_nm q.2.2) "SewingPiles"), w ∈ lw_tbl := sp_pickT _ [42, 60, 152] (by decide +kernel)
theorem sp_ca_ok : ∀ q ∈ sp_caT, q.2.2 < 73 := by decide +kernel
theorem sp_cn_ok : ∀ q ∈ sp_cnT, q.2.2 < 73 := by decide +kernel
theorem sp_T0_len : sp_T0.length = 73 := by decide +kernel
theorem sp_T_ok : ∀ e ∈ sp_T0, (plainName e.1.cls = true ∧ e.1.cls ≠ "java/lang/invoke/MethodHandle" ∧ e.1.cls ≠ "java/lang/invoke/VarHandle") ∧ (parseMethodDescriptor e.1.desc).map (fun d => d.parameters.length) = some e.2.2.2.2.2.2.1 ∧ e.1.cls = sp_cls e.2.2.2.2.2.1 ∧ (e.2.2.2.2.2.2.2.2.2 = 2 → e.1.name = "<init>" ∧ e.2.2.2.1 = none) := by decide +kernel
def sp_coT : List (Nat × Nat × Unit) := [(5, 1, ()), (3, 3, ()), (2, 3, ()), (4, 3, ()), (0, 3, ()), (1, 3, ())]
set_option maxRecDepth 100000 in
theorem sp_co_in : ∀ w ∈ sp_coT.map (fun q => Cond.methodLink (sp_cls q.1) q.2.1 objectInit), w ∈ sp_AW := sp_pick _ [31, 39, 45, 63, 138, 155] (by decide +kernel) (by decide +kernel)
set_option maxRecDepth 100000 in
theorem sp_ob_in : ∀ w ∈ [Cond.instanceMethod objectInit, Cond.code objectInit ⟨#[0xb1]⟩ 1 none], w ∈ sp_AW := sp_pick _ [32, 33] (by decide +kernel) (by decide +kernel)
def sp_cjT : List (Nat × Nat × Nat) := []
-- throws: method, place: class of what is thrown, pool places of the class, the text, the constructor, whether the text stands by a wide index, the text
def sp_thT : List (Nat × Nat × (String × Nat × Nat × Nat × Bool × String)) := [(47, 16, "java/lang/IllegalStateException", 44, 46, 48, false, "there are 6 seamstresses"), (49, 16, "java/lang/IllegalArgumentException", 66, 68, 70, false, "work is out of range"), (49, 37, "java/lang/IllegalStateException", 44, 75, 48, false, "the pile is full, or all shirts came"), (51, 11, "java/lang/IllegalArgumentException", 66, 83, 70, false, "minutes is out of range"), (52, 22, "java/lang/IllegalArgumentException", 66, 102, 70, false, "value is out of range"), (54, 7, "java/lang/IllegalStateException", 44, 145, 48, false, "there is no snapshot"), (55, 10, "java/lang/IllegalStateException", 44, 150, 48, false, "there is no saved state"), (56, 15, "java/lang/IllegalArgumentException", 66, 155, 70, false, "what is not 0 to 9"), (57, 9, "java/lang/IllegalArgumentException", 66, 160, 70, false, "place is below 0"), (58, 18, "java/lang/IndexOutOfBoundsException", 180, 182, 184, false, "there was no such shirt so far"), (58, 37, "java/lang/IllegalArgumentException", 66, 185, 70, false, "what is not 0 to 2"), (59, 10, "java/lang/IllegalArgumentException", 66, 190, 70, false, "what is not 0 to 11"), (62, 21, "java/lang/IllegalArgumentException", 66, 202, 70, false, "an argument is out of range"), (65, 11, "java/lang/IndexOutOfBoundsException", 180, 296, 184, true, "there is no such seamstress"), (66, 11, "java/lang/IllegalArgumentException", 66, 298, 70, true, "speed is out of range"), (67, 9, "java/lang/IndexOutOfBoundsException", 180, 300, 184, true, "there is no such setting")]
set_option maxRecDepth 100000 in
theorem sp_th_in : ∀ w ∈ sp_thT.map (fun q => Cond.classLink RX5 q.2.2.2.1 q.2.2.1), w ∈ sp_AW := sp_pick _ [202, 292, 202, 292, 292, 202, 202, 292, 292, 352, 292, 292, 292, 352, 292, 352] (by decide +kernel) (by decide +kernel)
set_option maxRecDepth 100000 in
theorem sp_th_i2 : ∀ w ∈ sp_thT.map (fun q => Cond.initialized q.2.2.1), w ∈ sp_AW := sp_pick _ [25, 23, 25, 23, 23, 25, 25, 23, 23, 24, 23, 23, 23, 24, 23, 24] (by decide +kernel) (by decide +kernel)
abbrev sp_up3 : List String := ["java/lang/RuntimeException", "java/lang/Exception"]
def sp_thK : List (Nat × String) := [(48, "java/lang/IllegalStateException"), (70, "java/lang/IllegalArgumentException"), (184, "java/lang/IndexOutOfBoundsException")]
theorem sp_th_k : ∀ q ∈ sp_thT, (q.2.2.2.2.2.1, q.2.2.1) ∈ sp_thK := by decide +kernel
def sp_nwOK : Cond → Bool
  | .fieldLinkNest _ _ _ _ _ _ => true
  | .methodLinkNest _ _ _ _ => true
  | .declares _ => true
  | .castable _ _ => true
  | _ => false
set_option maxRecDepth 100000 in
theorem sp_th_at : ∀ q ∈ sp_thK, ∀ w ∈ vx_atS RX5 q.1 q.2 sp_up3, w ∈ lw_tbl ∧ (goodWord w = true ∨ sp_nwOK w = true) ∧ vx_ot w = true := by decide +kernel
theorem sp_th_fit : ∀ q ∈ sp_thT, Bundle.fit q.2.2.1 = true := by decide +kernel
def sp_ins (y pc : Nat) : Option (Instr × Nat) := match sp_T[y]? with
  | some e => (match decode e.2.1 pc with | .ok r => some r | .error _ => none)
  | none => none
theorem sp_th_ins : ∀ q ∈ sp_thT, ∃ e, sp_T[q.1]? = some e ∧ decode e.2.1 q.2.1 = .ok (.new q.2.2.2.1, 3) ∧ decode e.2.1 (q.2.1 + 3) = .ok (.dup, 1) ∧ (if q.2.2.2.2.2.2.1 = true then decode e.2.1 (q.2.1 + 4) = .ok (.ldc_w q.2.2.2.2.1, 3) ∧ decode e.2.1 (q.2.1 + 7) = .ok (.invokespecial q.2.2.2.2.2.1, 3) ∧ decode e.2.1 (q.2.1 + 10) = .ok (.athrow, 1) else decode e.2.1 (q.2.1 + 4) = .ok (.ldc q.2.2.2.2.1, 2) ∧ decode e.2.1 (q.2.1 + 6) = .ok (.invokespecial q.2.2.2.2.2.1, 3) ∧ decode e.2.1 (q.2.1 + 9) = .ok (.athrow, 1)) ∧ e.2.2.2.2.1 = [] ∧ e.2.2.2.2.2.1 = 5 ∧ 7 ≤ e.2.2.2.2.2.2.2.1 ∧ 100 ≤ e.2.2.2.2.2.2.2.2.1 := by
  intro q hq
  have hall : sp_thT.all (fun q => match sp_T[q.1]? with | some e => decide (decode e.2.1 q.2.1 = .ok (.new q.2.2.2.1, 3) ∧ decode e.2.1 (q.2.1 + 3) = .ok (.dup, 1) ∧ (if q.2.2.2.2.2.2.1 = true then decode e.2.1 (q.2.1 + 4) = .ok (.ldc_w q.2.2.2.2.1, 3) ∧ decode e.2.1 (q.2.1 + 7) = .ok (.invokespecial q.2.2.2.2.2.1, 3) ∧ decode e.2.1 (q.2.1 + 10) = .ok (.athrow, 1) else decode e.2.1 (q.2.1 + 4) = .ok (.ldc q.2.2.2.2.1, 2) ∧ decode e.2.1 (q.2.1 + 6) = .ok (.invokespecial q.2.2.2.2.2.1, 3) ∧ decode e.2.1 (q.2.1 + 9) = .ok (.athrow, 1)) ∧ e.2.2.2.2.1 = [] ∧ e.2.2.2.2.2.1 = 5 ∧ 7 ≤ e.2.2.2.2.2.2.2.1 ∧ 100 ≤ e.2.2.2.2.2.2.2.2.1) | none => false) = true := by decide +kernel
  have h := List.all_eq_true.mp hall q hq
  split at h
  · rename_i e he
    exact ⟨e, he, of_decide_eq_true h⟩
  · cases h
-- classes of the pool: words, fields
theorem sp_lay0 : ∀ w ∈ wsX00, w ∈ sp_AW := sp_pick _ [145, 147] (by decide +kernel) (by decide +kernel)
theorem sp_lay1 : ∀ w ∈ wsX10, w ∈ sp_AW := sp_pick _ [157, 159] (by decide +kernel) (by decide +kernel)
theorem sp_lay2 : ∀ w ∈ wsX20, w ∈ sp_AW := sp_pick _ [51, 53] (by decide +kernel) (by decide +kernel)
theorem sp_lay3 : ∀ w ∈ wsX30, w ∈ sp_AW := sp_pick _ [102, 104, 106, 108, 110, 112, 114, 116, 118, 120, 122, 124, 126, 128, 130] (by decide +kernel) (by decide +kernel)
theorem sp_lay4 : ∀ w ∈ wsX40, w ∈ sp_AW := sp_pick _ [70, 72, 74, 76] (by decide +kernel) (by decide +kernel)
theorem sp_lay5 : ∀ w ∈ wsX50, w ∈ sp_AW := sp_pick _ [169, 171, 173, 175, 177, 179] (by decide +kernel) (by decide +kernel)
