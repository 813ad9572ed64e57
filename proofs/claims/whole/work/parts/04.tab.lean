/-! ===== the tables of the abstract machine: methods, places of the pools, throws; each held against the words of the claim ===== -/
def sp_AW : List Cond := lw_tbl.filter goodWord
theorem sp_pick (ws : List Cond) (ps : List Nat) (hp : ws = ps.filterMap (fun i => lw_tbl[i]?)) (h : ws.all goodWord = true) : ∀ w ∈ ws, w ∈ sp_AW := by
  intro w hw
  have h1 := List.all_eq_true.mp h w hw
  rw [hp] at hw
  obtain ⟨i, -, hi⟩ := List.mem_filterMap.mp hw
  exact List.mem_filter.mpr ⟨List.mem_of_getElem? hi, h1⟩
theorem sp_pickT (ws : List Cond) (ps : List Nat) (hp : ws = ps.filterMap (fun i => lw_tbl[i]?)) : ∀ w ∈ ws, w ∈ lw_tbl := by
  intro w hw
  rw [hp] at hw
  obtain ⟨i, -, hi⟩ := List.mem_filterMap.mp hw
  exact List.mem_of_getElem? hi
-- a method: name, code, locals, what it returns, its table of handlers, the number of its class, of its arguments, frames and words that it needs, its kind (0 by its receiver, 1 static, 2 a constructor)
abbrev sp_E : Type := MethodName × ByteArray × Nat × Option FieldType × List (Nat × Nat × Nat × Nat) × Nat × Nat × Nat × Nat × Nat
def sp_T0 : List sp_E := [
  (yX0_init, cX0_init, 2, none, [], 0, 0, 3, 65, 2),
  (yX0_save, cX0_save, 3, none, [], 0, 1, 2, 45, 0),
  (yX0_restoreLatest, cX0_restoreLatest, 3, none, [], 0, 1, 2, 45, 0),
  (yX0_dropOldest, cX0_dropOldest, 3, none, [], 0, 0, 0, 0, 0),
  (yX1_init, cX1_init, 1, none, [], 1, 0, 1, 24, 2),
  (yX1_add, cX1_add, 2, none, [], 1, 1, 0, 0, 0),
  (yX1_empty, cX1_empty, 2, (some .int), [], 1, 0, 0, 0, 0),
  (yX1_codeAt, cX1_codeAt, 2, (some .int), [], 1, 1, 0, 0, 0),
  (yX1_indexOfError, cX1_indexOfError, 3, (some .int), [], 1, 0, 2, 43, 0),
  (yX1_isComplete, cX1_isComplete, 3, (some .boolean), [], 1, 0, 2, 43, 0),
  (yX1_startsPart, cX1_startsPart, 2, (some .boolean), [], 1, 1, 1, 21, 0),
  (yX1_numberAt, cX1_numberAt, 4, (some .int), [], 1, 1, 1, 22, 0),
  (yX1_stateBehind, cX1_stateBehind, 2, (some .int), [], 1, 2, 1, 22, 1),
  (yX1_stateBehindKind, cX1_stateBehindKind, 1, (some .int), [], 1, 1, 0, 0, 1),
  (yX1_stateBehindPart, cX1_stateBehindPart, 1, (some .int), [], 1, 1, 0, 0, 1),
  (yX1_isFrom, cX1_isFrom, 3, (some .boolean), [], 1, 3, 0, 0, 1),
  (yX2_init, cX2_init, 1, none, [], 2, 0, 1, 24, 2),
  (yX2_copyFrom, cX2_copyFrom, 4, none, [], 2, 1, 0, 0, 0),
  (yX2_height, cX2_height, 2, (some .int), [], 2, 1, 0, 0, 0),
  (yX2_at, cX2_at, 3, (some .int), [], 2, 2, 0, 0, 0),
  (yX2_putNear, cX2_putNear, 4, none, [], 2, 2, 0, 0, 0),
  (yX2_takeNear, cX2_takeNear, 3, (some .int), [], 2, 1, 0, 0, 0),
  (yX2_takeFar, cX2_takeFar, 4, (some .int), [], 2, 1, 0, 0, 0),
  (yX3_init, cX3_init, 2, none, [], 3, 0, 2, 44, 2),
  (yX3_copyFrom, cX3_copyFrom, 3, none, [], 3, 1, 1, 23, 0),
  (yX3_hasSeamstress, cX3_hasSeamstress, 2, (some .boolean), [], 3, 1, 0, 0, 0),
  (yX3_addSeamstress, cX3_addSeamstress, 2, (some .int), [], 3, 1, 0, 0, 0),
  (yX3_changeSpeed, cX3_changeSpeed, 4, (some .int), [], 3, 2, 1, 21, 0),
  (yX3_rouse, cX3_rouse, 3, (some .int), [], 3, 1, 1, 21, 0),
  (yX3_canLayOnto, cX3_canLayOnto, 2, (some .boolean), [], 3, 1, 1, 21, 0),
  (yX3_layNewShirt, cX3_layNewShirt, 4, (some .int), [], 3, 2, 1, 23, 0),
  (yX3_wakeFirstSleeper, cX3_wakeFirstSleeper, 2, none, [], 3, 0, 0, 0, 0),
  (yX3_passMinutes, cX3_passMinutes, 3, none, [], 3, 1, 5, 115, 0),
  (yX3_passMinute, cX3_passMinute, 4, none, [], 3, 1, 4, 92, 0),
  (yX3_act, cX3_act, 4, (some .int), [], 3, 2, 3, 69, 0),
  (yX3_sew, cX3_sew, 4, none, [], 3, 1, 2, 44, 0),
  (yX3_miss, cX3_miss, 2, none, [], 3, 1, 1, 21, 0),
  (yX3_takeIntoHand, cX3_takeIntoHand, 5, none, [], 3, 2, 2, 46, 0),
  (yX3_chosenPile, cX3_chosenPile, 6, (some .int), [], 3, 1, 2, 44, 0),
  (yX3_canBeTakenFrom, cX3_canBeTakenFrom, 3, (some .boolean), [], 3, 1, 1, 21, 0),
  (yX3_merit, cX3_merit, 3, (some .int), [], 3, 2, 1, 22, 0),
  (yX3_minutesUntilDone, cX3_minutesUntilDone, 3, (some .int), [], 3, 1, 5, 115, 0),
  (yX3_seamstressNumber, cX3_seamstressNumber, 3, (some .int), [], 3, 2, 2, 45, 0),
  (yX3_countedNumber, cX3_countedNumber, 2, (some .int), [], 3, 1, 2, 43, 0),
  (yX3_load, cX3_load, 4, (some .int), [], 3, 1, 1, 22, 0),
  (yX3_sewnShirts, cX3_sewnShirts, 1, (some .int), [], 3, 0, 1, 23, 0),
  (yX3_fullHands, cX3_fullHands, 3, (some .int), [], 3, 0, 0, 0, 0),
  (yX3_sleepers, cX3_sleepers, 3, (some .int), [], 3, 0, 0, 0, 0),
  (yX3_total, cX3_total, 4, (some .int), [], 3, 1, 0, 0, 0),
  (yX4_init, cX4_init, 1, none, [], 4, 0, 1, 24, 2),
  (yX4_copyFrom, cX4_copyFrom, 3, none, [], 4, 1, 0, 0, 0),
  (yX4_has, cX4_has, 2, (some .boolean), [], 4, 1, 0, 0, 0),
  (yX4_add, cX4_add, 3, (some .int), [], 4, 2, 0, 0, 0),
  (yX4_workOf, cX4_workOf, 2, (some .int), [], 4, 1, 0, 0, 0),
  (yX4_setWork, cX4_setWork, 3, none, [], 4, 2, 1, 21, 0),
  (yX4_move, cX4_move, 4, none, [], 4, 3, 1, 21, 0),
  (yX4_number, cX4_number, 3, (some .int), [], 4, 2, 1, 21, 0),
  (yX4_workLeft, cX4_workLeft, 3, (some .int), [], 4, 0, 0, 0, 0),
  (yX5_init, cX5_init, 1, none, [], 5, 0, 4, 86, 2),
  (yX5_hire, cX5_hire, 2, (some .int), [], 5, 1, 8, 120, 0),
  (yX5_speed, cX5_speed, 3, (some .int), [], 5, 2, 8, 121, 0),
  (yX5_lay, cX5_lay, 3, (some .int), [], 5, 2, 8, 121, 0),
  (yX5_wake, cX5_wake, 2, (some .int), [], 5, 1, 8, 121, 0),
  (yX5_pass, cX5_pass, 3, (some .int), [], 5, 1, 7, 137, 0),
  (yX5_set, cX5_set, 4, (some .int), [], 5, 2, 8, 120, 0),
  (yX5_append, cX5_append, 2, (some .int), [], 5, 1, 7, 100, 0),
  (yX5_clearBuffer, cX5_clearBuffer, 1, (some .int), [], 5, 0, 1, 21, 0),
  (yX5_firstError, cX5_firstError, 1, (some .int), [], 5, 0, 3, 65, 0),
  (yX5_obey, cX5_obey, 3, (some .int), [], 5, 0, 7, 160, 0),
  (yX5_keep, cX5_keep, 1, (some .int), [], 5, 0, 2, 45, 0),
  (yX5_goBack, cX5_goBack, 1, (some .int), [], 5, 0, 7, 100, 0),
  (yX5_undo, cX5_undo, 1, (some .int), [], 5, 0, 7, 100, 0),
  (yX5_seamstress, cX5_seamstress, 3, (some .int), [], 5, 2, 8, 121, 0),
  (yX5_pile, cX5_pile, 3, (some .int), [], 5, 2, 8, 121, 0),
  (yX5_shirt, cX5_shirt, 3, (some .int), [], 5, 2, 7, 100, 0),
  (yX5_count, cX5_count, 2, (some .int), [], 5, 1, 7, 100, 0),
  (yX5_setting, cX5_setting, 2, (some .int), [], 5, 1, 8, 120, 0),
  (yX5_choice, cX5_choice, 2, (some .int), [], 5, 1, 8, 121, 0),
  (yX5_doneIn, cX5_doneIn, 1, (some .int), [], 5, 0, 6, 137, 0),
  (yX5_doneAlone, cX5_doneAlone, 1, (some .int), [], 5, 0, 6, 137, 0),
  (yX5_doneWith, cX5_doneWith, 2, (some .int), [], 5, 1, 8, 137, 0),
  (yX5_ifPassed, cX5_ifPassed, 3, (some .int), [], 5, 2, 7, 137, 0),
  (yX5_takenShare, cX5_takenShare, 1, (some .double), [], 5, 0, 1, 23, 0),
  (yX5_evenness, cX5_evenness, 5, (some .float), [], 5, 0, 2, 45, 0),
  (yX5_digest, cX5_digest, 4, (some .long), [], 5, 0, 10, 170, 0),
  (yX5_addSeamstresses, cX5_addSeamstresses, 8, (some .long), [], 5, 1, 9, 143, 0),
  (yX5_addShirts, cX5_addShirts, 7, (some .long), [], 5, 1, 8, 122, 0),
  (yX5_addText, cX5_addText, 6, (some .long), [], 5, 1, 1, 21, 0),
  (yX5_bitsOfDouble, cX5_bitsOfDouble, 7, (some .long), [], 5, 1, 0, 0, 1),
  (yX5_bitsOfFloat, cX5_bitsOfFloat, 4, (some .int), [], 5, 1, 0, 0, 1),
  (yX5_checkSeamstress, cX5_checkSeamstress, 2, none, [], 5, 1, 7, 100, 0),
  (yX5_checkSpeed, cX5_checkSpeed, 1, none, [], 5, 1, 7, 100, 1),
  (yX5_checkSetting, cX5_checkSetting, 1, none, [], 5, 1, 7, 100, 1),
  (yX5_doPart, cX5_doPart, 4, (some .boolean), [], 5, 1, 6, 137, 0),
  (yX6_init, cX6_init, 1, none, [], 6, 0, 1, 24, 2),
  (yX6_thrown, cX6_thrown, 1, (some .int), [], 6, 0, 0, 0, 0),
  (yX6_in, cX6_in, 3, (some .boolean), [], 6, 3, 0, 0, 1),
  (yX6_fails, cX6_fails, 2, (some .int), [], 6, 1, 0, 0, 0),
  (yX6_of, cX6_of, 3, (some .int), [], 6, 2, 0, 0, 0),
  (yX6_lays, cX6_lays, 4, none, [], 6, 3, 0, 0, 0),
  (yX6_grows, cX6_grows, 3, none, [], 6, 2, 0, 0, 0),
  (yX6_onPile, cX6_onPile, 3, (some .int), [], 6, 2, 0, 0, 0),
  (yX6_ofShirt, cX6_ofShirt, 3, (some .int), [], 6, 2, 0, 0, 0),
  (yX6_layShirt, cX6_layShirt, 4, none, [], 6, 3, 0, 0, 0),
  (yX6_isWho, cX6_isWho, 2, (some .boolean), [], 6, 1, 1, 22, 0),
  (yX6_saves, cX6_saves, 2, none, [], 6, 0, 0, 0, 0),
  (yX6_putAside, cX6_putAside, 2, none, [], 6, 0, 0, 0, 0),
  (yX6_takeBack, cX6_takeBack, 2, none, [], 6, 0, 0, 0, 0),
  (yX6_wakesLowest, cX6_wakesLowest, 2, none, [], 6, 0, 1, 23, 0),
  (yX6_comes, cX6_comes, 4, (some .int), [], 6, 2, 2, 44, 0),
  (yX6_takes, cX6_takes, 4, none, [], 6, 2, 3, 67, 0),
  (yX6_takesNear, cX6_takesNear, 2, none, [], 6, 1, 4, 90, 0),
  (yX6_takesFar, cX6_takesFar, 5, none, [], 6, 2, 4, 90, 0),
  (yX6_canTakeFrom, cX6_canTakeFrom, 5, (some .boolean), [], 6, 2, 1, 22, 0),
  (yX6_isAhead, cX6_isAhead, 4, (some .boolean), [], 6, 3, 1, 22, 0),
  (yX6_chosen, cX6_chosen, 5, (some .int), [], 6, 1, 2, 46, 0),
  (yX6_sews, cX6_sews, 4, none, [], 6, 1, 1, 23, 0),
  (yX6_misses, cX6_misses, 2, none, [], 6, 1, 1, 23, 0),
  (yX6_acts, cX6_acts, 3, none, [], 6, 1, 5, 114, 0),
  (yX6_passesOne, cX6_passesOne, 2, none, [], 6, 0, 6, 136, 0),
  (yX6_passesAll, cX6_passesAll, 3, none, [], 6, 1, 7, 157, 0),
  (yX6_sumOf, cX6_sumOf, 4, (some .int), [], 6, 1, 1, 22, 0),
  (yX6_workLeft, cX6_workLeft, 3, (some .int), [], 6, 0, 1, 22, 0),
  (yX6_shirtsThat, cX6_shirtsThat, 4, (some .int), [], 6, 1, 1, 22, 0),
  (yX6_hires, cX6_hires, 4, (some .int), [], 6, 1, 1, 23, 0),
  (yX6_hire, cX6_hire, 2, (some .int), [], 6, 1, 2, 46, 0),
  (yX6_speed, cX6_speed, 4, (some .int), [], 6, 2, 2, 43, 0),
  (yX6_canLay, cX6_canLay, 2, (some .boolean), [], 6, 1, 1, 22, 0),
  (yX6_lay, cX6_lay, 3, (some .int), [], 6, 2, 3, 67, 0),
  (yX6_wakes, cX6_wakes, 3, (some .int), [], 6, 1, 1, 23, 0),
  (yX6_wake, cX6_wake, 2, (some .int), [], 6, 1, 2, 45, 0),
  (yX6_pass, cX6_pass, 3, (some .int), [], 6, 1, 8, 179, 0),
  (yX6_set, cX6_set, 5, (some .int), [], 6, 2, 1, 22, 0),
  (yX6_append, cX6_append, 2, (some .int), [], 6, 1, 1, 22, 0),
  (yX6_clearBuffer, cX6_clearBuffer, 2, (some .int), [], 6, 0, 0, 0, 0),
  (yX6_sign, cX6_sign, 1, (some .int), [], 6, 0, 0, 0, 0),
  (yX6_digit, cX6_digit, 4, (some .int), [], 6, 2, 1, 22, 0),
  (yX6_number, cX6_number, 2, (some .int), [], 6, 0, 2, 45, 0),
  (yX6_readsOrder, cX6_readsOrder, 3, none, [], 6, 0, 3, 66, 0),
  (yX6_readsAll, cX6_readsAll, 1, none, [], 6, 0, 4, 88, 0),
  (yX6_firstError, cX6_firstError, 1, (some .int), [], 6, 0, 5, 108, 0),
  (yX6_obeys, cX6_obeys, 5, (some .boolean), [], 6, 1, 8, 179, 0),
  (yX6_obey, cX6_obey, 2, (some .int), [], 6, 0, 9, 203, 0),
  (yX6_keep, cX6_keep, 2, (some .int), [], 6, 0, 0, 0, 0),
  (yX6_goBack, cX6_goBack, 2, (some .int), [], 6, 0, 1, 21, 0),
  (yX6_undo, cX6_undo, 2, (some .int), [], 6, 0, 1, 21, 0),
  (yX6_load, cX6_load, 4, (some .int), [], 6, 1, 1, 22, 0),
  (yX6_tellsWho, cX6_tellsWho, 3, (some .int), [], 6, 2, 2, 45, 0),
  (yX6_seamstress, cX6_seamstress, 3, (some .int), [], 6, 2, 3, 67, 0),
  (yX6_pile, cX6_pile, 3, (some .int), [], 6, 2, 2, 43, 0),
  (yX6_shirt, cX6_shirt, 3, (some .int), [], 6, 2, 1, 22, 0),
  (yX6_tellsCount, cX6_tellsCount, 2, (some .int), [], 6, 1, 2, 45, 0),
  (yX6_count, cX6_count, 2, (some .int), [], 6, 1, 3, 66, 0),
  (yX6_setting, cX6_setting, 2, (some .int), [], 6, 1, 1, 22, 0),
  (yX6_choice, cX6_choice, 2, (some .int), [], 6, 1, 3, 70, 0),
  (yX6_until, cX6_until, 2, (some .int), [], 6, 0, 7, 157, 0),
  (yX6_done, cX6_done, 4, (some .int), [], 6, 2, 8, 178, 0),
  (yX6_doneIn, cX6_doneIn, 1, (some .int), [], 6, 0, 9, 201, 0),
  (yX6_doneAlone, cX6_doneAlone, 1, (some .int), [], 6, 0, 9, 201, 0),
  (yX6_doneWith, cX6_doneWith, 2, (some .int), [], 6, 1, 9, 201, 0),
  (yX6_would, cX6_would, 6, (some .int), [], 6, 2, 8, 179, 0),
  (yX6_ifPassed, cX6_ifPassed, 3, (some .int), [], 6, 2, 9, 204, 0),
  (yX6_share, cX6_share, 1, (some .double), [], 6, 0, 2, 45, 0),
  (yX6_takenShare, cX6_takenShare, 1, (some .double), [], 6, 0, 3, 65, 0),
  (yX6_even, cX6_even, 4, (some .float), [], 6, 0, 2, 45, 0),
  (yX6_evenness, cX6_evenness, 1, (some .float), [], 6, 0, 3, 68, 0),
  (yX6_hashes, cX6_hashes, 3, none, [], 6, 1, 0, 0, 0),
  (yX6_hashesWho, cX6_hashesWho, 3, none, [], 6, 1, 3, 70, 0),
  (yX6_digest, cX6_digest, 2, (some .long), [], 6, 0, 9, 204, 0),
  (yL_hire, cL_hire, 4, (some .int), [(0, 9, 12, 13), (0, 9, 15, 15)], 7, 3, 9, 141, 1),
  (yL_speed, cL_speed, 5, (some .int), [(0, 10, 13, 21), (0, 10, 17, 13)], 7, 4, 9, 143, 1),
  (yL_lay, cL_lay, 5, (some .int), [(0, 10, 13, 21), (0, 10, 17, 13), (0, 10, 21, 15)], 7, 4, 9, 143, 1),
  (yL_wake, cL_wake, 4, (some .int), [(0, 9, 12, 21)], 7, 3, 9, 142, 1),
  (yL_pass, cL_pass, 4, (some .int), [(0, 9, 12, 13)], 7, 3, 8, 159, 1),
  (yL_set, cL_set, 5, (some .int), [(0, 10, 13, 21), (0, 10, 17, 13)], 7, 4, 9, 143, 1),
  (yL_append, cL_append, 4, (some .int), [(0, 9, 12, 13), (0, 9, 15, 15)], 7, 3, 8, 121, 1),
  (yL_obey, cL_obey, 3, (some .int), [(0, 8, 11, 13)], 7, 2, 8, 182, 1),
  (yL_goBack, cL_goBack, 3, (some .int), [(0, 8, 11, 15)], 7, 2, 8, 120, 1),
  (yL_undo, cL_undo, 3, (some .int), [(0, 8, 11, 15)], 7, 2, 8, 120, 1),
  (yL_seamstress, cL_seamstress, 5, (some .int), [(0, 10, 13, 21), (0, 10, 17, 13)], 7, 4, 9, 143, 1),
  (yL_pile, cL_pile, 5, (some .int), [(0, 10, 13, 21), (0, 10, 17, 13)], 7, 4, 9, 143, 1),
  (yL_shirt, cL_shirt, 5, (some .int), [(0, 10, 13, 21), (0, 10, 17, 13)], 7, 4, 8, 122, 1),
  (yL_count, cL_count, 4, (some .int), [(0, 9, 12, 13)], 7, 3, 8, 121, 1),
  (yL_setting, cL_setting, 4, (some .int), [(0, 9, 12, 21)], 7, 3, 9, 141, 1),
  (yL_choice, cL_choice, 4, (some .int), [(0, 9, 12, 21)], 7, 3, 9, 142, 1),
  (yL_doneWith, cL_doneWith, 4, (some .int), [(0, 9, 12, 13)], 7, 3, 9, 158, 1),
  (yL_ifPassed, cL_ifPassed, 5, (some .int), [(0, 10, 13, 13)], 7, 4, 8, 159, 1)]
def sp_T : List sp_E := sp_T0 ++ [(yL_law, cL_law, 9, (some .boolean), [], 7, 1, 11, 226, 1)]
def sp_code (e : sp_E) : Cond := if e.2.2.2.2.1 = [] then .code e.1 e.2.1 e.2.2.1 e.2.2.2.1 else .codeWith e.1 e.2.1 e.2.2.1 e.2.2.2.1 e.2.2.2.2.1
set_option maxRecDepth 100000 in
theorem sp_tc_0 : sp_code (yX0_init, cX0_init, 2, none, [], 0, 0, 3, 65, 2) ∈ sp_AW := List.mem_filter.mpr ⟨List.mem_of_getElem? (i := 190) rfl, rfl⟩
set_option maxRecDepth 100000 in
theorem sp_tc_1 : sp_code (yX0_save, cX0_save, 3, none, [], 0, 1, 2, 45, 0) ∈ sp_AW := List.mem_filter.mpr ⟨List.mem_of_getElem? (i := 633) rfl, rfl⟩
set_option maxRecDepth 100000 in
theorem sp_tc_2 : sp_code (yX0_restoreLatest, cX0_restoreLatest, 3, none, [], 0, 1, 2, 45, 0) ∈ sp_AW := List.mem_filter.mpr ⟨List.mem_of_getElem? (i := 753) rfl, rfl⟩
set_option maxRecDepth 100000 in
theorem sp_tc_3 : sp_code (yX0_dropOldest, cX0_dropOldest, 3, none, [], 0, 0, 0, 0, 0) ∈ sp_AW := List.mem_filter.mpr ⟨List.mem_of_getElem? (i := 637) rfl, rfl⟩
set_option maxRecDepth 100000 in
theorem sp_tc_4 : sp_code (yX1_init, cX1_init, 1, none, [], 1, 0, 1, 24, 2) ∈ sp_AW := List.mem_filter.mpr ⟨List.mem_of_getElem? (i := 207) rfl, rfl⟩
set_option maxRecDepth 100000 in
theorem sp_tc_5 : sp_code (yX1_add, cX1_add, 2, none, [], 1, 1, 0, 0, 0) ∈ sp_AW := List.mem_filter.mpr ⟨List.mem_of_getElem? (i := 708) rfl, rfl⟩
set_option maxRecDepth 100000 in
theorem sp_tc_6 : sp_code (yX1_empty, cX1_empty, 2, (some .int), [], 1, 0, 0, 0, 0) ∈ sp_AW := List.mem_filter.mpr ⟨List.mem_of_getElem? (i := 244) rfl, rfl⟩
set_option maxRecDepth 100000 in
theorem sp_tc_7 : sp_code (yX1_codeAt, cX1_codeAt, 2, (some .int), [], 1, 1, 0, 0, 0) ∈ sp_AW := List.mem_filter.mpr ⟨List.mem_of_getElem? (i := 604) rfl, rfl⟩
set_option maxRecDepth 100000 in
theorem sp_tc_8 : sp_code (yX1_indexOfError, cX1_indexOfError, 3, (some .int), [], 1, 0, 2, 43, 0) ∈ sp_AW := List.mem_filter.mpr ⟨List.mem_of_getElem? (i := 252) rfl, rfl⟩
set_option maxRecDepth 100000 in
theorem sp_tc_9 : sp_code (yX1_isComplete, cX1_isComplete, 3, (some .boolean), [], 1, 0, 2, 43, 0) ∈ sp_AW := List.mem_filter.mpr ⟨List.mem_of_getElem? (i := 719) rfl, rfl⟩
set_option maxRecDepth 100000 in
theorem sp_tc_10 : sp_code (yX1_startsPart, cX1_startsPart, 2, (some .boolean), [], 1, 1, 1, 21, 0) ∈ sp_AW := List.mem_filter.mpr ⟨List.mem_of_getElem? (i := 724) rfl, rfl⟩
set_option maxRecDepth 100000 in
theorem sp_tc_11 : sp_code (yX1_numberAt, cX1_numberAt, 4, (some .int), [], 1, 1, 1, 22, 0) ∈ sp_AW := List.mem_filter.mpr ⟨List.mem_of_getElem? (i := 733) rfl, rfl⟩
set_option maxRecDepth 100000 in
theorem sp_tc_12 : sp_code (yX1_stateBehind, cX1_stateBehind, 2, (some .int), [], 1, 2, 1, 22, 1) ∈ sp_AW := List.mem_filter.mpr ⟨List.mem_of_getElem? (i := 255) rfl, rfl⟩
set_option maxRecDepth 100000 in
theorem sp_tc_13 : sp_code (yX1_stateBehindKind, cX1_stateBehindKind, 1, (some .int), [], 1, 1, 0, 0, 1) ∈ sp_AW := List.mem_filter.mpr ⟨List.mem_of_getElem? (i := 258) rfl, rfl⟩
set_option maxRecDepth 100000 in
theorem sp_tc_14 : sp_code (yX1_stateBehindPart, cX1_stateBehindPart, 1, (some .int), [], 1, 1, 0, 0, 1) ∈ sp_AW := List.mem_filter.mpr ⟨List.mem_of_getElem? (i := 264) rfl, rfl⟩
set_option maxRecDepth 100000 in
theorem sp_tc_15 : sp_code (yX1_isFrom, cX1_isFrom, 3, (some .boolean), [], 1, 3, 0, 0, 1) ∈ sp_AW := List.mem_filter.mpr ⟨List.mem_of_getElem? (i := 261) rfl, rfl⟩
set_option maxRecDepth 100000 in
theorem sp_tc_16 : sp_code (yX2_init, cX2_init, 1, none, [], 2, 0, 1, 24, 2) ∈ sp_AW := List.mem_filter.mpr ⟨List.mem_of_getElem? (i := 97) rfl, rfl⟩
set_option maxRecDepth 100000 in
theorem sp_tc_17 : sp_code (yX2_copyFrom, cX2_copyFrom, 4, none, [], 2, 1, 0, 0, 0) ∈ sp_AW := List.mem_filter.mpr ⟨List.mem_of_getElem? (i := 276) rfl, rfl⟩
set_option maxRecDepth 100000 in
theorem sp_tc_18 : sp_code (yX2_height, cX2_height, 2, (some .int), [], 2, 1, 0, 0, 0) ∈ sp_AW := List.mem_filter.mpr ⟨List.mem_of_getElem? (i := 336) rfl, rfl⟩
set_option maxRecDepth 100000 in
theorem sp_tc_19 : sp_code (yX2_at, cX2_at, 3, (some .int), [], 2, 2, 0, 0, 0) ∈ sp_AW := List.mem_filter.mpr ⟨List.mem_of_getElem? (i := 356) rfl, rfl⟩
set_option maxRecDepth 100000 in
theorem sp_tc_20 : sp_code (yX2_putNear, cX2_putNear, 4, none, [], 2, 2, 0, 0, 0) ∈ sp_AW := List.mem_filter.mpr ⟨List.mem_of_getElem? (i := 380) rfl, rfl⟩
set_option maxRecDepth 100000 in
theorem sp_tc_21 : sp_code (yX2_takeNear, cX2_takeNear, 3, (some .int), [], 2, 1, 0, 0, 0) ∈ sp_AW := List.mem_filter.mpr ⟨List.mem_of_getElem? (i := 340) rfl, rfl⟩
set_option maxRecDepth 100000 in
theorem sp_tc_22 : sp_code (yX2_takeFar, cX2_takeFar, 4, (some .int), [], 2, 1, 0, 0, 0) ∈ sp_AW := List.mem_filter.mpr ⟨List.mem_of_getElem? (i := 360) rfl, rfl⟩
set_option maxRecDepth 100000 in
theorem sp_tc_23 : sp_code (yX3_init, cX3_init, 2, none, [], 3, 0, 2, 44, 2) ∈ sp_AW := List.mem_filter.mpr ⟨List.mem_of_getElem? (i := 91) rfl, rfl⟩
set_option maxRecDepth 100000 in
theorem sp_tc_24 : sp_code (yX3_copyFrom, cX3_copyFrom, 3, none, [], 3, 1, 1, 23, 0) ∈ sp_AW := List.mem_filter.mpr ⟨List.mem_of_getElem? (i := 272) rfl, rfl⟩
set_option maxRecDepth 100000 in
theorem sp_tc_25 : sp_code (yX3_hasSeamstress, cX3_hasSeamstress, 2, (some .boolean), [], 3, 1, 0, 0, 0) ∈ sp_AW := List.mem_filter.mpr ⟨List.mem_of_getElem? (i := 312) rfl, rfl⟩
set_option maxRecDepth 100000 in
theorem sp_tc_26 : sp_code (yX3_addSeamstress, cX3_addSeamstress, 2, (some .int), [], 3, 1, 0, 0, 0) ∈ sp_AW := List.mem_filter.mpr ⟨List.mem_of_getElem? (i := 574) rfl, rfl⟩
set_option maxRecDepth 100000 in
theorem sp_tc_27 : sp_code (yX3_changeSpeed, cX3_changeSpeed, 4, (some .int), [], 3, 2, 1, 21, 0) ∈ sp_AW := List.mem_filter.mpr ⟨List.mem_of_getElem? (i := 650) rfl, rfl⟩
set_option maxRecDepth 100000 in
theorem sp_tc_28 : sp_code (yX3_rouse, cX3_rouse, 3, (some .int), [], 3, 1, 1, 21, 0) ∈ sp_AW := List.mem_filter.mpr ⟨List.mem_of_getElem? (i := 675) rfl, rfl⟩
set_option maxRecDepth 100000 in
theorem sp_tc_29 : sp_code (yX3_canLayOnto, cX3_canLayOnto, 2, (some .boolean), [], 3, 1, 1, 21, 0) ∈ sp_AW := List.mem_filter.mpr ⟨List.mem_of_getElem? (i := 662) rfl, rfl⟩
set_option maxRecDepth 100000 in
theorem sp_tc_30 : sp_code (yX3_layNewShirt, cX3_layNewShirt, 4, (some .int), [], 3, 2, 1, 23, 0) ∈ sp_AW := List.mem_filter.mpr ⟨List.mem_of_getElem? (i := 372) rfl, rfl⟩
set_option maxRecDepth 100000 in
theorem sp_tc_31 : sp_code (yX3_wakeFirstSleeper, cX3_wakeFirstSleeper, 2, none, [], 3, 0, 0, 0, 0) ∈ sp_AW := List.mem_filter.mpr ⟨List.mem_of_getElem? (i := 384) rfl, rfl⟩
set_option maxRecDepth 100000 in
theorem sp_tc_32 : sp_code (yX3_passMinutes, cX3_passMinutes, 3, none, [], 3, 1, 5, 115, 0) ∈ sp_AW := List.mem_filter.mpr ⟨List.mem_of_getElem? (i := 583) rfl, rfl⟩
set_option maxRecDepth 100000 in
theorem sp_tc_33 : sp_code (yX3_passMinute, cX3_passMinute, 4, none, [], 3, 1, 4, 92, 0) ∈ sp_AW := List.mem_filter.mpr ⟨List.mem_of_getElem? (i := 304) rfl, rfl⟩
set_option maxRecDepth 100000 in
theorem sp_tc_34 : sp_code (yX3_act, cX3_act, 4, (some .int), [], 3, 2, 3, 69, 0) ∈ sp_AW := List.mem_filter.mpr ⟨List.mem_of_getElem? (i := 308) rfl, rfl⟩
set_option maxRecDepth 100000 in
theorem sp_tc_35 : sp_code (yX3_sew, cX3_sew, 4, none, [], 3, 1, 2, 44, 0) ∈ sp_AW := List.mem_filter.mpr ⟨List.mem_of_getElem? (i := 316) rfl, rfl⟩
set_option maxRecDepth 100000 in
theorem sp_tc_36 : sp_code (yX3_miss, cX3_miss, 2, none, [], 3, 1, 1, 21, 0) ∈ sp_AW := List.mem_filter.mpr ⟨List.mem_of_getElem? (i := 364) rfl, rfl⟩
set_option maxRecDepth 100000 in
theorem sp_tc_37 : sp_code (yX3_takeIntoHand, cX3_takeIntoHand, 5, none, [], 3, 2, 2, 46, 0) ∈ sp_AW := List.mem_filter.mpr ⟨List.mem_of_getElem? (i := 368) rfl, rfl⟩
set_option maxRecDepth 100000 in
theorem sp_tc_38 : sp_code (yX3_chosenPile, cX3_chosenPile, 6, (some .int), [], 3, 1, 2, 44, 0) ∈ sp_AW := List.mem_filter.mpr ⟨List.mem_of_getElem? (i := 344) rfl, rfl⟩
set_option maxRecDepth 100000 in
theorem sp_tc_39 : sp_code (yX3_canBeTakenFrom, cX3_canBeTakenFrom, 3, (some .boolean), [], 3, 1, 1, 21, 0) ∈ sp_AW := List.mem_filter.mpr ⟨List.mem_of_getElem? (i := 348) rfl, rfl⟩
set_option maxRecDepth 100000 in
theorem sp_tc_40 : sp_code (yX3_merit, cX3_merit, 3, (some .int), [], 3, 2, 1, 22, 0) ∈ sp_AW := List.mem_filter.mpr ⟨List.mem_of_getElem? (i := 352) rfl, rfl⟩
set_option maxRecDepth 100000 in
theorem sp_tc_41 : sp_code (yX3_minutesUntilDone, cX3_minutesUntilDone, 3, (some .int), [], 3, 1, 5, 115, 0) ∈ sp_AW := List.mem_filter.mpr ⟨List.mem_of_getElem? (i := 288) rfl, rfl⟩
set_option maxRecDepth 100000 in
theorem sp_tc_42 : sp_code (yX3_seamstressNumber, cX3_seamstressNumber, 3, (some .int), [], 3, 2, 2, 45, 0) ∈ sp_AW := List.mem_filter.mpr ⟨List.mem_of_getElem? (i := 533) rfl, rfl⟩
set_option maxRecDepth 100000 in
theorem sp_tc_43 : sp_code (yX3_countedNumber, cX3_countedNumber, 2, (some .int), [], 3, 1, 2, 43, 0) ∈ sp_AW := List.mem_filter.mpr ⟨List.mem_of_getElem? (i := 483) rfl, rfl⟩
set_option maxRecDepth 100000 in
theorem sp_tc_44 : sp_code (yX3_load, cX3_load, 4, (some .int), [], 3, 1, 1, 22, 0) ∈ sp_AW := List.mem_filter.mpr ⟨List.mem_of_getElem? (i := 401) rfl, rfl⟩
set_option maxRecDepth 100000 in
theorem sp_tc_45 : sp_code (yX3_sewnShirts, cX3_sewnShirts, 1, (some .int), [], 3, 0, 1, 23, 0) ∈ sp_AW := List.mem_filter.mpr ⟨List.mem_of_getElem? (i := 292) rfl, rfl⟩
set_option maxRecDepth 100000 in
theorem sp_tc_46 : sp_code (yX3_fullHands, cX3_fullHands, 3, (some .int), [], 3, 0, 0, 0, 0) ∈ sp_AW := List.mem_filter.mpr ⟨List.mem_of_getElem? (i := 487) rfl, rfl⟩
set_option maxRecDepth 100000 in
theorem sp_tc_47 : sp_code (yX3_sleepers, cX3_sleepers, 3, (some .int), [], 3, 0, 0, 0, 0) ∈ sp_AW := List.mem_filter.mpr ⟨List.mem_of_getElem? (i := 300) rfl, rfl⟩
set_option maxRecDepth 100000 in
theorem sp_tc_48 : sp_code (yX3_total, cX3_total, 4, (some .int), [], 3, 1, 0, 0, 0) ∈ sp_AW := List.mem_filter.mpr ⟨List.mem_of_getElem? (i := 296) rfl, rfl⟩
set_option maxRecDepth 100000 in
theorem sp_tc_49 : sp_code (yX4_init, cX4_init, 1, none, [], 4, 0, 1, 24, 2) ∈ sp_AW := List.mem_filter.mpr ⟨List.mem_of_getElem? (i := 115) rfl, rfl⟩
set_option maxRecDepth 100000 in
theorem sp_tc_50 : sp_code (yX4_copyFrom, cX4_copyFrom, 3, none, [], 4, 1, 0, 0, 0) ∈ sp_AW := List.mem_filter.mpr ⟨List.mem_of_getElem? (i := 280) rfl, rfl⟩
set_option maxRecDepth 100000 in
theorem sp_tc_51 : sp_code (yX4_has, cX4_has, 2, (some .boolean), [], 4, 1, 0, 0, 0) ∈ sp_AW := List.mem_filter.mpr ⟨List.mem_of_getElem? (i := 328) rfl, rfl⟩
set_option maxRecDepth 100000 in
theorem sp_tc_52 : sp_code (yX4_add, cX4_add, 3, (some .int), [], 4, 2, 0, 0, 0) ∈ sp_AW := List.mem_filter.mpr ⟨List.mem_of_getElem? (i := 376) rfl, rfl⟩
set_option maxRecDepth 100000 in
theorem sp_tc_53 : sp_code (yX4_workOf, cX4_workOf, 2, (some .int), [], 4, 1, 0, 0, 0) ∈ sp_AW := List.mem_filter.mpr ⟨List.mem_of_getElem? (i := 320) rfl, rfl⟩
set_option maxRecDepth 100000 in
theorem sp_tc_54 : sp_code (yX4_setWork, cX4_setWork, 3, none, [], 4, 2, 1, 21, 0) ∈ sp_AW := List.mem_filter.mpr ⟨List.mem_of_getElem? (i := 324) rfl, rfl⟩
set_option maxRecDepth 100000 in
theorem sp_tc_55 : sp_code (yX4_move, cX4_move, 4, none, [], 4, 3, 1, 21, 0) ∈ sp_AW := List.mem_filter.mpr ⟨List.mem_of_getElem? (i := 332) rfl, rfl⟩
set_option maxRecDepth 100000 in
theorem sp_tc_56 : sp_code (yX4_number, cX4_number, 3, (some .int), [], 4, 2, 1, 21, 0) ∈ sp_AW := List.mem_filter.mpr ⟨List.mem_of_getElem? (i := 560) rfl, rfl⟩
set_option maxRecDepth 100000 in
theorem sp_tc_57 : sp_code (yX4_workLeft, cX4_workLeft, 3, (some .int), [], 4, 0, 0, 0, 0) ∈ sp_AW := List.mem_filter.mpr ⟨List.mem_of_getElem? (i := 491) rfl, rfl⟩
set_option maxRecDepth 100000 in
theorem sp_tc_58 : sp_code (yX5_init, cX5_init, 1, none, [], 5, 0, 4, 86, 2) ∈ sp_AW := List.mem_filter.mpr ⟨List.mem_of_getElem? (i := 83) rfl, rfl⟩
set_option maxRecDepth 100000 in
theorem sp_tc_59 : sp_code (yX5_hire, cX5_hire, 2, (some .int), [], 5, 1, 8, 120, 0) ∈ sp_AW := List.mem_filter.mpr ⟨List.mem_of_getElem? (i := 613) rfl, rfl⟩
set_option maxRecDepth 100000 in
theorem sp_tc_60 : sp_code (yX5_speed, cX5_speed, 3, (some .int), [], 5, 2, 8, 121, 0) ∈ sp_AW := List.mem_filter.mpr ⟨List.mem_of_getElem? (i := 646) rfl, rfl⟩
set_option maxRecDepth 100000 in
theorem sp_tc_61 : sp_code (yX5_lay, cX5_lay, 3, (some .int), [], 5, 2, 8, 121, 0) ∈ sp_AW := List.mem_filter.mpr ⟨List.mem_of_getElem? (i := 657) rfl, rfl⟩
set_option maxRecDepth 100000 in
theorem sp_tc_62 : sp_code (yX5_wake, cX5_wake, 2, (some .int), [], 5, 1, 8, 121, 0) ∈ sp_AW := List.mem_filter.mpr ⟨List.mem_of_getElem? (i := 671) rfl, rfl⟩
set_option maxRecDepth 100000 in
theorem sp_tc_63 : sp_code (yX5_pass, cX5_pass, 3, (some .int), [], 5, 1, 7, 137, 0) ∈ sp_AW := List.mem_filter.mpr ⟨List.mem_of_getElem? (i := 682) rfl, rfl⟩
set_option maxRecDepth 100000 in
theorem sp_tc_64 : sp_code (yX5_set, cX5_set, 4, (some .int), [], 5, 2, 8, 120, 0) ∈ sp_AW := List.mem_filter.mpr ⟨List.mem_of_getElem? (i := 690) rfl, rfl⟩
set_option maxRecDepth 100000 in
theorem sp_tc_65 : sp_code (yX5_append, cX5_append, 2, (some .int), [], 5, 1, 7, 100, 0) ∈ sp_AW := List.mem_filter.mpr ⟨List.mem_of_getElem? (i := 702) rfl, rfl⟩
set_option maxRecDepth 100000 in
theorem sp_tc_66 : sp_code (yX5_clearBuffer, cX5_clearBuffer, 1, (some .int), [], 5, 0, 1, 21, 0) ∈ sp_AW := List.mem_filter.mpr ⟨List.mem_of_getElem? (i := 240) rfl, rfl⟩
set_option maxRecDepth 100000 in
theorem sp_tc_67 : sp_code (yX5_firstError, cX5_firstError, 1, (some .int), [], 5, 0, 3, 65, 0) ∈ sp_AW := List.mem_filter.mpr ⟨List.mem_of_getElem? (i := 248) rfl, rfl⟩
set_option maxRecDepth 100000 in
theorem sp_tc_68 : sp_code (yX5_obey, cX5_obey, 3, (some .int), [], 5, 0, 7, 160, 0) ∈ sp_AW := List.mem_filter.mpr ⟨List.mem_of_getElem? (i := 715) rfl, rfl⟩
set_option maxRecDepth 100000 in
theorem sp_tc_69 : sp_code (yX5_keep, cX5_keep, 1, (some .int), [], 5, 0, 2, 45, 0) ∈ sp_AW := List.mem_filter.mpr ⟨List.mem_of_getElem? (i := 268) rfl, rfl⟩
set_option maxRecDepth 100000 in
theorem sp_tc_70 : sp_code (yX5_goBack, cX5_goBack, 1, (some .int), [], 5, 0, 7, 100, 0) ∈ sp_AW := List.mem_filter.mpr ⟨List.mem_of_getElem? (i := 740) rfl, rfl⟩
set_option maxRecDepth 100000 in
theorem sp_tc_71 : sp_code (yX5_undo, cX5_undo, 1, (some .int), [], 5, 0, 7, 100, 0) ∈ sp_AW := List.mem_filter.mpr ⟨List.mem_of_getElem? (i := 748) rfl, rfl⟩
set_option maxRecDepth 100000 in
theorem sp_tc_72 : sp_code (yX5_seamstress, cX5_seamstress, 3, (some .int), [], 5, 2, 8, 121, 0) ∈ sp_AW := List.mem_filter.mpr ⟨List.mem_of_getElem? (i := 522) rfl, rfl⟩
set_option maxRecDepth 100000 in
theorem sp_tc_73 : sp_code (yX5_pile, cX5_pile, 3, (some .int), [], 5, 2, 8, 121, 0) ∈ sp_AW := List.mem_filter.mpr ⟨List.mem_of_getElem? (i := 539) rfl, rfl⟩
set_option maxRecDepth 100000 in
theorem sp_tc_74 : sp_code (yX5_shirt, cX5_shirt, 3, (some .int), [], 5, 2, 7, 100, 0) ∈ sp_AW := List.mem_filter.mpr ⟨List.mem_of_getElem? (i := 554) rfl, rfl⟩
set_option maxRecDepth 100000 in
theorem sp_tc_75 : sp_code (yX5_count, cX5_count, 2, (some .int), [], 5, 1, 7, 100, 0) ∈ sp_AW := List.mem_filter.mpr ⟨List.mem_of_getElem? (i := 411) rfl, rfl⟩
set_option maxRecDepth 100000 in
theorem sp_tc_76 : sp_code (yX5_setting, cX5_setting, 2, (some .int), [], 5, 1, 8, 120, 0) ∈ sp_AW := List.mem_filter.mpr ⟨List.mem_of_getElem? (i := 495) rfl, rfl⟩
set_option maxRecDepth 100000 in
theorem sp_tc_77 : sp_code (yX5_choice, cX5_choice, 2, (some .int), [], 5, 1, 8, 121, 0) ∈ sp_AW := List.mem_filter.mpr ⟨List.mem_of_getElem? (i := 545) rfl, rfl⟩
set_option maxRecDepth 100000 in
theorem sp_tc_78 : sp_code (yX5_doneIn, cX5_doneIn, 1, (some .int), [], 5, 0, 6, 137, 0) ∈ sp_AW := List.mem_filter.mpr ⟨List.mem_of_getElem? (i := 284) rfl, rfl⟩
set_option maxRecDepth 100000 in
theorem sp_tc_79 : sp_code (yX5_doneAlone, cX5_doneAlone, 1, (some .int), [], 5, 0, 6, 137, 0) ∈ sp_AW := List.mem_filter.mpr ⟨List.mem_of_getElem? (i := 388) rfl, rfl⟩
set_option maxRecDepth 100000 in
theorem sp_tc_80 : sp_code (yX5_doneWith, cX5_doneWith, 2, (some .int), [], 5, 1, 8, 137, 0) ∈ sp_AW := List.mem_filter.mpr ⟨List.mem_of_getElem? (i := 566) rfl, rfl⟩
set_option maxRecDepth 100000 in
theorem sp_tc_81 : sp_code (yX5_ifPassed, cX5_ifPassed, 3, (some .int), [], 5, 2, 7, 137, 0) ∈ sp_AW := List.mem_filter.mpr ⟨List.mem_of_getElem? (i := 578) rfl, rfl⟩
set_option maxRecDepth 100000 in
theorem sp_tc_82 : sp_code (yX5_takenShare, cX5_takenShare, 1, (some .double), [], 5, 0, 1, 23, 0) ∈ sp_AW := List.mem_filter.mpr ⟨List.mem_of_getElem? (i := 392) rfl, rfl⟩
set_option maxRecDepth 100000 in
theorem sp_tc_83 : sp_code (yX5_evenness, cX5_evenness, 5, (some .float), [], 5, 0, 2, 45, 0) ∈ sp_AW := List.mem_filter.mpr ⟨List.mem_of_getElem? (i := 397) rfl, rfl⟩
set_option maxRecDepth 100000 in
theorem sp_tc_84 : sp_code (yX5_digest, cX5_digest, 4, (some .long), [], 5, 0, 10, 170, 0) ∈ sp_AW := List.mem_filter.mpr ⟨List.mem_of_getElem? (i := 405) rfl, rfl⟩
set_option maxRecDepth 100000 in
theorem sp_tc_85 : sp_code (yX5_addSeamstresses, cX5_addSeamstresses, 8, (some .long), [], 5, 1, 9, 143, 0) ∈ sp_AW := List.mem_filter.mpr ⟨List.mem_of_getElem? (i := 518) rfl, rfl⟩
set_option maxRecDepth 100000 in
theorem sp_tc_86 : sp_code (yX5_addShirts, cX5_addShirts, 7, (some .long), [], 5, 1, 8, 122, 0) ∈ sp_AW := List.mem_filter.mpr ⟨List.mem_of_getElem? (i := 550) rfl, rfl⟩
set_option maxRecDepth 100000 in
theorem sp_tc_87 : sp_code (yX5_addText, cX5_addText, 6, (some .long), [], 5, 1, 1, 21, 0) ∈ sp_AW := List.mem_filter.mpr ⟨List.mem_of_getElem? (i := 600) rfl, rfl⟩
set_option maxRecDepth 100000 in
theorem sp_tc_88 : sp_code (yX5_bitsOfDouble, cX5_bitsOfDouble, 7, (some .long), [], 5, 1, 0, 0, 1) ∈ sp_AW := List.mem_filter.mpr ⟨List.mem_of_getElem? (i := 589) rfl, rfl⟩
set_option maxRecDepth 100000 in
theorem sp_tc_89 : sp_code (yX5_bitsOfFloat, cX5_bitsOfFloat, 4, (some .int), [], 5, 1, 0, 0, 1) ∈ sp_AW := List.mem_filter.mpr ⟨List.mem_of_getElem? (i := 595) rfl, rfl⟩
set_option maxRecDepth 100000 in
theorem sp_tc_90 : sp_code (yX5_checkSeamstress, cX5_checkSeamstress, 2, none, [], 5, 1, 7, 100, 0) ∈ sp_AW := List.mem_filter.mpr ⟨List.mem_of_getElem? (i := 526) rfl, rfl⟩
set_option maxRecDepth 100000 in
theorem sp_tc_91 : sp_code (yX5_checkSpeed, cX5_checkSpeed, 1, none, [], 5, 1, 7, 100, 1) ∈ sp_AW := List.mem_filter.mpr ⟨List.mem_of_getElem? (i := 569) rfl, rfl⟩
set_option maxRecDepth 100000 in
theorem sp_tc_92 : sp_code (yX5_checkSetting, cX5_checkSetting, 1, none, [], 5, 1, 7, 100, 1) ∈ sp_AW := List.mem_filter.mpr ⟨List.mem_of_getElem? (i := 498) rfl, rfl⟩
set_option maxRecDepth 100000 in
theorem sp_tc_93 : sp_code (yX5_doPart, cX5_doPart, 4, (some .boolean), [], 5, 1, 6, 137, 0) ∈ sp_AW := List.mem_filter.mpr ⟨List.mem_of_getElem? (i := 729) rfl, rfl⟩
set_option maxRecDepth 100000 in
theorem sp_tc_94 : sp_code (yX6_init, cX6_init, 1, none, [], 6, 0, 1, 24, 2) ∈ sp_AW := List.mem_filter.mpr ⟨List.mem_of_getElem? (i := 790) rfl, rfl⟩
set_option maxRecDepth 100000 in
theorem sp_tc_95 : sp_code (yX6_thrown, cX6_thrown, 1, (some .int), [], 6, 0, 0, 0, 0) ∈ sp_AW := List.mem_filter.mpr ⟨List.mem_of_getElem? (i := 845) rfl, rfl⟩
set_option maxRecDepth 100000 in
theorem sp_tc_96 : sp_code (yX6_in, cX6_in, 3, (some .boolean), [], 6, 3, 0, 0, 1) ∈ sp_AW := List.mem_filter.mpr ⟨List.mem_of_getElem? (i := 852) rfl, rfl⟩
set_option maxRecDepth 100000 in
theorem sp_tc_97 : sp_code (yX6_fails, cX6_fails, 2, (some .int), [], 6, 1, 0, 0, 0) ∈ sp_AW := List.mem_filter.mpr ⟨List.mem_of_getElem? (i := 856) rfl, rfl⟩
set_option maxRecDepth 100000 in
theorem sp_tc_98 : sp_code (yX6_of, cX6_of, 3, (some .int), [], 6, 2, 0, 0, 0) ∈ sp_AW := List.mem_filter.mpr ⟨List.mem_of_getElem? (i := 876) rfl, rfl⟩
set_option maxRecDepth 100000 in
theorem sp_tc_99 : sp_code (yX6_lays, cX6_lays, 4, none, [], 6, 3, 0, 0, 0) ∈ sp_AW := List.mem_filter.mpr ⟨List.mem_of_getElem? (i := 795) rfl, rfl⟩
set_option maxRecDepth 100000 in
theorem sp_tc_100 : sp_code (yX6_grows, cX6_grows, 3, none, [], 6, 2, 0, 0, 0) ∈ sp_AW := List.mem_filter.mpr ⟨List.mem_of_getElem? (i := 896) rfl, rfl⟩
set_option maxRecDepth 100000 in
theorem sp_tc_101 : sp_code (yX6_onPile, cX6_onPile, 3, (some .int), [], 6, 2, 0, 0, 0) ∈ sp_AW := List.mem_filter.mpr ⟨List.mem_of_getElem? (i := 944) rfl, rfl⟩
set_option maxRecDepth 100000 in
theorem sp_tc_102 : sp_code (yX6_ofShirt, cX6_ofShirt, 3, (some .int), [], 6, 2, 0, 0, 0) ∈ sp_AW := List.mem_filter.mpr ⟨List.mem_of_getElem? (i := 948) rfl, rfl⟩
set_option maxRecDepth 100000 in
theorem sp_tc_103 : sp_code (yX6_layShirt, cX6_layShirt, 4, none, [], 6, 3, 0, 0, 0) ∈ sp_AW := List.mem_filter.mpr ⟨List.mem_of_getElem? (i := 892) rfl, rfl⟩
set_option maxRecDepth 100000 in
theorem sp_tc_104 : sp_code (yX6_isWho, cX6_isWho, 2, (some .boolean), [], 6, 1, 1, 22, 0) ∈ sp_AW := List.mem_filter.mpr ⟨List.mem_of_getElem? (i := 872) rfl, rfl⟩
set_option maxRecDepth 100000 in
theorem sp_tc_105 : sp_code (yX6_saves, cX6_saves, 2, none, [], 6, 0, 0, 0, 0) ∈ sp_AW := List.mem_filter.mpr ⟨List.mem_of_getElem? (i := 860) rfl, rfl⟩
set_option maxRecDepth 100000 in
theorem sp_tc_106 : sp_code (yX6_putAside, cX6_putAside, 2, none, [], 6, 0, 0, 0, 0) ∈ sp_AW := List.mem_filter.mpr ⟨List.mem_of_getElem? (i := 1080) rfl, rfl⟩
set_option maxRecDepth 100000 in
theorem sp_tc_107 : sp_code (yX6_takeBack, cX6_takeBack, 2, none, [], 6, 0, 0, 0, 0) ∈ sp_AW := List.mem_filter.mpr ⟨List.mem_of_getElem? (i := 1088) rfl, rfl⟩
set_option maxRecDepth 100000 in
theorem sp_tc_108 : sp_code (yX6_wakesLowest, cX6_wakesLowest, 2, none, [], 6, 0, 1, 23, 0) ∈ sp_AW := List.mem_filter.mpr ⟨List.mem_of_getElem? (i := 900) rfl, rfl⟩
set_option maxRecDepth 100000 in
theorem sp_tc_109 : sp_code (yX6_comes, cX6_comes, 4, (some .int), [], 6, 2, 2, 44, 0) ∈ sp_AW := List.mem_filter.mpr ⟨List.mem_of_getElem? (i := 888) rfl, rfl⟩
set_option maxRecDepth 100000 in
theorem sp_tc_110 : sp_code (yX6_takes, cX6_takes, 4, none, [], 6, 2, 3, 67, 0) ∈ sp_AW := List.mem_filter.mpr ⟨List.mem_of_getElem? (i := 960) rfl, rfl⟩
set_option maxRecDepth 100000 in
theorem sp_tc_111 : sp_code (yX6_takesNear, cX6_takesNear, 2, none, [], 6, 1, 4, 90, 0) ∈ sp_AW := List.mem_filter.mpr ⟨List.mem_of_getElem? (i := 956) rfl, rfl⟩
set_option maxRecDepth 100000 in
theorem sp_tc_112 : sp_code (yX6_takesFar, cX6_takesFar, 5, none, [], 6, 2, 4, 90, 0) ∈ sp_AW := List.mem_filter.mpr ⟨List.mem_of_getElem? (i := 964) rfl, rfl⟩
set_option maxRecDepth 100000 in
theorem sp_tc_113 : sp_code (yX6_canTakeFrom, cX6_canTakeFrom, 5, (some .boolean), [], 6, 2, 1, 22, 0) ∈ sp_AW := List.mem_filter.mpr ⟨List.mem_of_getElem? (i := 936) rfl, rfl⟩
set_option maxRecDepth 100000 in
theorem sp_tc_114 : sp_code (yX6_isAhead, cX6_isAhead, 4, (some .boolean), [], 6, 3, 1, 22, 0) ∈ sp_AW := List.mem_filter.mpr ⟨List.mem_of_getElem? (i := 940) rfl, rfl⟩
set_option maxRecDepth 100000 in
theorem sp_tc_115 : sp_code (yX6_chosen, cX6_chosen, 5, (some .int), [], 6, 1, 2, 46, 0) ∈ sp_AW := List.mem_filter.mpr ⟨List.mem_of_getElem? (i := 932) rfl, rfl⟩
set_option maxRecDepth 100000 in
theorem sp_tc_116 : sp_code (yX6_sews, cX6_sews, 4, none, [], 6, 1, 1, 23, 0) ∈ sp_AW := List.mem_filter.mpr ⟨List.mem_of_getElem? (i := 952) rfl, rfl⟩
set_option maxRecDepth 100000 in
theorem sp_tc_117 : sp_code (yX6_misses, cX6_misses, 2, none, [], 6, 1, 1, 23, 0) ∈ sp_AW := List.mem_filter.mpr ⟨List.mem_of_getElem? (i := 968) rfl, rfl⟩
set_option maxRecDepth 100000 in
theorem sp_tc_118 : sp_code (yX6_acts, cX6_acts, 3, none, [], 6, 1, 5, 114, 0) ∈ sp_AW := List.mem_filter.mpr ⟨List.mem_of_getElem? (i := 928) rfl, rfl⟩
set_option maxRecDepth 100000 in
theorem sp_tc_119 : sp_code (yX6_passesOne, cX6_passesOne, 2, none, [], 6, 0, 6, 136, 0) ∈ sp_AW := List.mem_filter.mpr ⟨List.mem_of_getElem? (i := 924) rfl, rfl⟩
set_option maxRecDepth 100000 in
theorem sp_tc_120 : sp_code (yX6_passesAll, cX6_passesAll, 3, none, [], 6, 1, 7, 157, 0) ∈ sp_AW := List.mem_filter.mpr ⟨List.mem_of_getElem? (i := 920) rfl, rfl⟩
set_option maxRecDepth 100000 in
theorem sp_tc_121 : sp_code (yX6_sumOf, cX6_sumOf, 4, (some .int), [], 6, 1, 1, 22, 0) ∈ sp_AW := List.mem_filter.mpr ⟨List.mem_of_getElem? (i := 916) rfl, rfl⟩
set_option maxRecDepth 100000 in
theorem sp_tc_122 : sp_code (yX6_workLeft, cX6_workLeft, 3, (some .int), [], 6, 0, 1, 22, 0) ∈ sp_AW := List.mem_filter.mpr ⟨List.mem_of_getElem? (i := 1060) rfl, rfl⟩
set_option maxRecDepth 100000 in
theorem sp_tc_123 : sp_code (yX6_shirtsThat, cX6_shirtsThat, 4, (some .int), [], 6, 1, 1, 22, 0) ∈ sp_AW := List.mem_filter.mpr ⟨List.mem_of_getElem? (i := 1056) rfl, rfl⟩
set_option maxRecDepth 100000 in
theorem sp_tc_124 : sp_code (yX6_hires, cX6_hires, 4, (some .int), [], 6, 1, 1, 23, 0) ∈ sp_AW := List.mem_filter.mpr ⟨List.mem_of_getElem? (i := 864) rfl, rfl⟩
set_option maxRecDepth 100000 in
theorem sp_tc_125 : sp_code (yX6_hire, cX6_hire, 2, (some .int), [], 6, 1, 2, 46, 0) ∈ sp_AW := List.mem_filter.mpr ⟨List.mem_of_getElem? (i := 849) rfl, rfl⟩
set_option maxRecDepth 100000 in
theorem sp_tc_126 : sp_code (yX6_speed, cX6_speed, 4, (some .int), [], 6, 2, 2, 43, 0) ∈ sp_AW := List.mem_filter.mpr ⟨List.mem_of_getElem? (i := 868) rfl, rfl⟩
set_option maxRecDepth 100000 in
theorem sp_tc_127 : sp_code (yX6_canLay, cX6_canLay, 2, (some .boolean), [], 6, 1, 1, 22, 0) ∈ sp_AW := List.mem_filter.mpr ⟨List.mem_of_getElem? (i := 884) rfl, rfl⟩
set_option maxRecDepth 100000 in
theorem sp_tc_128 : sp_code (yX6_lay, cX6_lay, 3, (some .int), [], 6, 2, 3, 67, 0) ∈ sp_AW := List.mem_filter.mpr ⟨List.mem_of_getElem? (i := 880) rfl, rfl⟩
set_option maxRecDepth 100000 in
theorem sp_tc_129 : sp_code (yX6_wakes, cX6_wakes, 3, (some .int), [], 6, 1, 1, 23, 0) ∈ sp_AW := List.mem_filter.mpr ⟨List.mem_of_getElem? (i := 908) rfl, rfl⟩
set_option maxRecDepth 100000 in
theorem sp_tc_130 : sp_code (yX6_wake, cX6_wake, 2, (some .int), [], 6, 1, 2, 45, 0) ∈ sp_AW := List.mem_filter.mpr ⟨List.mem_of_getElem? (i := 904) rfl, rfl⟩
set_option maxRecDepth 100000 in
theorem sp_tc_131 : sp_code (yX6_pass, cX6_pass, 3, (some .int), [], 6, 1, 8, 179, 0) ∈ sp_AW := List.mem_filter.mpr ⟨List.mem_of_getElem? (i := 912) rfl, rfl⟩
set_option maxRecDepth 100000 in
theorem sp_tc_132 : sp_code (yX6_set, cX6_set, 5, (some .int), [], 6, 2, 1, 22, 0) ∈ sp_AW := List.mem_filter.mpr ⟨List.mem_of_getElem? (i := 972) rfl, rfl⟩
set_option maxRecDepth 100000 in
theorem sp_tc_133 : sp_code (yX6_append, cX6_append, 2, (some .int), [], 6, 1, 1, 22, 0) ∈ sp_AW := List.mem_filter.mpr ⟨List.mem_of_getElem? (i := 976) rfl, rfl⟩
set_option maxRecDepth 100000 in
theorem sp_tc_134 : sp_code (yX6_clearBuffer, cX6_clearBuffer, 2, (some .int), [], 6, 0, 0, 0, 0) ∈ sp_AW := List.mem_filter.mpr ⟨List.mem_of_getElem? (i := 980) rfl, rfl⟩
set_option maxRecDepth 100000 in
theorem sp_tc_135 : sp_code (yX6_sign, cX6_sign, 1, (some .int), [], 6, 0, 0, 0, 0) ∈ sp_AW := List.mem_filter.mpr ⟨List.mem_of_getElem? (i := 996) rfl, rfl⟩
set_option maxRecDepth 100000 in
theorem sp_tc_136 : sp_code (yX6_digit, cX6_digit, 4, (some .int), [], 6, 2, 1, 22, 0) ∈ sp_AW := List.mem_filter.mpr ⟨List.mem_of_getElem? (i := 1000) rfl, rfl⟩
set_option maxRecDepth 100000 in
theorem sp_tc_137 : sp_code (yX6_number, cX6_number, 2, (some .int), [], 6, 0, 2, 45, 0) ∈ sp_AW := List.mem_filter.mpr ⟨List.mem_of_getElem? (i := 1004) rfl, rfl⟩
set_option maxRecDepth 100000 in
theorem sp_tc_138 : sp_code (yX6_readsOrder, cX6_readsOrder, 3, none, [], 6, 0, 3, 66, 0) ∈ sp_AW := List.mem_filter.mpr ⟨List.mem_of_getElem? (i := 992) rfl, rfl⟩
set_option maxRecDepth 100000 in
theorem sp_tc_139 : sp_code (yX6_readsAll, cX6_readsAll, 1, none, [], 6, 0, 4, 88, 0) ∈ sp_AW := List.mem_filter.mpr ⟨List.mem_of_getElem? (i := 988) rfl, rfl⟩
set_option maxRecDepth 100000 in
theorem sp_tc_140 : sp_code (yX6_firstError, cX6_firstError, 1, (some .int), [], 6, 0, 5, 108, 0) ∈ sp_AW := List.mem_filter.mpr ⟨List.mem_of_getElem? (i := 984) rfl, rfl⟩
set_option maxRecDepth 100000 in
theorem sp_tc_141 : sp_code (yX6_obeys, cX6_obeys, 5, (some .boolean), [], 6, 1, 8, 179, 0) ∈ sp_AW := List.mem_filter.mpr ⟨List.mem_of_getElem? (i := 1012) rfl, rfl⟩
set_option maxRecDepth 100000 in
theorem sp_tc_142 : sp_code (yX6_obey, cX6_obey, 2, (some .int), [], 6, 0, 9, 203, 0) ∈ sp_AW := List.mem_filter.mpr ⟨List.mem_of_getElem? (i := 1008) rfl, rfl⟩
set_option maxRecDepth 100000 in
theorem sp_tc_143 : sp_code (yX6_keep, cX6_keep, 2, (some .int), [], 6, 0, 0, 0, 0) ∈ sp_AW := List.mem_filter.mpr ⟨List.mem_of_getElem? (i := 1016) rfl, rfl⟩
set_option maxRecDepth 100000 in
theorem sp_tc_144 : sp_code (yX6_goBack, cX6_goBack, 2, (some .int), [], 6, 0, 1, 21, 0) ∈ sp_AW := List.mem_filter.mpr ⟨List.mem_of_getElem? (i := 1020) rfl, rfl⟩
set_option maxRecDepth 100000 in
theorem sp_tc_145 : sp_code (yX6_undo, cX6_undo, 2, (some .int), [], 6, 0, 1, 21, 0) ∈ sp_AW := List.mem_filter.mpr ⟨List.mem_of_getElem? (i := 1024) rfl, rfl⟩
set_option maxRecDepth 100000 in
theorem sp_tc_146 : sp_code (yX6_load, cX6_load, 4, (some .int), [], 6, 1, 1, 22, 0) ∈ sp_AW := List.mem_filter.mpr ⟨List.mem_of_getElem? (i := 1036) rfl, rfl⟩
set_option maxRecDepth 100000 in
theorem sp_tc_147 : sp_code (yX6_tellsWho, cX6_tellsWho, 3, (some .int), [], 6, 2, 2, 45, 0) ∈ sp_AW := List.mem_filter.mpr ⟨List.mem_of_getElem? (i := 1032) rfl, rfl⟩
set_option maxRecDepth 100000 in
theorem sp_tc_148 : sp_code (yX6_seamstress, cX6_seamstress, 3, (some .int), [], 6, 2, 3, 67, 0) ∈ sp_AW := List.mem_filter.mpr ⟨List.mem_of_getElem? (i := 1028) rfl, rfl⟩
set_option maxRecDepth 100000 in
theorem sp_tc_149 : sp_code (yX6_pile, cX6_pile, 3, (some .int), [], 6, 2, 2, 43, 0) ∈ sp_AW := List.mem_filter.mpr ⟨List.mem_of_getElem? (i := 1040) rfl, rfl⟩
set_option maxRecDepth 100000 in
theorem sp_tc_150 : sp_code (yX6_shirt, cX6_shirt, 3, (some .int), [], 6, 2, 1, 22, 0) ∈ sp_AW := List.mem_filter.mpr ⟨List.mem_of_getElem? (i := 1044) rfl, rfl⟩
set_option maxRecDepth 100000 in
theorem sp_tc_151 : sp_code (yX6_tellsCount, cX6_tellsCount, 2, (some .int), [], 6, 1, 2, 45, 0) ∈ sp_AW := List.mem_filter.mpr ⟨List.mem_of_getElem? (i := 1052) rfl, rfl⟩
set_option maxRecDepth 100000 in
theorem sp_tc_152 : sp_code (yX6_count, cX6_count, 2, (some .int), [], 6, 1, 3, 66, 0) ∈ sp_AW := List.mem_filter.mpr ⟨List.mem_of_getElem? (i := 1048) rfl, rfl⟩
set_option maxRecDepth 100000 in
theorem sp_tc_153 : sp_code (yX6_setting, cX6_setting, 2, (some .int), [], 6, 1, 1, 22, 0) ∈ sp_AW := List.mem_filter.mpr ⟨List.mem_of_getElem? (i := 1064) rfl, rfl⟩
set_option maxRecDepth 100000 in
theorem sp_tc_154 : sp_code (yX6_choice, cX6_choice, 2, (some .int), [], 6, 1, 3, 70, 0) ∈ sp_AW := List.mem_filter.mpr ⟨List.mem_of_getElem? (i := 1068) rfl, rfl⟩
set_option maxRecDepth 100000 in
theorem sp_tc_155 : sp_code (yX6_until, cX6_until, 2, (some .int), [], 6, 0, 7, 157, 0) ∈ sp_AW := List.mem_filter.mpr ⟨List.mem_of_getElem? (i := 1084) rfl, rfl⟩
set_option maxRecDepth 100000 in
theorem sp_tc_156 : sp_code (yX6_done, cX6_done, 4, (some .int), [], 6, 2, 8, 178, 0) ∈ sp_AW := List.mem_filter.mpr ⟨List.mem_of_getElem? (i := 1076) rfl, rfl⟩
set_option maxRecDepth 100000 in
theorem sp_tc_157 : sp_code (yX6_doneIn, cX6_doneIn, 1, (some .int), [], 6, 0, 9, 201, 0) ∈ sp_AW := List.mem_filter.mpr ⟨List.mem_of_getElem? (i := 1072) rfl, rfl⟩
set_option maxRecDepth 100000 in
theorem sp_tc_158 : sp_code (yX6_doneAlone, cX6_doneAlone, 1, (some .int), [], 6, 0, 9, 201, 0) ∈ sp_AW := List.mem_filter.mpr ⟨List.mem_of_getElem? (i := 1092) rfl, rfl⟩
set_option maxRecDepth 100000 in
theorem sp_tc_159 : sp_code (yX6_doneWith, cX6_doneWith, 2, (some .int), [], 6, 1, 9, 201, 0) ∈ sp_AW := List.mem_filter.mpr ⟨List.mem_of_getElem? (i := 1096) rfl, rfl⟩
set_option maxRecDepth 100000 in
theorem sp_tc_160 : sp_code (yX6_would, cX6_would, 6, (some .int), [], 6, 2, 8, 179, 0) ∈ sp_AW := List.mem_filter.mpr ⟨List.mem_of_getElem? (i := 1104) rfl, rfl⟩
set_option maxRecDepth 100000 in
theorem sp_tc_161 : sp_code (yX6_ifPassed, cX6_ifPassed, 3, (some .int), [], 6, 2, 9, 204, 0) ∈ sp_AW := List.mem_filter.mpr ⟨List.mem_of_getElem? (i := 1100) rfl, rfl⟩
set_option maxRecDepth 100000 in
theorem sp_tc_162 : sp_code (yX6_share, cX6_share, 1, (some .double), [], 6, 0, 2, 45, 0) ∈ sp_AW := List.mem_filter.mpr ⟨List.mem_of_getElem? (i := 1112) rfl, rfl⟩
set_option maxRecDepth 100000 in
theorem sp_tc_163 : sp_code (yX6_takenShare, cX6_takenShare, 1, (some .double), [], 6, 0, 3, 65, 0) ∈ sp_AW := List.mem_filter.mpr ⟨List.mem_of_getElem? (i := 1108) rfl, rfl⟩
set_option maxRecDepth 100000 in
theorem sp_tc_164 : sp_code (yX6_even, cX6_even, 4, (some .float), [], 6, 0, 2, 45, 0) ∈ sp_AW := List.mem_filter.mpr ⟨List.mem_of_getElem? (i := 1120) rfl, rfl⟩
set_option maxRecDepth 100000 in
theorem sp_tc_165 : sp_code (yX6_evenness, cX6_evenness, 1, (some .float), [], 6, 0, 3, 68, 0) ∈ sp_AW := List.mem_filter.mpr ⟨List.mem_of_getElem? (i := 1116) rfl, rfl⟩
set_option maxRecDepth 100000 in
theorem sp_tc_166 : sp_code (yX6_hashes, cX6_hashes, 3, none, [], 6, 1, 0, 0, 0) ∈ sp_AW := List.mem_filter.mpr ⟨List.mem_of_getElem? (i := 1129) rfl, rfl⟩
set_option maxRecDepth 100000 in
theorem sp_tc_167 : sp_code (yX6_hashesWho, cX6_hashesWho, 3, none, [], 6, 1, 3, 70, 0) ∈ sp_AW := List.mem_filter.mpr ⟨List.mem_of_getElem? (i := 1134) rfl, rfl⟩
set_option maxRecDepth 100000 in
theorem sp_tc_168 : sp_code (yX6_digest, cX6_digest, 2, (some .long), [], 6, 0, 9, 204, 0) ∈ sp_AW := List.mem_filter.mpr ⟨List.mem_of_getElem? (i := 1124) rfl, rfl⟩
set_option maxRecDepth 100000 in
theorem sp_tc_169 : sp_code (yL_hire, cL_hire, 4, (some .int), [(0, 9, 12, 13), (0, 9, 15, 15)], 7, 3, 9, 141, 1) ∈ sp_AW := List.mem_filter.mpr ⟨List.mem_of_getElem? (i := 607) rfl, rfl⟩
set_option maxRecDepth 100000 in
theorem sp_tc_170 : sp_code (yL_speed, cL_speed, 5, (some .int), [(0, 10, 13, 21), (0, 10, 17, 13)], 7, 4, 9, 143, 1) ∈ sp_AW := List.mem_filter.mpr ⟨List.mem_of_getElem? (i := 641) rfl, rfl⟩
set_option maxRecDepth 100000 in
theorem sp_tc_171 : sp_code (yL_lay, cL_lay, 5, (some .int), [(0, 10, 13, 21), (0, 10, 17, 13), (0, 10, 21, 15)], 7, 4, 9, 143, 1) ∈ sp_AW := List.mem_filter.mpr ⟨List.mem_of_getElem? (i := 653) rfl, rfl⟩
set_option maxRecDepth 100000 in
theorem sp_tc_172 : sp_code (yL_wake, cL_wake, 4, (some .int), [(0, 9, 12, 21)], 7, 3, 9, 142, 1) ∈ sp_AW := List.mem_filter.mpr ⟨List.mem_of_getElem? (i := 667) rfl, rfl⟩
set_option maxRecDepth 100000 in
theorem sp_tc_173 : sp_code (yL_pass, cL_pass, 4, (some .int), [(0, 9, 12, 13)], 7, 3, 8, 159, 1) ∈ sp_AW := List.mem_filter.mpr ⟨List.mem_of_getElem? (i := 678) rfl, rfl⟩
set_option maxRecDepth 100000 in
theorem sp_tc_174 : sp_code (yL_set, cL_set, 5, (some .int), [(0, 10, 13, 21), (0, 10, 17, 13)], 7, 4, 9, 143, 1) ∈ sp_AW := List.mem_filter.mpr ⟨List.mem_of_getElem? (i := 686) rfl, rfl⟩
set_option maxRecDepth 100000 in
theorem sp_tc_175 : sp_code (yL_append, cL_append, 4, (some .int), [(0, 9, 12, 13), (0, 9, 15, 15)], 7, 3, 8, 121, 1) ∈ sp_AW := List.mem_filter.mpr ⟨List.mem_of_getElem? (i := 698) rfl, rfl⟩
set_option maxRecDepth 100000 in
theorem sp_tc_176 : sp_code (yL_obey, cL_obey, 3, (some .int), [(0, 8, 11, 13)], 7, 2, 8, 182, 1) ∈ sp_AW := List.mem_filter.mpr ⟨List.mem_of_getElem? (i := 711) rfl, rfl⟩
set_option maxRecDepth 100000 in
theorem sp_tc_177 : sp_code (yL_goBack, cL_goBack, 3, (some .int), [(0, 8, 11, 15)], 7, 2, 8, 120, 1) ∈ sp_AW := List.mem_filter.mpr ⟨List.mem_of_getElem? (i := 736) rfl, rfl⟩
set_option maxRecDepth 100000 in
theorem sp_tc_178 : sp_code (yL_undo, cL_undo, 3, (some .int), [(0, 8, 11, 15)], 7, 2, 8, 120, 1) ∈ sp_AW := List.mem_filter.mpr ⟨List.mem_of_getElem? (i := 744) rfl, rfl⟩
set_option maxRecDepth 100000 in
theorem sp_tc_179 : sp_code (yL_seamstress, cL_seamstress, 5, (some .int), [(0, 10, 13, 21), (0, 10, 17, 13)], 7, 4, 9, 143, 1) ∈ sp_AW := List.mem_filter.mpr ⟨List.mem_of_getElem? (i := 756) rfl, rfl⟩
set_option maxRecDepth 100000 in
theorem sp_tc_180 : sp_code (yL_pile, cL_pile, 5, (some .int), [(0, 10, 13, 21), (0, 10, 17, 13)], 7, 4, 9, 143, 1) ∈ sp_AW := List.mem_filter.mpr ⟨List.mem_of_getElem? (i := 760) rfl, rfl⟩
set_option maxRecDepth 100000 in
theorem sp_tc_181 : sp_code (yL_shirt, cL_shirt, 5, (some .int), [(0, 10, 13, 21), (0, 10, 17, 13)], 7, 4, 8, 122, 1) ∈ sp_AW := List.mem_filter.mpr ⟨List.mem_of_getElem? (i := 764) rfl, rfl⟩
set_option maxRecDepth 100000 in
theorem sp_tc_182 : sp_code (yL_count, cL_count, 4, (some .int), [(0, 9, 12, 13)], 7, 3, 8, 121, 1) ∈ sp_AW := List.mem_filter.mpr ⟨List.mem_of_getElem? (i := 768) rfl, rfl⟩
set_option maxRecDepth 100000 in
theorem sp_tc_183 : sp_code (yL_setting, cL_setting, 4, (some .int), [(0, 9, 12, 21)], 7, 3, 9, 141, 1) ∈ sp_AW := List.mem_filter.mpr ⟨List.mem_of_getElem? (i := 772) rfl, rfl⟩
set_option maxRecDepth 100000 in
theorem sp_tc_184 : sp_code (yL_choice, cL_choice, 4, (some .int), [(0, 9, 12, 21)], 7, 3, 9, 142, 1) ∈ sp_AW := List.mem_filter.mpr ⟨List.mem_of_getElem? (i := 776) rfl, rfl⟩
set_option maxRecDepth 100000 in
theorem sp_tc_185 : sp_code (yL_doneWith, cL_doneWith, 4, (some .int), [(0, 9, 12, 13)], 7, 3, 9, 158, 1) ∈ sp_AW := List.mem_filter.mpr ⟨List.mem_of_getElem? (i := 780) rfl, rfl⟩
set_option maxRecDepth 100000 in
theorem sp_tc_186 : sp_code (yL_ifPassed, cL_ifPassed, 5, (some .int), [(0, 10, 13, 13)], 7, 4, 8, 159, 1) ∈ sp_AW := List.mem_filter.mpr ⟨List.mem_of_getElem? (i := 784) rfl, rfl⟩
set_option maxRecDepth 100000 in
theorem sp_T_code : ∀ w ∈ sp_T0.map sp_code, w ∈ sp_AW := List.forall_mem_cons.mpr ⟨sp_tc_0, List.forall_mem_cons.mpr ⟨sp_tc_1, List.forall_mem_cons.mpr ⟨sp_tc_2, List.forall_mem_cons.mpr ⟨sp_tc_3, List.forall_mem_cons.mpr ⟨sp_tc_4, List.forall_mem_cons.mpr ⟨sp_tc_5, List.forall_mem_cons.mpr ⟨sp_tc_6, List.forall_mem_cons.mpr ⟨sp_tc_7, List.forall_mem_cons.mpr ⟨sp_tc_8, List.forall_mem_cons.mpr ⟨sp_tc_9, List.forall_mem_cons.mpr ⟨sp_tc_10, List.forall_mem_cons.mpr ⟨sp_tc_11, List.forall_mem_cons.mpr ⟨sp_tc_12, List.forall_mem_cons.mpr ⟨sp_tc_13, List.forall_mem_cons.mpr ⟨sp_tc_14, List.forall_mem_cons.mpr ⟨sp_tc_15, List.forall_mem_cons.mpr ⟨sp_tc_16, List.forall_mem_cons.mpr ⟨sp_tc_17, List.forall_mem_cons.mpr ⟨sp_tc_18, List.forall_mem_cons.mpr ⟨sp_tc_19, List.forall_mem_cons.mpr ⟨sp_tc_20, List.forall_mem_cons.mpr ⟨sp_tc_21, List.forall_mem_cons.mpr ⟨sp_tc_22, List.forall_mem_cons.mpr ⟨sp_tc_23, List.forall_mem_cons.mpr ⟨sp_tc_24, List.forall_mem_cons.mpr ⟨sp_tc_25, List.forall_mem_cons.mpr ⟨sp_tc_26, List.forall_mem_cons.mpr ⟨sp_tc_27, List.forall_mem_cons.mpr ⟨sp_tc_28, List.forall_mem_cons.mpr ⟨sp_tc_29, List.forall_mem_cons.mpr ⟨sp_tc_30, List.forall_mem_cons.mpr ⟨sp_tc_31, List.forall_mem_cons.mpr ⟨sp_tc_32, List.forall_mem_cons.mpr ⟨sp_tc_33, List.forall_mem_cons.mpr ⟨sp_tc_34, List.forall_mem_cons.mpr ⟨sp_tc_35, List.forall_mem_cons.mpr ⟨sp_tc_36, List.forall_mem_cons.mpr ⟨sp_tc_37, List.forall_mem_cons.mpr ⟨sp_tc_38, List.forall_mem_cons.mpr ⟨sp_tc_39, List.forall_mem_cons.mpr ⟨sp_tc_40, List.forall_mem_cons.mpr ⟨sp_tc_41, List.forall_mem_cons.mpr ⟨sp_tc_42, List.forall_mem_cons.mpr ⟨sp_tc_43, List.forall_mem_cons.mpr ⟨sp_tc_44, List.forall_mem_cons.mpr ⟨sp_tc_45, List.forall_mem_cons.mpr ⟨sp_tc_46, List.forall_mem_cons.mpr ⟨sp_tc_47, List.forall_mem_cons.mpr ⟨sp_tc_48, List.forall_mem_cons.mpr ⟨sp_tc_49, List.forall_mem_cons.mpr ⟨sp_tc_50, List.forall_mem_cons.mpr ⟨sp_tc_51, List.forall_mem_cons.mpr ⟨sp_tc_52, List.forall_mem_cons.mpr ⟨sp_tc_53, List.forall_mem_cons.mpr ⟨sp_tc_54, List.forall_mem_cons.mpr ⟨sp_tc_55, List.forall_mem_cons.mpr ⟨sp_tc_56, List.forall_mem_cons.mpr ⟨sp_tc_57, List.forall_mem_cons.mpr ⟨sp_tc_58, List.forall_mem_cons.mpr ⟨sp_tc_59, List.forall_mem_cons.mpr ⟨sp_tc_60, List.forall_mem_cons.mpr ⟨sp_tc_61, List.forall_mem_cons.mpr ⟨sp_tc_62, List.forall_mem_cons.mpr ⟨sp_tc_63, List.forall_mem_cons.mpr ⟨sp_tc_64, List.forall_mem_cons.mpr ⟨sp_tc_65, List.forall_mem_cons.mpr ⟨sp_tc_66, List.forall_mem_cons.mpr ⟨sp_tc_67, List.forall_mem_cons.mpr ⟨sp_tc_68, List.forall_mem_cons.mpr ⟨sp_tc_69, List.forall_mem_cons.mpr ⟨sp_tc_70, List.forall_mem_cons.mpr ⟨sp_tc_71, List.forall_mem_cons.mpr ⟨sp_tc_72, List.forall_mem_cons.mpr ⟨sp_tc_73, List.forall_mem_cons.mpr ⟨sp_tc_74, List.forall_mem_cons.mpr ⟨sp_tc_75, List.forall_mem_cons.mpr ⟨sp_tc_76, List.forall_mem_cons.mpr ⟨sp_tc_77, List.forall_mem_cons.mpr ⟨sp_tc_78, List.forall_mem_cons.mpr ⟨sp_tc_79, List.forall_mem_cons.mpr ⟨sp_tc_80, List.forall_mem_cons.mpr ⟨sp_tc_81, List.forall_mem_cons.mpr ⟨sp_tc_82, List.forall_mem_cons.mpr ⟨sp_tc_83, List.forall_mem_cons.mpr ⟨sp_tc_84, List.forall_mem_cons.mpr ⟨sp_tc_85, List.forall_mem_cons.mpr ⟨sp_tc_86, List.forall_mem_cons.mpr ⟨sp_tc_87, List.forall_mem_cons.mpr ⟨sp_tc_88, List.forall_mem_cons.mpr ⟨sp_tc_89, List.forall_mem_cons.mpr ⟨sp_tc_90, List.forall_mem_cons.mpr ⟨sp_tc_91, List.forall_mem_cons.mpr ⟨sp_tc_92, List.forall_mem_cons.mpr ⟨sp_tc_93, List.forall_mem_cons.mpr ⟨sp_tc_94, List.forall_mem_cons.mpr ⟨sp_tc_95, List.forall_mem_cons.mpr ⟨sp_tc_96, List.forall_mem_cons.mpr ⟨sp_tc_97, List.forall_mem_cons.mpr ⟨sp_tc_98, List.forall_mem_cons.mpr ⟨sp_tc_99, List.forall_mem_cons.mpr ⟨sp_tc_100, List.forall_mem_cons.mpr ⟨sp_tc_101, List.forall_mem_cons.mpr ⟨sp_tc_102, List.forall_mem_cons.mpr ⟨sp_tc_103, List.forall_mem_cons.mpr ⟨sp_tc_104, List.forall_mem_cons.mpr ⟨sp_tc_105, List.forall_mem_cons.mpr ⟨sp_tc_106, List.forall_mem_cons.mpr ⟨sp_tc_107, List.forall_mem_cons.mpr ⟨sp_tc_108, List.forall_mem_cons.mpr ⟨sp_tc_109, List.forall_mem_cons.mpr ⟨sp_tc_110, List.forall_mem_cons.mpr ⟨sp_tc_111, List.forall_mem_cons.mpr ⟨sp_tc_112, List.forall_mem_cons.mpr ⟨sp_tc_113, List.forall_mem_cons.mpr ⟨sp_tc_114, List.forall_mem_cons.mpr ⟨sp_tc_115, List.forall_mem_cons.mpr ⟨sp_tc_116, List.forall_mem_cons.mpr ⟨sp_tc_117, List.forall_mem_cons.mpr ⟨sp_tc_118, List.forall_mem_cons.mpr ⟨sp_tc_119, List.forall_mem_cons.mpr ⟨sp_tc_120, List.forall_mem_cons.mpr ⟨sp_tc_121, List.forall_mem_cons.mpr ⟨sp_tc_122, List.forall_mem_cons.mpr ⟨sp_tc_123, List.forall_mem_cons.mpr ⟨sp_tc_124, List.forall_mem_cons.mpr ⟨sp_tc_125, List.forall_mem_cons.mpr ⟨sp_tc_126, List.forall_mem_cons.mpr ⟨sp_tc_127, List.forall_mem_cons.mpr ⟨sp_tc_128, List.forall_mem_cons.mpr ⟨sp_tc_129, List.forall_mem_cons.mpr ⟨sp_tc_130, List.forall_mem_cons.mpr ⟨sp_tc_131, List.forall_mem_cons.mpr ⟨sp_tc_132, List.forall_mem_cons.mpr ⟨sp_tc_133, List.forall_mem_cons.mpr ⟨sp_tc_134, List.forall_mem_cons.mpr ⟨sp_tc_135, List.forall_mem_cons.mpr ⟨sp_tc_136, List.forall_mem_cons.mpr ⟨sp_tc_137, List.forall_mem_cons.mpr ⟨sp_tc_138, List.forall_mem_cons.mpr ⟨sp_tc_139, List.forall_mem_cons.mpr ⟨sp_tc_140, List.forall_mem_cons.mpr ⟨sp_tc_141, List.forall_mem_cons.mpr ⟨sp_tc_142, List.forall_mem_cons.mpr ⟨sp_tc_143, List.forall_mem_cons.mpr ⟨sp_tc_144, List.forall_mem_cons.mpr ⟨sp_tc_145, List.forall_mem_cons.mpr ⟨sp_tc_146, List.forall_mem_cons.mpr ⟨sp_tc_147, List.forall_mem_cons.mpr ⟨sp_tc_148, List.forall_mem_cons.mpr ⟨sp_tc_149, List.forall_mem_cons.mpr ⟨sp_tc_150, List.forall_mem_cons.mpr ⟨sp_tc_151, List.forall_mem_cons.mpr ⟨sp_tc_152, List.forall_mem_cons.mpr ⟨sp_tc_153, List.forall_mem_cons.mpr ⟨sp_tc_154, List.forall_mem_cons.mpr ⟨sp_tc_155, List.forall_mem_cons.mpr ⟨sp_tc_156, List.forall_mem_cons.mpr ⟨sp_tc_157, List.forall_mem_cons.mpr ⟨sp_tc_158, List.forall_mem_cons.mpr ⟨sp_tc_159, List.forall_mem_cons.mpr ⟨sp_tc_160, List.forall_mem_cons.mpr ⟨sp_tc_161, List.forall_mem_cons.mpr ⟨sp_tc_162, List.forall_mem_cons.mpr ⟨sp_tc_163, List.forall_mem_cons.mpr ⟨sp_tc_164, List.forall_mem_cons.mpr ⟨sp_tc_165, List.forall_mem_cons.mpr ⟨sp_tc_166, List.forall_mem_cons.mpr ⟨sp_tc_167, List.forall_mem_cons.mpr ⟨sp_tc_168, List.forall_mem_cons.mpr ⟨sp_tc_169, List.forall_mem_cons.mpr ⟨sp_tc_170, List.forall_mem_cons.mpr ⟨sp_tc_171, List.forall_mem_cons.mpr ⟨sp_tc_172, List.forall_mem_cons.mpr ⟨sp_tc_173, List.forall_mem_cons.mpr ⟨sp_tc_174, List.forall_mem_cons.mpr ⟨sp_tc_175, List.forall_mem_cons.mpr ⟨sp_tc_176, List.forall_mem_cons.mpr ⟨sp_tc_177, List.forall_mem_cons.mpr ⟨sp_tc_178, List.forall_mem_cons.mpr ⟨sp_tc_179, List.forall_mem_cons.mpr ⟨sp_tc_180, List.forall_mem_cons.mpr ⟨sp_tc_181, List.forall_mem_cons.mpr ⟨sp_tc_182, List.forall_mem_cons.mpr ⟨sp_tc_183, List.forall_mem_cons.mpr ⟨sp_tc_184, List.forall_mem_cons.mpr ⟨sp_tc_185, List.forall_mem_cons.mpr ⟨sp_tc_186, fun _ h => absurd h List.not_mem_nil⟩⟩⟩⟩⟩⟩⟩⟩⟩⟩⟩⟩⟩⟩⟩⟩⟩⟩⟩⟩⟩⟩⟩⟩⟩⟩⟩⟩⟩⟩⟩⟩⟩⟩⟩⟩⟩⟩⟩⟩⟩⟩⟩⟩⟩⟩⟩⟩⟩⟩⟩⟩⟩⟩⟩⟩⟩⟩⟩⟩⟩⟩⟩⟩⟩⟩⟩⟩⟩⟩⟩⟩⟩⟩⟩⟩⟩⟩⟩⟩⟩⟩⟩⟩⟩⟩⟩⟩⟩⟩⟩⟩⟩⟩⟩⟩⟩⟩⟩⟩⟩⟩⟩⟩⟩⟩⟩⟩⟩⟩⟩⟩⟩⟩⟩⟩⟩⟩⟩⟩⟩⟩⟩⟩⟩⟩⟩⟩⟩⟩⟩⟩⟩⟩⟩⟩⟩⟩⟩⟩⟩⟩⟩⟩⟩⟩⟩⟩⟩⟩⟩⟩⟩⟩⟩⟩⟩⟩⟩⟩⟩⟩⟩⟩⟩⟩⟩⟩⟩⟩⟩⟩⟩⟩⟩⟩⟩⟩⟩⟩⟩⟩⟩⟩⟩⟩⟩
set_option maxRecDepth 100000 in
theorem sp_T_ini : ∀ w ∈ sp_T0.map (fun e => Cond.initialized e.1.cls), w ∈ sp_AW := sp_pick _ [68, 68, 68, 68, 69, 69, 69, 69, 69, 69, 69, 69, 69, 69, 69, 69, 66, 66, 66, 66, 66, 66, 66, 65, 65, 65, 65, 65, 65, 65, 65, 65, 65, 65, 65, 65, 65, 65, 65, 65, 65, 65, 65, 65, 65, 65, 65, 65, 65, 67, 67, 67, 67, 67, 67, 67, 67, 67, 64, 64, 64, 64, 64, 64, 64, 64, 64, 64, 64, 64, 64, 64, 64, 64, 64, 64, 64, 64, 64, 64, 64, 64, 64, 64, 64, 64, 64, 64, 64, 64, 64, 64, 64, 64, 70, 70, 70, 70, 70, 70, 70, 70, 70, 70, 70, 70, 70, 70, 70, 70, 70, 70, 70, 70, 70, 70, 70, 70, 70, 70, 70, 70, 70, 70, 70, 70, 70, 70, 70, 70, 70, 70, 70, 70, 70, 70, 70, 70, 70, 70, 70, 70, 70, 70, 70, 70, 70, 70, 70, 70, 70, 70, 70, 70, 70, 70, 70, 70, 70, 70, 70, 70, 70, 70, 70, 70, 70, 70, 70, 63, 63, 63, 63, 63, 63, 63, 63, 63, 63, 63, 63, 63, 63, 63, 63, 63, 63] (by decide +kernel) (by decide +kernel)
set_option maxRecDepth 100000 in
theorem sp_T_inst : ∀ w ∈ (sp_T0.filter (fun e => decide (e.2.2.2.2.2.2.2.2.2 ≠ 1))).map (fun e => Cond.instanceMethod e.1), w ∈ sp_AW := sp_pick _ [189, 631, 751, 636, 206, 706, 242, 602, 250, 717, 722, 731, 96, 274, 334, 354, 378, 338, 358, 90, 270, 310, 572, 648, 673, 660, 370, 383, 581, 303, 307, 315, 363, 367, 342, 347, 351, 286, 531, 481, 399, 290, 486, 299, 294, 114, 278, 326, 374, 318, 322, 330, 558, 489, 82, 611, 644, 655, 669, 680, 688, 700, 238, 246, 713, 266, 738, 746, 520, 537, 552, 409, 493, 543, 282, 386, 564, 576, 390, 395, 403, 517, 549, 599, 525, 728, 789, 843, 855, 875, 794, 895, 943, 947, 891, 871, 859, 1079, 1087, 899, 887, 959, 955, 963, 935, 939, 931, 951, 967, 927, 923, 919, 915, 1059, 1055, 863, 847, 866, 883, 878, 907, 902, 910, 970, 974, 978, 995, 999, 1003, 991, 987, 982, 1011, 1006, 1014, 1018, 1022, 1035, 1031, 1026, 1038, 1042, 1051, 1046, 1062, 1066, 1083, 1075, 1070, 1090, 1094, 1103, 1098, 1111, 1106, 1119, 1114, 1128, 1133, 1122] (by decide +kernel) (by decide +kernel)
set_option maxRecDepth 100000 in
theorem sp_T_stat : ∀ w ∈ (sp_T0.filter (fun e => decide (e.2.2.2.2.2.2.2.2.2 = 1))).map (fun e => Cond.static e.1), w ∈ sp_AW := sp_pick _ [254, 257, 263, 260, 588, 594, 568, 497, 851, 606, 640, 652, 666, 677, 685, 697, 710, 735, 743, 755, 759, 763, 767, 771, 775, 779, 783] (by decide +kernel) (by decide +kernel)
set_option maxRecDepth 100000 in
theorem sp_T_sel : ∀ w ∈ (sp_T0.filter (fun e => decide (e.2.2.2.2.2.2.2.2.2 = 0))).map (fun e => Cond.selects e.1.cls e.1 e.1), w ∈ sp_AW := sp_pick _ [632, 752, 15, 707, 243, 603, 251, 718, 723, 732, 275, 335, 355, 379, 339, 359, 271, 311, 573, 649, 674, 661, 371, 8, 582, 1, 2, 3, 6, 7, 343, 4, 5, 287, 532, 482, 400, 291, 10, 0, 295, 279, 327, 375, 319, 323, 331, 559, 490, 612, 645, 656, 670, 681, 689, 701, 239, 247, 714, 267, 739, 747, 521, 538, 553, 410, 494, 544, 283, 387, 565, 577, 391, 396, 404, 11, 13, 14, 12, 16, 844, 18, 22, 17, 26, 36, 37, 25, 21, 19, 55, 57, 27, 24, 40, 39, 41, 34, 35, 33, 38, 42, 32, 31, 30, 29, 53, 52, 20, 848, 867, 23, 879, 28, 903, 911, 971, 975, 979, 45, 46, 47, 44, 43, 983, 48, 1007, 1015, 1019, 1023, 50, 49, 1027, 1039, 1043, 51, 1047, 1063, 1067, 56, 54, 1071, 1091, 1095, 58, 1099, 59, 1107, 60, 1115, 61, 62, 1123] (by decide +kernel) (by decide +kernel)
def sp_cls (c : Nat) : String := match c with
  | 0 => RX0
  | 1 => RX1
  | 2 => RX2
  | 3 => RX3
  | 4 => RX4
  | 5 => RX5
  | 6 => RX6
  | _ => RL
def sp_Tf (c : Nat) : u_T := match c with
  | 0 => TX0
  | 1 => TX1
  | 2 => TX2
  | 3 => TX3
  | 4 => TX4
  | 5 => TX5
  | _ => TX6
def sp_N (c : Nat) : Nat := match c with
  | 0 => 2
  | 1 => 2
  | 2 => 2
  | 3 => 15
  | 4 => 4
  | 5 => 6
  | _ => 15
def sp_ty (c : Nat) : Nat → FieldType := match c with
  | 0 => tyX0
  | 1 => tyX1
  | 2 => tyX2
  | 3 => tyX3
  | 4 => tyX4
  | 5 => tyX5
  | _ => tyX6
def sp_flT : List (Nat × Nat × (Nat × Nat)) := [(2, 11, 2, 0), (2, 19, 2, 1), (4, 21, 4, 0), (4, 9, 4, 1), (4, 15, 4, 2), (4, 18, 4, 3), (3, 58, 3, 0), (3, 9, 3, 1), (3, 61, 3, 2), (3, 64, 3, 3), (3, 15, 3, 4), (3, 19, 3, 5), (3, 22, 3, 6), (3, 25, 3, 7), (3, 28, 3, 8), (3, 32, 3, 9), (3, 35, 3, 10), (3, 38, 3, 11), (3, 41, 3, 12), (3, 47, 3, 13), (3, 54, 3, 14), (0, 11, 0, 0), (0, 18, 0, 1), (1, 9, 1, 0), (1, 15, 1, 1), (5, 10, 5, 0), (5, 16, 5, 1), (5, 19, 5, 2), (5, 25, 5, 3), (5, 32, 5, 4), (5, 138, 5, 5), (6, 28, 6, 0), (6, 7, 6, 1), (6, 13, 6, 2), (6, 16, 6, 3), (6, 40, 6, 4), (6, 19, 6, 5), (6, 159, 6, 6), (6, 22, 6, 7), (6, 128, 6, 8), (6, 76, 6, 9), (6, 131, 6, 10), (6, 134, 6, 11), (6, 25, 6, 12), (6, 144, 6, 13), (6, 203, 6, 14)]
def sp_fnT : List (Nat × Nat × (Nat × Nat)) := [(3, 155, 2, 0), (3, 82, 4, 0), (5, 175, 4, 0), (5, 142, 3, 0), (5, 40, 3, 1), (5, 217, 3, 2), (5, 104, 3, 4), (5, 204, 3, 10), (5, 211, 3, 12), (5, 162, 3, 13), (5, 171, 3, 14), (5, 147, 0, 1), (5, 109, 1, 1)]
def sp_flw (q : Nat × Nat × Nat × Nat) : Cond := .fieldLink (sp_cls q.1) q.2.1 (sp_Tf q.2.2.1 q.2.2.2).1 (sp_Tf q.2.2.1 q.2.2.2).2.1 (sp_Tf q.2.2.1 q.2.2.2).2.2.1
def sp_fnw (q : Nat × Nat × Nat × Nat) : Cond := .fieldLinkNest (sp_cls q.1) q.2.1 (sp_Tf q.2.2.1 q.2.2.2).1 (sp_Tf q.2.2.1 q.2.2.2).2.1 (sp_Tf q.2.2.1 q.2.2.2).2.2.1 "SewingPiles"
set_option maxRecDepth 100000 in
theorem sp_fl_in : ∀ w ∈ sp_flT.map sp_flw, w ∈ sp_AW := sp_pick _ [101, 103, 117, 120, 121, 122, 132, 134, 136, 138, 139, 141, 142, 143, 144, 145, 146, 148, 149, 151, 153, 195, 196, 209, 210, 218, 219, 220, 221, 222, 223, 796, 797, 798, 799, 800, 801, 802, 803, 804, 805, 806, 807, 808, 809, 810] (by decide +kernel) (by decide +kernel)
theorem sp_fn_in : ∀ w ∈ sp_fnT.map sp_fnw, w ∈ lw_tbl := sp_pickT _ [102, 118, 119, 133, 135, 137, 140, 147, 150, 152, 154, 197, 211] (by decide +kernel)
theorem sp_fl_ok : ∀ q ∈ sp_flT, q.2.2.1 < 7 ∧ q.2.2.2 < sp_N q.2.2.1 := by decide +kernel
theorem sp_fn_ok : ∀ q ∈ sp_fnT, q.2.2.1 < 7 ∧ q.2.2.2 < sp_N q.2.2.1 := by decide +kernel
def sp_stT : List (Nat × Nat × Nat) := [(5, 95, 0), (5, 99, 1)]
def sp_stn (k : Nat) : String := if k = 0 then "LEAST_SETTINGS" else "MOST_SETTINGS"
set_option maxRecDepth 100000 in
theorem sp_st_in : ∀ w ∈ sp_stT.map (fun q => Cond.fieldLink (sp_cls q.1) q.2.1 "SewingPiles" (sp_stn q.2.2) "[I"), w ∈ sp_AW := sp_pick _ [691, 693] (by decide +kernel) (by decide +kernel)
def sp_clT : List (Nat × Nat × Int64) := [(5, 223, 3319), (5, 225, 31), (6, 211, 3319), (6, 201, 31)]
set_option maxRecDepth 100000 in
theorem sp_cl_in : ∀ w ∈ sp_clT.map (fun q => Cond.constantLong (sp_cls q.1) q.2.1 q.2.2), w ∈ sp_AW := sp_pick _ [406, 407, 1125, 1130] (by decide +kernel) (by decide +kernel)
def sp_cdT : List (Nat × Nat × UInt64) := [(5, 288, 4611686018427387904), (5, 290, 4841369599423283200)]
set_option maxRecDepth 100000 in
theorem sp_cd_in : ∀ w ∈ sp_cdT.map (fun q => Cond.constantDouble (sp_cls q.1) q.2.1 q.2.2), w ∈ sp_AW := sp_pick _ [590, 591] (by decide +kernel) (by decide +kernel)
def sp_cfT : List (Nat × Nat × UInt32) := [(5, 292, 1258291200)]
set_option maxRecDepth 100000 in
theorem sp_cf_in : ∀ w ∈ sp_cfT.map (fun q => Cond.constantFloat (sp_cls q.1) q.2.1 q.2.2), w ∈ sp_AW := sp_pick _ [596] (by decide +kernel) (by decide +kernel)
-- new of a class: its number
def sp_nwT : List (Nat × Nat × Nat) := [(7, 8, 5), (5, 7, 3), (3, 44, 2), (3, 51, 4), (5, 22, 0), (0, 9, 3), (5, 29, 1), (7, 73, 6)]
set_option maxRecDepth 100000 in
theorem sp_nw_in : ∀ w ∈ sp_nwT.map (fun q => Cond.classLink (sp_cls q.1) q.2.1 (sp_cls q.2.2)), w ∈ sp_AW := sp_pick _ [79, 87, 93, 111, 186, 192, 203, 786] (by decide +kernel) (by decide +kernel)
set_option maxRecDepth 100000 in
theorem sp_nw_i1 : ∀ w ∈ sp_nwT.map (fun q => Cond.instantiable (sp_cls q.2.2) (sp_N q.2.2)), w ∈ sp_AW := sp_pick _ [80, 88, 94, 112, 187, 88, 204, 787] (by decide +kernel) (by decide +kernel)
set_option maxRecDepth 100000 in
theorem sp_nw_i2 : ∀ w ∈ sp_nwT.map (fun q => Cond.initialized (sp_cls q.2.2)), w ∈ sp_AW := sp_pick _ [64, 65, 66, 67, 68, 65, 69, 70] (by decide +kernel) (by decide +kernel)
theorem sp_nw_ok : ∀ q ∈ sp_nwT, q.2.2 < 7 := by decide +kernel
def sp_anT : List (Nat × Nat × Unit) := [(0, 9, ())]
set_option maxRecDepth 100000 in
theorem sp_an_in : ∀ w ∈ sp_anT.map (fun q => Cond.classLink (sp_cls q.1) q.2.1 RX3), w ∈ sp_AW := sp_pick _ [192] (by decide +kernel) (by decide +kernel)
def sp_muT : List (Nat × Nat × Unit) := [(2, 17, ())]
set_option maxRecDepth 100000 in
theorem sp_mu_in : ∀ w ∈ sp_muT.map (fun q => Cond.classLink (sp_cls q.1) q.2.1 "[[I"), w ∈ sp_AW := sp_pick _ [99] (by decide +kernel) (by decide +kernel)
set_option maxRecDepth 100000 in
theorem sp_arr_in : ∀ w ∈ [Cond.arrayClass .int, Cond.arrayClass .boolean, Cond.arrayClass .char, Cond.arrayClass .long], w ∈ sp_AW := sp_pick _ [109, 110, 217, 1155] (by decide +kernel) (by decide +kernel)
def sp_caT : List (Nat × Nat × Nat) := [(7, 72, 58), (5, 9, 23), (5, 24, 0), (0, 17, 23), (7, 104, 66), (5, 117, 6), (7, 108, 67), (5, 120, 8), (1, 19, 12), (1, 31, 13), (1, 27, 15), (1, 34, 14), (7, 116, 69), (5, 135, 24), (3, 67, 17), (3, 71, 50), (7, 144, 78), (5, 198, 41), (3, 145, 45), (3, 158, 48), (3, 149, 47), (3, 96, 33), (3, 100, 34), (3, 74, 25), (3, 107, 35), (3, 123, 53), (3, 126, 54), (4, 25, 51), (3, 129, 55), (3, 78, 18), (3, 111, 21), (3, 114, 38), (3, 136, 39), (3, 139, 40), (3, 142, 19), (3, 117, 22), (3, 120, 36), (3, 104, 37), (3, 133, 30), (3, 85, 52), (3, 89, 20), (3, 93, 31), (7, 148, 79), (7, 158, 82), (5, 207, 48), (7, 163, 83), (5, 220, 44), (7, 168, 84), (5, 227, 75), (5, 192, 43), (3, 162, 46), (3, 165, 57), (5, 229, 76), (5, 92, 92), (5, 232, 85), (5, 270, 72), (5, 59, 90), (5, 293, 25), (5, 157, 42), (3, 152, 44), (5, 273, 18), (5, 276, 73), (5, 166, 19), (5, 279, 77), (5, 195, 38), (5, 236, 86), (5, 282, 74), (5, 187, 56), (5, 239, 78), (5, 242, 79), (5, 245, 80), (5, 36, 91), (5, 55, 26), (5, 248, 81), (5, 89, 32), (5, 85, 45), (5, 214, 57), (5, 251, 82), (5, 255, 88), (5, 259, 83), (5, 263, 89), (5, 267, 87), (5, 285, 7), (7, 76, 169), (7, 7, 59), (5, 51, 1), (0, 22, 3), (0, 25, 24), (7, 85, 170), (7, 17, 60), (5, 62, 27), (7, 89, 171), (7, 23, 61), (5, 71, 29), (5, 77, 30), (7, 92, 172), (7, 26, 62), (5, 80, 28), (7, 95, 173), (7, 29, 63), (7, 98, 174), (7, 32, 64), (7, 101, 175), (7, 35, 65), (5, 114, 5), (7, 112, 176), (7, 38, 68), (5, 123, 9), (5, 129, 10), (1, 23, 7), (5, 132, 93), (5, 302, 11), (7, 120, 177), (7, 42, 70), (7, 123, 178), (7, 45, 71), (5, 152, 2), (7, 126, 179), (7, 48, 72), (7, 129, 180), (7, 51, 73), (7, 132, 181), (7, 54, 74), (7, 135, 182), (7, 57, 75), (7, 138, 183), (7, 60, 76), (7, 141, 184), (7, 63, 77), (7, 152, 185), (7, 66, 80), (7, 155, 186), (7, 69, 81), (7, 75, 94), (6, 32, 99), (7, 82, 95), (7, 81, 125), (6, 36, 96), (6, 103, 97), (6, 106, 105), (6, 109, 124), (7, 88, 126), (6, 112, 104), (6, 43, 98), (7, 91, 128), (6, 116, 127), (6, 60, 109), (6, 47, 103), (6, 50, 100), (6, 54, 108), (7, 94, 130), (6, 119, 129), (7, 97, 131), (6, 122, 121), (6, 125, 120), (6, 100, 119), (6, 97, 118), (6, 80, 115), (6, 69, 113), (6, 73, 114), (6, 63, 101), (6, 57, 102), (6, 84, 116), (6, 88, 111), (6, 66, 110), (6, 91, 112), (6, 94, 117), (7, 100, 132), (7, 103, 133), (7, 107, 134), (7, 111, 140), (6, 153, 139), (6, 150, 138), (6, 137, 135), (6, 141, 136), (6, 147, 137), (7, 115, 142), (6, 156, 141), (7, 119, 143), (7, 122, 144), (7, 125, 145), (7, 128, 148), (6, 165, 147), (6, 162, 146), (7, 131, 149), (7, 134, 150), (7, 137, 152), (6, 174, 151), (6, 168, 123), (6, 171, 122), (7, 140, 153), (7, 143, 154), (7, 147, 157), (6, 186, 156), (6, 177, 106), (6, 180, 155), (6, 183, 107), (7, 151, 158), (7, 154, 159), (7, 157, 161), (6, 190, 160), (7, 162, 163), (6, 193, 162), (7, 167, 165), (6, 197, 164), (7, 172, 168), (6, 207, 166), (6, 213, 167)]
def sp_cnT : List (Nat × Nat × Nat) := [(3, 46, 16), (3, 53, 49), (5, 31, 4)]
def sp_nm (y : Nat) : MethodName := match sp_T[y]? with
  | some e => e.1
  | none => yL_law
set_option maxRecDepth 100000 in
theorem sp_ca_in : ∀ w ∈ sp_caT.map (fun q => Cond.methodLink (sp_cls q.1) q.2.1 (sp_nm q.2.2)), w ∈ sp_AW := sp_pick _ [81, 89, 188, 194, 237, 241, 245, 249, 253, 256, 259, 262, 265, 269, 273, 277, 281, 285, 289, 293, 297, 301, 305, 309, 313, 317, 321, 325, 329, 333, 337, 341, 345, 349, 353, 357, 361, 365, 369, 373, 377, 381, 385, 389, 393, 394, 398, 402, 408, 480, 484, 488, 492, 496, 515, 519, 523, 527, 530, 534, 535, 536, 541, 542, 546, 547, 551, 557, 561, 562, 563, 567, 571, 575, 580, 584, 585, 586, 587, 592, 593, 597, 601, 605, 610, 630, 634, 638, 639, 643, 647, 651, 654, 659, 664, 665, 668, 672, 676, 679, 684, 687, 696, 699, 705, 709, 712, 716, 721, 725, 726, 730, 734, 737, 742, 745, 750, 754, 757, 758, 761, 762, 765, 766, 769, 770, 773, 774, 777, 778, 781, 782, 785, 788, 792, 842, 846, 850, 853, 857, 861, 865, 869, 873, 877, 881, 885, 889, 893, 897, 901, 905, 909, 913, 917, 921, 925, 929, 933, 937, 941, 945, 949, 953, 957, 961, 965, 969, 973, 977, 981, 985, 989, 993, 997, 1001, 1005, 1009, 1013, 1017, 1021, 1025, 1029, 1033, 1037, 1041, 1045, 1049, 1053, 1057, 1061, 1065, 1069, 1073, 1077, 1081, 1085, 1089, 1093, 1097, 1101, 1105, 1109, 1113, 1117, 1121, 1126, 1131] (by decide +kernel) (by decide +kernel)
theorem sp_cn_in : ∀ w ∈ sp_cnT.map (fun q => Cond.methodLinkNest (sp_cls q.1) q.2.1 (sp_nm q.2.2) "SewingPiles"), w ∈ lw_tbl := sp_pickT _ [95, 113, 205] (by decide +kernel)
theorem sp_ca_ok : ∀ q ∈ sp_caT, q.2.2 < 187 := by decide +kernel
theorem sp_cn_ok : ∀ q ∈ sp_cnT, q.2.2 < 187 := by decide +kernel
theorem sp_T0_len : sp_T0.length = 187 := by decide +kernel
theorem sp_T_ok : ∀ e ∈ sp_T0, (plainName e.1.cls = true ∧ e.1.cls ≠ "java/lang/invoke/MethodHandle" ∧ e.1.cls ≠ "java/lang/invoke/VarHandle") ∧ (parseMethodDescriptor e.1.desc).map (fun d => d.parameters.length) = some e.2.2.2.2.2.2.1 ∧ e.1.cls = sp_cls e.2.2.2.2.2.1 ∧ (e.2.2.2.2.2.2.2.2.2 = 2 → e.1.name = "<init>" ∧ e.2.2.2.1 = none) := by decide +kernel
def sp_coT : List (Nat × Nat × Unit) := [(5, 1, ()), (3, 3, ()), (2, 3, ()), (4, 3, ()), (0, 3, ()), (1, 3, ()), (6, 1, ())]
set_option maxRecDepth 100000 in
theorem sp_co_in : ∀ w ∈ sp_coT.map (fun q => Cond.methodLink (sp_cls q.1) q.2.1 objectInit), w ∈ sp_AW := sp_pick _ [84, 92, 98, 116, 191, 208, 791] (by decide +kernel) (by decide +kernel)
set_option maxRecDepth 100000 in
theorem sp_ob_in : ∀ w ∈ [Cond.instanceMethod objectInit, Cond.code objectInit ⟨#[0xb1]⟩ 1 none], w ∈ sp_AW := sp_pick _ [85, 86] (by decide +kernel) (by decide +kernel)
def sp_cjT : List (Nat × Nat × Nat) := [(6, 216, 0), (6, 222, 1)]
-- throws: method, place: class of what is thrown, pool places of the class, the text, the constructor, whether the text stands by a wide index, the text
def sp_thT : List (Nat × Nat × (String × Nat × Nat × Nat × Bool × String)) := [(59, 16, "java/lang/IllegalStateException", 44, 46, 48, false, "there are 6 seamstresses"), (61, 16, "java/lang/IllegalArgumentException", 66, 68, 70, false, "work is out of range"), (61, 37, "java/lang/IllegalStateException", 44, 75, 48, false, "the pile is full, or all shirts came"), (63, 11, "java/lang/IllegalArgumentException", 66, 83, 70, false, "minutes is out of range"), (64, 22, "java/lang/IllegalArgumentException", 66, 102, 70, false, "value is out of range"), (65, 12, "java/lang/IllegalArgumentException", 66, 107, 70, false, "code is not 33 to 126"), (65, 34, "java/lang/IllegalStateException", 44, 112, 48, false, "the buffer is full"), (68, 10, "java/lang/IllegalArgumentException", 66, 127, 70, false, "the buffer is not complete orders"), (70, 7, "java/lang/IllegalStateException", 44, 145, 48, false, "there is no snapshot"), (71, 10, "java/lang/IllegalStateException", 44, 150, 48, false, "there is no saved state"), (72, 15, "java/lang/IllegalArgumentException", 66, 155, 70, false, "what is not 0 to 9"), (73, 9, "java/lang/IllegalArgumentException", 66, 160, 70, false, "place is below 0"), (74, 18, "java/lang/IndexOutOfBoundsException", 180, 182, 184, false, "there was no such shirt so far"), (74, 37, "java/lang/IllegalArgumentException", 66, 185, 70, false, "what is not 0 to 2"), (75, 10, "java/lang/IllegalArgumentException", 66, 190, 70, false, "what is not 0 to 11"), (81, 21, "java/lang/IllegalArgumentException", 66, 202, 70, false, "an argument is out of range"), (90, 11, "java/lang/IndexOutOfBoundsException", 180, 296, 184, true, "there is no such seamstress"), (91, 11, "java/lang/IllegalArgumentException", 66, 298, 70, true, "speed is out of range"), (92, 9, "java/lang/IndexOutOfBoundsException", 180, 300, 184, true, "there is no such setting")]
set_option maxRecDepth 100000 in
theorem sp_th_in : ∀ w ∈ sp_thT.map (fun q => Cond.classLink RX5 q.2.2.2.1 q.2.2.1), w ∈ sp_AW := sp_pick _ [614, 412, 614, 412, 412, 412, 614, 412, 614, 614, 412, 412, 499, 412, 412, 412, 499, 412, 499] (by decide +kernel) (by decide +kernel)
set_option maxRecDepth 100000 in
theorem sp_th_i2 : ∀ w ∈ sp_thT.map (fun q => Cond.initialized q.2.2.1), w ∈ sp_AW := sp_pick _ [75, 74, 75, 74, 74, 74, 75, 74, 75, 75, 74, 74, 76, 74, 74, 74, 76, 74, 76] (by decide +kernel) (by decide +kernel)
abbrev sp_up3 : List String := ["java/lang/RuntimeException", "java/lang/Exception"]
def sp_thK : List (Nat × String) := [(48, "java/lang/IllegalStateException"), (70, "java/lang/IllegalArgumentException"), (184, "java/lang/IndexOutOfBoundsException")]
theorem sp_th_k : ∀ q ∈ sp_thT, (q.2.2.2.2.2.1, q.2.2.1) ∈ sp_thK := by decide +kernel
def sp_nwOK : Cond → Bool
  | .fieldLinkNest _ _ _ _ _ _ => true
  | .methodLinkNest _ _ _ _ => true
  | .declares _ => true
  | .castable _ _ => true
  | _ => false
set_option maxRecDepth 100000 in
theorem sp_th_at : ∀ q ∈ sp_thK, ∀ w ∈ vx_atS RX5 q.1 q.2 sp_up3, w ∈ lw_tbl ∧ (goodWord w = true ∨ sp_nwOK w = true) ∧ vx_ot w = true := by decide +kernel
theorem sp_th_fit : ∀ q ∈ sp_thT, Bundle.fit q.2.2.1 = true := by decide +kernel
def sp_ins (y pc : Nat) : Option (Instr × Nat) := match sp_T[y]? with
  | some e => (match decode e.2.1 pc with | .ok r => some r | .error _ => none)
  | none => none
theorem sp_th_ins : ∀ q ∈ sp_thT, ∃ e, sp_T[q.1]? = some e ∧ decode e.2.1 q.2.1 = .ok (.new q.2.2.2.1, 3) ∧ decode e.2.1 (q.2.1 + 3) = .ok (.dup, 1) ∧ (if q.2.2.2.2.2.2.1 = true then decode e.2.1 (q.2.1 + 4) = .ok (.ldc_w q.2.2.2.2.1, 3) ∧ decode e.2.1 (q.2.1 + 7) = .ok (.invokespecial q.2.2.2.2.2.1, 3) ∧ decode e.2.1 (q.2.1 + 10) = .ok (.athrow, 1) else decode e.2.1 (q.2.1 + 4) = .ok (.ldc q.2.2.2.2.1, 2) ∧ decode e.2.1 (q.2.1 + 6) = .ok (.invokespecial q.2.2.2.2.2.1, 3) ∧ decode e.2.1 (q.2.1 + 9) = .ok (.athrow, 1)) ∧ e.2.2.2.2.1 = [] ∧ e.2.2.2.2.2.1 = 5 ∧ 7 ≤ e.2.2.2.2.2.2.2.1 ∧ 100 ≤ e.2.2.2.2.2.2.2.2.1 := by
  intro q hq
  have hall : sp_thT.all (fun q => match sp_T[q.1]? with | some e => decide (decode e.2.1 q.2.1 = .ok (.new q.2.2.2.1, 3) ∧ decode e.2.1 (q.2.1 + 3) = .ok (.dup, 1) ∧ (if q.2.2.2.2.2.2.1 = true then decode e.2.1 (q.2.1 + 4) = .ok (.ldc_w q.2.2.2.2.1, 3) ∧ decode e.2.1 (q.2.1 + 7) = .ok (.invokespecial q.2.2.2.2.2.1, 3) ∧ decode e.2.1 (q.2.1 + 10) = .ok (.athrow, 1) else decode e.2.1 (q.2.1 + 4) = .ok (.ldc q.2.2.2.2.1, 2) ∧ decode e.2.1 (q.2.1 + 6) = .ok (.invokespecial q.2.2.2.2.2.1, 3) ∧ decode e.2.1 (q.2.1 + 9) = .ok (.athrow, 1)) ∧ e.2.2.2.2.1 = [] ∧ e.2.2.2.2.2.1 = 5 ∧ 7 ≤ e.2.2.2.2.2.2.2.1 ∧ 100 ≤ e.2.2.2.2.2.2.2.2.1) | none => false) = true := by decide +kernel
  have h := List.all_eq_true.mp hall q hq
  split at h
  · rename_i e he
    exact ⟨e, he, of_decide_eq_true h⟩
  · cases h
-- classes of the pool: words, fields
theorem sp_lay0 : ∀ w ∈ wsX00, w ∈ sp_AW := sp_pick _ [198, 200] (by decide +kernel) (by decide +kernel)
theorem sp_lay1 : ∀ w ∈ wsX10, w ∈ sp_AW := sp_pick _ [212, 214] (by decide +kernel) (by decide +kernel)
theorem sp_lay2 : ∀ w ∈ wsX20, w ∈ sp_AW := sp_pick _ [104, 106] (by decide +kernel) (by decide +kernel)
theorem sp_lay3 : ∀ w ∈ wsX30, w ∈ sp_AW := sp_pick _ [155, 157, 159, 161, 163, 165, 167, 169, 171, 173, 175, 177, 179, 181, 183] (by decide +kernel) (by decide +kernel)
theorem sp_lay4 : ∀ w ∈ wsX40, w ∈ sp_AW := sp_pick _ [123, 125, 127, 129] (by decide +kernel) (by decide +kernel)
theorem sp_lay5 : ∀ w ∈ wsX50, w ∈ sp_AW := sp_pick _ [224, 226, 228, 230, 232, 234] (by decide +kernel) (by decide +kernel)
theorem sp_lay6 : ∀ w ∈ wsX60, w ∈ sp_AW := sp_pick _ [811, 813, 815, 817, 819, 821, 823, 825, 827, 829, 831, 833, 835, 837, 839] (by decide +kernel) (by decide +kernel)
