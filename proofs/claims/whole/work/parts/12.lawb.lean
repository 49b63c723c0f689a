theorem ck_law_19 : (List.range 16).all (fun r => am_fchk (16 * 19 + r)) = true := by decide +kernel
theorem ck_law_20 : (List.range 16).all (fun r => am_fchk (16 * 20 + r)) = true := by decide +kernel
theorem ck_law_21 : (List.range 16).all (fun r => am_fchk (16 * 21 + r)) = true := by decide +kernel
theorem ck_law_22 : (List.range 16).all (fun r => am_fchk (16 * 22 + r)) = true := by decide +kernel
theorem ck_law_23 : (List.range 16).all (fun r => am_fchk (16 * 23 + r)) = true := by decide +kernel
theorem ck_law_24 : (List.range 16).all (fun r => am_fchk (16 * 24 + r)) = true := by decide +kernel
theorem ck_law_25 : (List.range 16).all (fun r => am_fchk (16 * 25 + r)) = true := by decide +kernel
theorem ck_law_26 : (List.range 16).all (fun r => am_fchk (16 * 26 + r)) = true := by decide +kernel
theorem ck_law_27 : (List.range 16).all (fun r => am_fchk (16 * 27 + r)) = true := by decide +kernel
theorem ck_law_28 : (List.range 16).all (fun r => am_fchk (16 * 28 + r)) = true := by decide +kernel
theorem ck_law_29 : (List.range 16).all (fun r => am_fchk (16 * 29 + r)) = true := by decide +kernel
theorem ck_law_30 : (List.range 16).all (fun r => am_fchk (16 * 30 + r)) = true := by decide +kernel
theorem ck_law_31 : (List.range 16).all (fun r => am_fchk (16 * 31 + r)) = true := by decide +kernel
theorem ck_law_32 : (List.range 16).all (fun r => am_fchk (16 * 32 + r)) = true := by decide +kernel
theorem ck_law_33 : (List.range 16).all (fun r => am_fchk (16 * 33 + r)) = true := by decide +kernel
theorem ck_law_34 : (List.range 16).all (fun r => am_fchk (16 * 34 + r)) = true := by decide +kernel
theorem ck_law_35 : (List.range 16).all (fun r => am_fchk (16 * 35 + r)) = true := by decide +kernel
theorem ck_law_36 : (List.range 16).all (fun r => am_fchk (16 * 36 + r)) = true := by decide +kernel
theorem ck_law_37 : (List.range 16).all (fun r => am_fchk (16 * 37 + r)) = true := by decide +kernel
theorem ck_law_all : ∀ i, i < 38 → (List.range 16).all (fun r => am_fchk (16 * i + r)) = true := by
  intro i h
  match i, h with
  | 0, _ => exact ck_law_0
  | 1, _ => exact ck_law_1
  | 2, _ => exact ck_law_2
  | 3, _ => exact ck_law_3
  | 4, _ => exact ck_law_4
  | 5, _ => exact ck_law_5
  | 6, _ => exact ck_law_6
  | 7, _ => exact ck_law_7
  | 8, _ => exact ck_law_8
  | 9, _ => exact ck_law_9
  | 10, _ => exact ck_law_10
  | 11, _ => exact ck_law_11
  | 12, _ => exact ck_law_12
  | 13, _ => exact ck_law_13
  | 14, _ => exact ck_law_14
  | 15, _ => exact ck_law_15
  | 16, _ => exact ck_law_16
  | 17, _ => exact ck_law_17
  | 18, _ => exact ck_law_18
  | 19, _ => exact ck_law_19
  | 20, _ => exact ck_law_20
  | 21, _ => exact ck_law_21
  | 22, _ => exact ck_law_22
  | 23, _ => exact ck_law_23
  | 24, _ => exact ck_law_24
  | 25, _ => exact ck_law_25
  | 26, _ => exact ck_law_26
  | 27, _ => exact ck_law_27
  | 28, _ => exact ck_law_28
  | 29, _ => exact ck_law_29
  | 30, _ => exact ck_law_30
  | 31, _ => exact ck_law_31
  | 32, _ => exact ck_law_32
  | 33, _ => exact ck_law_33
  | 34, _ => exact ck_law_34
  | 35, _ => exact ck_law_35
  | 36, _ => exact ck_law_36
  | 37, _ => exact ck_law_37
  | i + 38, h => exact absurd h (by omega)
theorem ck_L_law : am_chkM M_L_law = true := by
  unfold am_chkM
  rw [Bool.and_eq_true]
  exact ⟨by decide +kernel, am_rows (n := 38) ck_law_all⟩
theorem ck_row0 : ∀ M ∈ ([M_Sp_init, M_Text_init, M_Reader_init, M_Line_init, M_Scene_init, M_Deeds_init, M_Witness_init, M_Book_init, M_Draws_init, M_Image_init, M_Sp_feed, M_Text_add, M_Sp_line, M_Reader_read, M_Line_clear, M_Scene_clear] : List am_M), am_chkM M = true := List.forall_mem_cons.mpr ⟨ck_Sp_init, List.forall_mem_cons.mpr ⟨ck_Text_init, List.forall_mem_cons.mpr ⟨ck_Reader_init, List.forall_mem_cons.mpr ⟨ck_Line_init, List.forall_mem_cons.mpr ⟨ck_Scene_init, List.forall_mem_cons.mpr ⟨ck_Deeds_init, List.forall_mem_cons.mpr ⟨ck_Witness_init, List.forall_mem_cons.mpr ⟨ck_Book_init, List.forall_mem_cons.mpr ⟨ck_Draws_init, List.forall_mem_cons.mpr ⟨ck_Image_init, List.forall_mem_cons.mpr ⟨ck_Sp_feed, List.forall_mem_cons.mpr ⟨ck_Text_add, List.forall_mem_cons.mpr ⟨ck_Sp_line, List.forall_mem_cons.mpr ⟨ck_Reader_read, List.forall_mem_cons.mpr ⟨ck_Line_clear, List.forall_mem_cons.mpr ⟨ck_Scene_clear, fun _ h => absurd h List.not_mem_nil⟩⟩⟩⟩⟩⟩⟩⟩⟩⟩⟩⟩⟩⟩⟩⟩
theorem ck_row1 : ∀ M ∈ ([M_Reader_skipBlanks, M_Text_letterAt, M_Reader_readClause, M_Line_isTold, M_Reader_blame, M_Reader_readStations, M_Reader_readNumber, M_Reader_isFigure, M_Reader_readEnd, M_Reader_readPerson, M_Sp_bit, M_Sp_withBit, M_Line_takeFrom, M_Scene_takeFrom, M_Sp_fault, M_Sp_told] : List am_M), am_chkM M = true := List.forall_mem_cons.mpr ⟨ck_Reader_skipBlanks, List.forall_mem_cons.mpr ⟨ck_Text_letterAt, List.forall_mem_cons.mpr ⟨ck_Reader_readClause, List.forall_mem_cons.mpr ⟨ck_Line_isTold, List.forall_mem_cons.mpr ⟨ck_Reader_blame, List.forall_mem_cons.mpr ⟨ck_Reader_readStations, List.forall_mem_cons.mpr ⟨ck_Reader_readNumber, List.forall_mem_cons.mpr ⟨ck_Reader_isFigure, List.forall_mem_cons.mpr ⟨ck_Reader_readEnd, List.forall_mem_cons.mpr ⟨ck_Reader_readPerson, List.forall_mem_cons.mpr ⟨ck_Sp_bit, List.forall_mem_cons.mpr ⟨ck_Sp_withBit, List.forall_mem_cons.mpr ⟨ck_Line_takeFrom, List.forall_mem_cons.mpr ⟨ck_Scene_takeFrom, List.forall_mem_cons.mpr ⟨ck_Sp_fault, List.forall_mem_cons.mpr ⟨ck_Sp_told, fun _ h => absurd h List.not_mem_nil⟩⟩⟩⟩⟩⟩⟩⟩⟩⟩⟩⟩⟩⟩⟩⟩
theorem ck_row2 : ∀ M ∈ ([M_Scene_awaited, M_Scene_shows, M_Scene_alarm, M_Scene_arrived, M_Scene_hasArrived, M_Sp_person, M_Line_hasPerson, M_Sp_station, M_Line_hasStation, M_Scene_standing, M_Scene_mostShown, M_Sp_mien, M_Deeds_note, M_Sp_feet, M_Sp_flowers, M_Sp_walk] : List am_M), am_chkM M = true := List.forall_mem_cons.mpr ⟨ck_Scene_awaited, List.forall_mem_cons.mpr ⟨ck_Scene_shows, List.forall_mem_cons.mpr ⟨ck_Scene_alarm, List.forall_mem_cons.mpr ⟨ck_Scene_arrived, List.forall_mem_cons.mpr ⟨ck_Scene_hasArrived, List.forall_mem_cons.mpr ⟨ck_Sp_person, List.forall_mem_cons.mpr ⟨ck_Line_hasPerson, List.forall_mem_cons.mpr ⟨ck_Sp_station, List.forall_mem_cons.mpr ⟨ck_Line_hasStation, List.forall_mem_cons.mpr ⟨ck_Scene_standing, List.forall_mem_cons.mpr ⟨ck_Scene_mostShown, List.forall_mem_cons.mpr ⟨ck_Sp_mien, List.forall_mem_cons.mpr ⟨ck_Deeds_note, List.forall_mem_cons.mpr ⟨ck_Sp_feet, List.forall_mem_cons.mpr ⟨ck_Sp_flowers, List.forall_mem_cons.mpr ⟨ck_Sp_walk, fun _ h => absurd h List.not_mem_nil⟩⟩⟩⟩⟩⟩⟩⟩⟩⟩⟩⟩⟩⟩⟩⟩
theorem ck_row3 : ∀ M ∈ ([M_Sp_fog, M_Sp_train, M_Sp_trainsRefused, M_Scene_runTrain, M_Scene_stopsOfNext, M_Line_allStations, M_Scene_letOut, M_Scene_takeIn, M_Scene_emptyAtLast, M_Sp_drift, M_Sp_drawDay, M_Draws_next, M_Sp_undo, M_Deeds_takeBack, M_Sp_stops, M_Sp_calm] : List am_M), am_chkM M = true := List.forall_mem_cons.mpr ⟨ck_Sp_fog, List.forall_mem_cons.mpr ⟨ck_Sp_train, List.forall_mem_cons.mpr ⟨ck_Sp_trainsRefused, List.forall_mem_cons.mpr ⟨ck_Scene_runTrain, List.forall_mem_cons.mpr ⟨ck_Scene_stopsOfNext, List.forall_mem_cons.mpr ⟨ck_Line_allStations, List.forall_mem_cons.mpr ⟨ck_Scene_letOut, List.forall_mem_cons.mpr ⟨ck_Scene_takeIn, List.forall_mem_cons.mpr ⟨ck_Scene_emptyAtLast, List.forall_mem_cons.mpr ⟨ck_Sp_drift, List.forall_mem_cons.mpr ⟨ck_Sp_drawDay, List.forall_mem_cons.mpr ⟨ck_Draws_next, List.forall_mem_cons.mpr ⟨ck_Sp_undo, List.forall_mem_cons.mpr ⟨ck_Deeds_takeBack, List.forall_mem_cons.mpr ⟨ck_Sp_stops, List.forall_mem_cons.mpr ⟨ck_Sp_calm, fun _ h => absurd h List.not_mem_nil⟩⟩⟩⟩⟩⟩⟩⟩⟩⟩⟩⟩⟩⟩⟩⟩
theorem ck_row4 : ∀ M ∈ ([M_Sp_journey, M_Sp_never, M_Sp_cut, M_Sp_arrivesThough, M_Sp_aunts, M_Sp_endsAt, M_Sp_chance, M_Sp_ran, M_Witness_add, M_Sp_hoped, M_Witness_find, M_Witness_tryHopeful, M_Witness_fits, M_Sp_sure, M_Line_allPersons, M_Sp_look] : List am_M), am_chkM M = true := List.forall_mem_cons.mpr ⟨ck_Sp_journey, List.forall_mem_cons.mpr ⟨ck_Sp_never, List.forall_mem_cons.mpr ⟨ck_Sp_cut, List.forall_mem_cons.mpr ⟨ck_Sp_arrivesThough, List.forall_mem_cons.mpr ⟨ck_Sp_aunts, List.forall_mem_cons.mpr ⟨ck_Sp_endsAt, List.forall_mem_cons.mpr ⟨ck_Sp_chance, List.forall_mem_cons.mpr ⟨ck_Sp_ran, List.forall_mem_cons.mpr ⟨ck_Witness_add, List.forall_mem_cons.mpr ⟨ck_Sp_hoped, List.forall_mem_cons.mpr ⟨ck_Witness_find, List.forall_mem_cons.mpr ⟨ck_Witness_tryHopeful, List.forall_mem_cons.mpr ⟨ck_Witness_fits, List.forall_mem_cons.mpr ⟨ck_Sp_sure, List.forall_mem_cons.mpr ⟨ck_Line_allPersons, List.forall_mem_cons.mpr ⟨ck_Sp_look, fun _ h => absurd h List.not_mem_nil⟩⟩⟩⟩⟩⟩⟩⟩⟩⟩⟩⟩⟩⟩⟩⟩
theorem ck_row5 : ∀ M ∈ ([M_Witness_greatestPart, M_Sp_write, M_Book_add, M_Sp_judge, M_Book_firstWrong, M_Sp_tear, M_Sp_seed, M_Sp_keep, M_Sp_goBack, M_Mo_init, M_Mo_feed, M_Mo_in, M_Mo_line, M_Mo_skip, M_Mo_here, M_Mo_readsLine] : List am_M), am_chkM M = true := List.forall_mem_cons.mpr ⟨ck_Witness_greatestPart, List.forall_mem_cons.mpr ⟨ck_Sp_write, List.forall_mem_cons.mpr ⟨ck_Book_add, List.forall_mem_cons.mpr ⟨ck_Sp_judge, List.forall_mem_cons.mpr ⟨ck_Book_firstWrong, List.forall_mem_cons.mpr ⟨ck_Sp_tear, List.forall_mem_cons.mpr ⟨ck_Sp_seed, List.forall_mem_cons.mpr ⟨ck_Sp_keep, List.forall_mem_cons.mpr ⟨ck_Sp_goBack, List.forall_mem_cons.mpr ⟨ck_Mo_init, List.forall_mem_cons.mpr ⟨ck_Mo_feed, List.forall_mem_cons.mpr ⟨ck_Mo_in, List.forall_mem_cons.mpr ⟨ck_Mo_line, List.forall_mem_cons.mpr ⟨ck_Mo_skip, List.forall_mem_cons.mpr ⟨ck_Mo_here, List.forall_mem_cons.mpr ⟨ck_Mo_readsLine, fun _ h => absurd h List.not_mem_nil⟩⟩⟩⟩⟩⟩⟩⟩⟩⟩⟩⟩⟩⟩⟩⟩
theorem ck_row6 : ∀ M ∈ ([M_Mo_readsFirst, M_Mo_sign, M_Mo_fails, M_Mo_number, M_Mo_readsPerson, M_Mo_readsMet, M_Mo_fault, M_Mo_told, M_Mo_awaitedSet, M_Mo_isAwaited, M_Mo_shows, M_Mo_arrivedSet, M_Mo_person, M_Mo_isPerson, M_Mo_station, M_Mo_isStation] : List am_M), am_chkM M = true := List.forall_mem_cons.mpr ⟨ck_Mo_readsFirst, List.forall_mem_cons.mpr ⟨ck_Mo_sign, List.forall_mem_cons.mpr ⟨ck_Mo_fails, List.forall_mem_cons.mpr ⟨ck_Mo_number, List.forall_mem_cons.mpr ⟨ck_Mo_readsPerson, List.forall_mem_cons.mpr ⟨ck_Mo_readsMet, List.forall_mem_cons.mpr ⟨ck_Mo_fault, List.forall_mem_cons.mpr ⟨ck_Mo_told, List.forall_mem_cons.mpr ⟨ck_Mo_awaitedSet, List.forall_mem_cons.mpr ⟨ck_Mo_isAwaited, List.forall_mem_cons.mpr ⟨ck_Mo_shows, List.forall_mem_cons.mpr ⟨ck_Mo_arrivedSet, List.forall_mem_cons.mpr ⟨ck_Mo_person, List.forall_mem_cons.mpr ⟨ck_Mo_isPerson, List.forall_mem_cons.mpr ⟨ck_Mo_station, List.forall_mem_cons.mpr ⟨ck_Mo_isStation, fun _ h => absurd h List.not_mem_nil⟩⟩⟩⟩⟩⟩⟩⟩⟩⟩⟩⟩⟩⟩⟩⟩
theorem ck_row7 : ∀ M ∈ ([M_Mo_mien, M_Mo_notes, M_Mo_laysBy, M_Mo_feet, M_Mo_flowers, M_Mo_walk, M_Mo_fog, M_Mo_train, M_Mo_run, M_Mo_has, M_Mo_getOut, M_Mo_drift, M_Mo_drawn, M_Mo_undo, M_Mo_read, M_Mo_stops] : List am_M), am_chkM M = true := List.forall_mem_cons.mpr ⟨ck_Mo_mien, List.forall_mem_cons.mpr ⟨ck_Mo_notes, List.forall_mem_cons.mpr ⟨ck_Mo_laysBy, List.forall_mem_cons.mpr ⟨ck_Mo_feet, List.forall_mem_cons.mpr ⟨ck_Mo_flowers, List.forall_mem_cons.mpr ⟨ck_Mo_walk, List.forall_mem_cons.mpr ⟨ck_Mo_fog, List.forall_mem_cons.mpr ⟨ck_Mo_train, List.forall_mem_cons.mpr ⟨ck_Mo_run, List.forall_mem_cons.mpr ⟨ck_Mo_has, List.forall_mem_cons.mpr ⟨ck_Mo_getOut, List.forall_mem_cons.mpr ⟨ck_Mo_drift, List.forall_mem_cons.mpr ⟨ck_Mo_drawn, List.forall_mem_cons.mpr ⟨ck_Mo_undo, List.forall_mem_cons.mpr ⟨ck_Mo_read, List.forall_mem_cons.mpr ⟨ck_Mo_stops, fun _ h => absurd h List.not_mem_nil⟩⟩⟩⟩⟩⟩⟩⟩⟩⟩⟩⟩⟩⟩⟩⟩
theorem ck_row8 : ∀ M ∈ ([M_Mo_nextStops, M_Mo_begin, M_Mo_back, M_Mo_calm, M_Mo_journey, M_Mo_never, M_Mo_cut, M_Mo_bits, M_Mo_aunts, M_Mo_chance, M_Mo_ran, M_Mo_hoped, M_Mo_setHopes, M_Mo_goesSo, M_Mo_sure, M_Mo_look] : List am_M), am_chkM M = true := List.forall_mem_cons.mpr ⟨ck_Mo_nextStops, List.forall_mem_cons.mpr ⟨ck_Mo_begin, List.forall_mem_cons.mpr ⟨ck_Mo_back, List.forall_mem_cons.mpr ⟨ck_Mo_calm, List.forall_mem_cons.mpr ⟨ck_Mo_journey, List.forall_mem_cons.mpr ⟨ck_Mo_never, List.forall_mem_cons.mpr ⟨ck_Mo_cut, List.forall_mem_cons.mpr ⟨ck_Mo_bits, List.forall_mem_cons.mpr ⟨ck_Mo_aunts, List.forall_mem_cons.mpr ⟨ck_Mo_chance, List.forall_mem_cons.mpr ⟨ck_Mo_ran, List.forall_mem_cons.mpr ⟨ck_Mo_hoped, List.forall_mem_cons.mpr ⟨ck_Mo_setHopes, List.forall_mem_cons.mpr ⟨ck_Mo_goesSo, List.forall_mem_cons.mpr ⟨ck_Mo_sure, List.forall_mem_cons.mpr ⟨ck_Mo_look, fun _ h => absurd h List.not_mem_nil⟩⟩⟩⟩⟩⟩⟩⟩⟩⟩⟩⟩⟩⟩⟩⟩
theorem ck_row9 : ∀ M ∈ ([M_Mo_write, M_Mo_judge, M_Mo_tear, M_Mo_seed, M_Mo_keep, M_Mo_goBack, M_L_law] : List am_M), am_chkM M = true := List.forall_mem_cons.mpr ⟨ck_Mo_write, List.forall_mem_cons.mpr ⟨ck_Mo_judge, List.forall_mem_cons.mpr ⟨ck_Mo_tear, List.forall_mem_cons.mpr ⟨ck_Mo_seed, List.forall_mem_cons.mpr ⟨ck_Mo_keep, List.forall_mem_cons.mpr ⟨ck_Mo_goBack, List.forall_mem_cons.mpr ⟨ck_L_law, fun _ h => absurd h List.not_mem_nil⟩⟩⟩⟩⟩⟩⟩
theorem ck_rows : ∀ r ∈ am_tabL, ∀ M ∈ r, am_chkM M = true := List.forall_mem_cons.mpr ⟨ck_row0, List.forall_mem_cons.mpr ⟨ck_row1, List.forall_mem_cons.mpr ⟨ck_row2, List.forall_mem_cons.mpr ⟨ck_row3, List.forall_mem_cons.mpr ⟨ck_row4, List.forall_mem_cons.mpr ⟨ck_row5, List.forall_mem_cons.mpr ⟨ck_row6, List.forall_mem_cons.mpr ⟨ck_row7, List.forall_mem_cons.mpr ⟨ck_row8, List.forall_mem_cons.mpr ⟨ck_row9, fun _ h => absurd h List.not_mem_nil⟩⟩⟩⟩⟩⟩⟩⟩⟩⟩
theorem ck_all (k : Nat) : am_chkM (am_tab k) = true := am_tab_all (Pr := fun M => am_chkM M = true) ck_L_law ck_rows k
