def am_ms : List am_Q := [(0, yX0_init, cX0_init, 3, none, true, B0_init_0),
  (0, yX0_toldDropped, cX0_toldDropped, 1, (some .int), false, B0_toldDropped_0),
  (0, yX0_outLength, cX0_outLength, 1, (some .int), false, B0_outLength_0),
  (0, yX0_toldAs, cX0_toldAs, 2, (some .long), false, B0_toldAs_0),
  (0, yX0_dropValue, cX0_dropValue, 4, none, false, B0_dropValue_0),
  (0, yX0_await, cX0_await, 3, none, false, B0_await_0),
  (0, yX0_dropOne, cX0_dropOne, 3, none, false, B0_dropOne_0),
  (0, yX0_tell, cX0_tell, 3, none, false, B0_tell_0),
  (0, yX0_awaitFields, cX0_awaitFields, 6, none, false, B0_awaitFields_0),
  (0, yX0_awaitBoxed, cX0_awaitBoxed, 4, none, false, B0_awaitBoxed_0),
  (0, yX0_awaitElements, cX0_awaitElements, 5, none, false, B0_awaitElements_0),
  (1, yX1_init, cX1_init, 2, none, true, B1_init_0),
  (1, yX1_frameCount, cX1_frameCount, 1, (some .int), false, B1_frameCount_0),
  (1, yX1_lastFrame, cX1_lastFrame, 1, (some .int), false, B1_lastFrame_0),
  (1, yX1_addFrame, cX1_addFrame, 1, none, false, B1_addFrame_0),
  (1, yX1_removeFrame, cX1_removeFrame, 1, none, false, B1_removeFrame_0),
  (1, yX1_handCount, cX1_handCount, 1, (some .int), false, B1_handCount_0),
  (1, yX1_handOfLast, cX1_handOfLast, 1, (some .int), false, B1_handOfLast_0),
  (1, yX1_handHasRoomFor, cX1_handHasRoomFor, 2, (some .boolean), false, B1_handHasRoomFor_0),
  (1, yX1_handShape, cX1_handShape, 2, (some .int), false, B1_handShape_0),
  (1, yX1_topShape, cX1_topShape, 1, (some .int), false, B1_topShape_0),
  (1, yX1_handEndsWith, cX1_handEndsWith, 4, (some .boolean), false, B1_handEndsWith_0),
  (1, yX1_layOn, cX1_layOn, 2, none, false, B1_layOn_0),
  (1, yX1_takeOff, cX1_takeOff, 2, none, false, B1_takeOff_0),
  (1, yX1_slotShape, cX1_slotShape, 3, (some .int), false, B1_slotShape_0),
  (1, yX1_fillSlot, cX1_fillSlot, 4, none, false, B1_fillSlot_0),
  (1, yX1_hasSlot, cX1_hasSlot, 2, (some .boolean), false, B1_hasSlot_0),
  (1, yX1_filledSlots, cX1_filledSlots, 3, (some .int), false, B1_filledSlots_0),
  (2, yX2_init, cX2_init, 1, none, true, B2_init_0),
  (2, yX2_read, cX2_read, 2, (some .long), false, B2_read_0),
  (2, yX2_write, cX2_write, 4, none, false, B2_write_0),
  (2, yX2_moveCells, cX2_moveCells, 4, none, false, B2_moveCells_0),
  (2, yX2_swapCells, cX2_swapCells, 7, none, false, B2_swapCells_0),
  (2, yX2_areCells, cX2_areCells, 2, (some .boolean), false, B2_areCells_0),
  (2, yX2_boxesThere, cX2_boxesThere, 1, (some .int), false, B2_boxesThere_0),
  (2, yX2_rowsThere, cX2_rowsThere, 1, (some .int), false, B2_rowsThere_0),
  (2, yX2_takeBox, cX2_takeBox, 2, (some .int), false, B2_takeBox_0),
  (2, yX2_takeRow, cX2_takeRow, 3, (some .int), false, B2_takeRow_0),
  (2, yX2_firstFree, cX2_firstFree, 2, (some .int), false, B2_firstFree_0),
  (2, yX2_freeBox, cX2_freeBox, 3, none, false, B2_freeBox_0),
  (2, yX2_freeRow, cX2_freeRow, 3, none, false, B2_freeRow_0),
  (2, yX2_isBox, cX2_isBox, 2, (some .boolean), false, B2_isBox_0),
  (2, yX2_isRow, cX2_isRow, 2, (some .boolean), false, B2_isRow_0),
  (2, yX2_boxAt, cX2_boxAt, 3, (some .int), false, B2_boxAt_0),
  (2, yX2_elementAt, cX2_elementAt, 4, (some .int), false, B2_elementAt_0),
  (2, yX2_lengthOf, cX2_lengthOf, 3, (some .int), false, B2_lengthOf_0),
  (2, yX2_setLength, cX2_setLength, 4, none, false, B2_setLength_0),
  (3, yX3_init, cX3_init, 1, none, true, B3_init_0),
  (3, yX3_add, cX3_add, 6, (some .int), false, B3_add_0),
  (3, yX3_tieLooseBox, cX3_tieLooseBox, 3, (some .boolean), false, B3_tieLooseBox_0),
  (3, yX3_howMany, cX3_howMany, 1, (some .int), false, B3_howMany_0),
  (3, yX3_has, cX3_has, 2, (some .boolean), false, B3_has_0),
  (3, yX3_hasOrNone, cX3_hasOrNone, 2, (some .boolean), false, B3_hasOrNone_0),
  (3, yX3_kindOf, cX3_kindOf, 2, (some .int), false, B3_kindOf_0),
  (3, yX3_sizeOf, cX3_sizeOf, 2, (some .int), false, B3_sizeOf_0),
  (3, yX3_partOf, cX3_partOf, 3, (some .int), false, B3_partOf_0),
  (3, yX3_partsOf, cX3_partsOf, 4, (some .int), false, B3_partsOf_0),
  (3, yX3_offsetOf, cX3_offsetOf, 5, (some .int), false, B3_offsetOf_0),
  (4, yX4_init, cX4_init, 1, none, true, B4_init_0),
  (4, yX4_record, cX4_record, 6, (some .int), false, B4_record_0),
  (4, yX4_choice, cX4_choice, 5, (some .int), false, B4_choice_0),
  (4, yX4_box, cX4_box, 2, (some .int), false, B4_box_0),
  (4, yX4_tie, cX4_tie, 3, (some .int), false, B4_tie_0),
  (4, yX4_row, cX4_row, 2, (some .int), false, B4_row_0),
  (4, yX4_about, cX4_about, 3, (some .int), false, B4_about_0),
  (4, yX4_number, cX4_number, 3, (some .int), false, B4_number_0),
  (4, yX4_make, cX4_make, 3, (some .int), false, B4_make_0),
  (4, yX4_gather, cX4_gather, 5, (some .int), false, B4_gather_0),
  (4, yX4_open, cX4_open, 5, (some .int), false, B4_open_0),
  (4, yX4_apart, cX4_apart, 2, (some .int), false, B4_apart_0),
  (4, yX4_drop, cX4_drop, 2, (some .int), false, B4_drop_0),
  (4, yX4_store, cX4_store, 4, (some .int), false, B4_store_0),
  (4, yX4_load, cX4_load, 4, (some .int), false, B4_load_0),
  (4, yX4_set, cX4_set, 4, (some .int), false, B4_set_0),
  (4, yX4_swap, cX4_swap, 4, (some .int), false, B4_swap_0),
  (4, yX4_push, cX4_push, 8, (some .int), false, B4_push_0),
  (4, yX4_pop, cX4_pop, 8, (some .int), false, B4_pop_0),
  (4, yX4_enter, cX4_enter, 6, (some .int), false, B4_enter_0),
  (4, yX4_leave, cX4_leave, 4, (some .int), false, B4_leave_0),
  (4, yX4_fail, cX4_fail, 3, (some .int), false, B4_fail_0),
  (4, yX4_shape, cX4_shape, 3, (some .int), false, B4_shape_0),
  (4, yX4_look, cX4_look, 3, (some .long), false, B4_look_0),
  (4, yX4_state, cX4_state, 3, (some .int), false, B4_state_0),
  (4, yX4_out, cX4_out, 2, (some .long), false, B4_out_0),
  (4, yX4_count, cX4_count, 2, (some .int), false, B4_count_0),
  (4, yX4_layOneCell, cX4_layOneCell, 4, (some .int), false, B4_layOneCell_0),
  (4, yX4_makeRecord, cX4_makeRecord, 7, (some .int), false, B4_makeRecord_0),
  (4, yX4_handEndsWithFieldsOf, cX4_handEndsWithFieldsOf, 5, (some .boolean), false, B4_handEndsWithFieldsOf_0),
  (4, yX4_makeChoice, cX4_makeChoice, 4, (some .int), false, B4_makeChoice_0),
  (4, yX4_makeBox, cX4_makeBox, 4, (some .int), false, B4_makeBox_0),
  (4, yX4_takeRecordApart, cX4_takeRecordApart, 7, (some .int), false, B4_takeRecordApart_0),
  (4, yX4_takeChoiceApart, cX4_takeChoiceApart, 3, (some .int), false, B4_takeChoiceApart_0),
  (4, yX4_replaceTopShape, cX4_replaceTopShape, 2, none, false, B4_replaceTopShape_0),
  (4, yX4_handAt, cX4_handAt, 1, (some .int), false, B4_handAt_0),
  (4, yX4_slotAt, cX4_slotAt, 2, (some .int), false, B4_slotAt_0),
  (4, yX4_isSlot, cX4_isSlot, 1, (some .boolean), false, B4_isSlot_0),
  (4, yX4_topAt, cX4_topAt, 1, (some .int), false, B4_topAt_0),
  (4, yX4_seek, cX4_seek, 6, (some .int), false, B4_seek_0),
  (4, yX4_step, cX4_step, 3, (some .int), false, B4_step_0),
  (4, yX4_stepToField, cX4_stepToField, 3, (some .int), false, B4_stepToField_0),
  (4, yX4_stepToPart, cX4_stepToPart, 3, (some .int), false, B4_stepToPart_0),
  (4, yX4_stepIntoBox, cX4_stepIntoBox, 2, (some .int), false, B4_stepIntoBox_0),
  (4, yX4_stepToElement, cX4_stepToElement, 5, (some .int), false, B4_stepToElement_0),
  (4, yX4_endLastFrame, cX4_endLastFrame, 5, none, false, B4_endLastFrame_0),
  (5, yX5_init, cX5_init, 2, none, true, B5_init_0),
  (5, yX5_in, cX5_in, 3, (some .boolean), false, B5_in_0),
  (5, yX5_isShape, cX5_isShape, 2, (some .boolean), false, B5_isShape_0),
  (5, yX5_come, cX5_come, 6, (some .int), false, B5_come_0),
  (5, yX5_sizeOf, cX5_sizeOf, 2, (some .int), false, B5_sizeOf_0),
  (5, yX5_record, cX5_record, 5, (some .int), false, B5_record_0),
  (5, yX5_choice, cX5_choice, 4, (some .int), false, B5_choice_0),
  (5, yX5_box, cX5_box, 2, (some .int), false, B5_box_0),
  (5, yX5_tie, cX5_tie, 3, (some .int), false, B5_tie_0),
  (5, yX5_row, cX5_row, 2, (some .int), false, B5_row_0),
  (5, yX5_about, cX5_about, 3, (some .int), false, B5_about_0),
  (5, yX5_node, cX5_node, 6, (some .int), false, B5_node_0),
  (5, yX5_grow, cX5_grow, 6, none, false, B5_grow_0),
  (5, yX5_free, cX5_free, 2, none, false, B5_free_0),
  (5, yX5_kindOf, cX5_kindOf, 2, (some .int), false, B5_kindOf_0),
  (5, yX5_dropped, cX5_dropped, 4, none, false, B5_dropped_0),
  (5, yX5_mine, cX5_mine, 1, (some .int), false, B5_mine_0),
  (5, yX5_top, cX5_top, 2, (some .int), false, B5_top_0),
  (5, yX5_slot, cX5_slot, 2, (some .int), false, B5_slot_0),
  (5, yX5_find, cX5_find, 8, (some .int), false, B5_find_0),
  (5, yX5_put, cX5_put, 2, none, false, B5_put_0),
  (5, yX5_comes, cX5_comes, 2, (some .int), false, B5_comes_0),
  (5, yX5_number, cX5_number, 3, (some .int), false, B5_number_0),
  (5, yX5_parts, cX5_parts, 3, (some .int), false, B5_parts_0),
  (5, yX5_wrap, cX5_wrap, 7, (some .int), false, B5_wrap_0),
  (5, yX5_make, cX5_make, 5, (some .int), false, B5_make_0),
  (5, yX5_gather, cX5_gather, 4, (some .int), false, B5_gather_0),
  (5, yX5_open, cX5_open, 2, (some .int), false, B5_open_0),
  (5, yX5_apart, cX5_apart, 4, (some .int), false, B5_apart_0),
  (5, yX5_drop, cX5_drop, 1, (some .int), false, B5_drop_0),
  (5, yX5_store, cX5_store, 2, (some .int), false, B5_store_0),
  (5, yX5_load, cX5_load, 3, (some .int), false, B5_load_0),
  (5, yX5_set, cX5_set, 4, (some .int), false, B5_set_0),
  (5, yX5_swap, cX5_swap, 4, (some .int), false, B5_swap_0),
  (5, yX5_push, cX5_push, 4, (some .int), false, B5_push_0),
  (5, yX5_pop, cX5_pop, 6, (some .int), false, B5_pop_0),
  (5, yX5_enter, cX5_enter, 3, (some .int), false, B5_enter_0),
  (5, yX5_empty, cX5_empty, 2, none, false, B5_empty_0),
  (5, yX5_leave, cX5_leave, 4, (some .int), false, B5_leave_0),
  (5, yX5_fail, cX5_fail, 2, (some .int), false, B5_fail_0),
  (5, yX5_shape, cX5_shape, 4, (some .int), false, B5_shape_0),
  (5, yX5_look, cX5_look, 4, (some .long), false, B5_look_0),
  (5, yX5_state, cX5_state, 4, (some .int), false, B5_state_0),
  (5, yX5_out, cX5_out, 2, (some .long), false, B5_out_0),
  (5, yX5_count, cX5_count, 4, (some .int), false, B5_count_0)]
theorem am_g_0 : am_gd 0 (0, yX0_init, cX0_init, 3, none, true, B0_init_0) := ⟨rfl, rfl, by decide, am_cw_X0_init, by decide, ⟨by decide, by decide⟩, fun _ => rfl, fun _ => rfl, vB0_init_0, rfl⟩
theorem am_g_1 : am_gd 1 (0, yX0_toldDropped, cX0_toldDropped, 1, (some .int), false, B0_toldDropped_0) := ⟨rfl, rfl, by decide, am_cw_X0_toldDropped, by decide, ⟨by decide, by decide⟩, fun h => (by cases h), fun h => absurd h (by decide), vB0_toldDropped_0, rfl⟩
theorem am_g_2 : am_gd 2 (0, yX0_outLength, cX0_outLength, 1, (some .int), false, B0_outLength_0) := ⟨rfl, rfl, by decide, am_cw_X0_outLength, by decide, ⟨by decide, by decide⟩, fun h => (by cases h), fun h => absurd h (by decide), vB0_outLength_0, rfl⟩
theorem am_g_3 : am_gd 3 (0, yX0_toldAs, cX0_toldAs, 2, (some .long), false, B0_toldAs_0) := ⟨rfl, rfl, by decide, am_cw_X0_toldAs, by decide, ⟨by decide, by decide⟩, fun h => (by cases h), fun h => absurd h (by decide), vB0_toldAs_0, rfl⟩
theorem am_g_4 : am_gd 4 (0, yX0_dropValue, cX0_dropValue, 4, none, false, B0_dropValue_0) := ⟨rfl, rfl, by decide, am_cw_X0_dropValue, by decide, ⟨by decide, by decide⟩, fun h => (by cases h), fun h => absurd h (by decide), vB0_dropValue_0, rfl⟩
theorem am_g_5 : am_gd 5 (0, yX0_await, cX0_await, 3, none, false, B0_await_0) := ⟨rfl, rfl, by decide, am_cw_X0_await, by decide, ⟨by decide, by decide⟩, fun h => (by cases h), fun h => absurd h (by decide), vB0_await_0, rfl⟩
theorem am_g_6 : am_gd 6 (0, yX0_dropOne, cX0_dropOne, 3, none, false, B0_dropOne_0) := ⟨rfl, rfl, by decide, am_cw_X0_dropOne, by decide, ⟨by decide, by decide⟩, fun h => (by cases h), fun h => absurd h (by decide), vB0_dropOne_0, rfl⟩
theorem am_g_7 : am_gd 7 (0, yX0_tell, cX0_tell, 3, none, false, B0_tell_0) := ⟨rfl, rfl, by decide, am_cw_X0_tell, by decide, ⟨by decide, by decide⟩, fun h => (by cases h), fun h => absurd h (by decide), vB0_tell_0, rfl⟩
theorem am_g_8 : am_gd 8 (0, yX0_awaitFields, cX0_awaitFields, 6, none, false, B0_awaitFields_0) := ⟨rfl, rfl, by decide, am_cw_X0_awaitFields, by decide, ⟨by decide, by decide⟩, fun h => (by cases h), fun h => absurd h (by decide), vB0_awaitFields_0, rfl⟩
theorem am_g_9 : am_gd 9 (0, yX0_awaitBoxed, cX0_awaitBoxed, 4, none, false, B0_awaitBoxed_0) := ⟨rfl, rfl, by decide, am_cw_X0_awaitBoxed, by decide, ⟨by decide, by decide⟩, fun h => (by cases h), fun h => absurd h (by decide), vB0_awaitBoxed_0, rfl⟩
theorem am_g_10 : am_gd 10 (0, yX0_awaitElements, cX0_awaitElements, 5, none, false, B0_awaitElements_0) := ⟨rfl, rfl, by decide, am_cw_X0_awaitElements, by decide, ⟨by decide, by decide⟩, fun h => (by cases h), fun h => absurd h (by decide), vB0_awaitElements_0, rfl⟩
theorem am_g_11 : am_gd 11 (1, yX1_init, cX1_init, 2, none, true, B1_init_0) := ⟨rfl, rfl, by decide, am_cw_X1_init, by decide, ⟨by decide, by decide⟩, fun _ => rfl, fun _ => rfl, vB1_init_0, rfl⟩
theorem am_g_12 : am_gd 12 (1, yX1_frameCount, cX1_frameCount, 1, (some .int), false, B1_frameCount_0) := ⟨rfl, rfl, by decide, am_cw_X1_frameCount, by decide, ⟨by decide, by decide⟩, fun h => (by cases h), fun h => absurd h (by decide), vB1_frameCount_0, rfl⟩
theorem am_g_13 : am_gd 13 (1, yX1_lastFrame, cX1_lastFrame, 1, (some .int), false, B1_lastFrame_0) := ⟨rfl, rfl, by decide, am_cw_X1_lastFrame, by decide, ⟨by decide, by decide⟩, fun h => (by cases h), fun h => absurd h (by decide), vB1_lastFrame_0, rfl⟩
theorem am_g_14 : am_gd 14 (1, yX1_addFrame, cX1_addFrame, 1, none, false, B1_addFrame_0) := ⟨rfl, rfl, by decide, am_cw_X1_addFrame, by decide, ⟨by decide, by decide⟩, fun h => (by cases h), fun h => absurd h (by decide), vB1_addFrame_0, rfl⟩
theorem am_g_15 : am_gd 15 (1, yX1_removeFrame, cX1_removeFrame, 1, none, false, B1_removeFrame_0) := ⟨rfl, rfl, by decide, am_cw_X1_removeFrame, by decide, ⟨by decide, by decide⟩, fun h => (by cases h), fun h => absurd h (by decide), vB1_removeFrame_0, rfl⟩
theorem am_g_16 : am_gd 16 (1, yX1_handCount, cX1_handCount, 1, (some .int), false, B1_handCount_0) := ⟨rfl, rfl, by decide, am_cw_X1_handCount, by decide, ⟨by decide, by decide⟩, fun h => (by cases h), fun h => absurd h (by decide), vB1_handCount_0, rfl⟩
theorem am_g_17 : am_gd 17 (1, yX1_handOfLast, cX1_handOfLast, 1, (some .int), false, B1_handOfLast_0) := ⟨rfl, rfl, by decide, am_cw_X1_handOfLast, by decide, ⟨by decide, by decide⟩, fun h => (by cases h), fun h => absurd h (by decide), vB1_handOfLast_0, rfl⟩
theorem am_g_18 : am_gd 18 (1, yX1_handHasRoomFor, cX1_handHasRoomFor, 2, (some .boolean), false, B1_handHasRoomFor_0) := ⟨rfl, rfl, by decide, am_cw_X1_handHasRoomFor, by decide, ⟨by decide, by decide⟩, fun h => (by cases h), fun h => absurd h (by decide), vB1_handHasRoomFor_0, rfl⟩
theorem am_g_19 : am_gd 19 (1, yX1_handShape, cX1_handShape, 2, (some .int), false, B1_handShape_0) := ⟨rfl, rfl, by decide, am_cw_X1_handShape, by decide, ⟨by decide, by decide⟩, fun h => (by cases h), fun h => absurd h (by decide), vB1_handShape_0, rfl⟩
theorem am_g_20 : am_gd 20 (1, yX1_topShape, cX1_topShape, 1, (some .int), false, B1_topShape_0) := ⟨rfl, rfl, by decide, am_cw_X1_topShape, by decide, ⟨by decide, by decide⟩, fun h => (by cases h), fun h => absurd h (by decide), vB1_topShape_0, rfl⟩
theorem am_g_21 : am_gd 21 (1, yX1_handEndsWith, cX1_handEndsWith, 4, (some .boolean), false, B1_handEndsWith_0) := ⟨rfl, rfl, by decide, am_cw_X1_handEndsWith, by decide, ⟨by decide, by decide⟩, fun h => (by cases h), fun h => absurd h (by decide), vB1_handEndsWith_0, rfl⟩
theorem am_g_22 : am_gd 22 (1, yX1_layOn, cX1_layOn, 2, none, false, B1_layOn_0) := ⟨rfl, rfl, by decide, am_cw_X1_layOn, by decide, ⟨by decide, by decide⟩, fun h => (by cases h), fun h => absurd h (by decide), vB1_layOn_0, rfl⟩
theorem am_g_23 : am_gd 23 (1, yX1_takeOff, cX1_takeOff, 2, none, false, B1_takeOff_0) := ⟨rfl, rfl, by decide, am_cw_X1_takeOff, by decide, ⟨by decide, by decide⟩, fun h => (by cases h), fun h => absurd h (by decide), vB1_takeOff_0, rfl⟩
theorem am_g_24 : am_gd 24 (1, yX1_slotShape, cX1_slotShape, 3, (some .int), false, B1_slotShape_0) := ⟨rfl, rfl, by decide, am_cw_X1_slotShape, by decide, ⟨by decide, by decide⟩, fun h => (by cases h), fun h => absurd h (by decide), vB1_slotShape_0, rfl⟩
theorem am_g_25 : am_gd 25 (1, yX1_fillSlot, cX1_fillSlot, 4, none, false, B1_fillSlot_0) := ⟨rfl, rfl, by decide, am_cw_X1_fillSlot, by decide, ⟨by decide, by decide⟩, fun h => (by cases h), fun h => absurd h (by decide), vB1_fillSlot_0, rfl⟩
theorem am_g_26 : am_gd 26 (1, yX1_hasSlot, cX1_hasSlot, 2, (some .boolean), false, B1_hasSlot_0) := ⟨rfl, rfl, by decide, am_cw_X1_hasSlot, by decide, ⟨by decide, by decide⟩, fun h => (by cases h), fun h => absurd h (by decide), vB1_hasSlot_0, rfl⟩
theorem am_g_27 : am_gd 27 (1, yX1_filledSlots, cX1_filledSlots, 3, (some .int), false, B1_filledSlots_0) := ⟨rfl, rfl, by decide, am_cw_X1_filledSlots, by decide, ⟨by decide, by decide⟩, fun h => (by cases h), fun h => absurd h (by decide), vB1_filledSlots_0, rfl⟩
theorem am_g_28 : am_gd 28 (2, yX2_init, cX2_init, 1, none, true, B2_init_0) := ⟨rfl, rfl, by decide, am_cw_X2_init, by decide, ⟨by decide, by decide⟩, fun _ => rfl, fun _ => rfl, vB2_init_0, rfl⟩
theorem am_g_29 : am_gd 29 (2, yX2_read, cX2_read, 2, (some .long), false, B2_read_0) := ⟨rfl, rfl, by decide, am_cw_X2_read, by decide, ⟨by decide, by decide⟩, fun h => (by cases h), fun h => absurd h (by decide), vB2_read_0, rfl⟩
theorem am_g_30 : am_gd 30 (2, yX2_write, cX2_write, 4, none, false, B2_write_0) := ⟨rfl, rfl, by decide, am_cw_X2_write, by decide, ⟨by decide, by decide⟩, fun h => (by cases h), fun h => absurd h (by decide), vB2_write_0, rfl⟩
theorem am_g_31 : am_gd 31 (2, yX2_moveCells, cX2_moveCells, 4, none, false, B2_moveCells_0) := ⟨rfl, rfl, by decide, am_cw_X2_moveCells, by decide, ⟨by decide, by decide⟩, fun h => (by cases h), fun h => absurd h (by decide), vB2_moveCells_0, rfl⟩
theorem am_g_32 : am_gd 32 (2, yX2_swapCells, cX2_swapCells, 7, none, false, B2_swapCells_0) := ⟨rfl, rfl, by decide, am_cw_X2_swapCells, by decide, ⟨by decide, by decide⟩, fun h => (by cases h), fun h => absurd h (by decide), vB2_swapCells_0, rfl⟩
theorem am_g_33 : am_gd 33 (2, yX2_areCells, cX2_areCells, 2, (some .boolean), false, B2_areCells_0) := ⟨rfl, rfl, by decide, am_cw_X2_areCells, by decide, ⟨by decide, by decide⟩, fun h => (by cases h), fun h => absurd h (by decide), vB2_areCells_0, rfl⟩
theorem am_g_34 : am_gd 34 (2, yX2_boxesThere, cX2_boxesThere, 1, (some .int), false, B2_boxesThere_0) := ⟨rfl, rfl, by decide, am_cw_X2_boxesThere, by decide, ⟨by decide, by decide⟩, fun h => (by cases h), fun h => absurd h (by decide), vB2_boxesThere_0, rfl⟩
theorem am_g_35 : am_gd 35 (2, yX2_rowsThere, cX2_rowsThere, 1, (some .int), false, B2_rowsThere_0) := ⟨rfl, rfl, by decide, am_cw_X2_rowsThere, by decide, ⟨by decide, by decide⟩, fun h => (by cases h), fun h => absurd h (by decide), vB2_rowsThere_0, rfl⟩
theorem am_g_36 : am_gd 36 (2, yX2_takeBox, cX2_takeBox, 2, (some .int), false, B2_takeBox_0) := ⟨rfl, rfl, by decide, am_cw_X2_takeBox, by decide, ⟨by decide, by decide⟩, fun h => (by cases h), fun h => absurd h (by decide), vB2_takeBox_0, rfl⟩
theorem am_g_37 : am_gd 37 (2, yX2_takeRow, cX2_takeRow, 3, (some .int), false, B2_takeRow_0) := ⟨rfl, rfl, by decide, am_cw_X2_takeRow, by decide, ⟨by decide, by decide⟩, fun h => (by cases h), fun h => absurd h (by decide), vB2_takeRow_0, rfl⟩
theorem am_g_38 : am_gd 38 (2, yX2_firstFree, cX2_firstFree, 2, (some .int), false, B2_firstFree_0) := ⟨rfl, rfl, by decide, am_cw_X2_firstFree, by decide, ⟨by decide, by decide⟩, fun h => (by cases h), fun h => absurd h (by decide), vB2_firstFree_0, rfl⟩
theorem am_g_39 : am_gd 39 (2, yX2_freeBox, cX2_freeBox, 3, none, false, B2_freeBox_0) := ⟨rfl, rfl, by decide, am_cw_X2_freeBox, by decide, ⟨by decide, by decide⟩, fun h => (by cases h), fun h => absurd h (by decide), vB2_freeBox_0, rfl⟩
theorem am_g_40 : am_gd 40 (2, yX2_freeRow, cX2_freeRow, 3, none, false, B2_freeRow_0) := ⟨rfl, rfl, by decide, am_cw_X2_freeRow, by decide, ⟨by decide, by decide⟩, fun h => (by cases h), fun h => absurd h (by decide), vB2_freeRow_0, rfl⟩
theorem am_g_41 : am_gd 41 (2, yX2_isBox, cX2_isBox, 2, (some .boolean), false, B2_isBox_0) := ⟨rfl, rfl, by decide, am_cw_X2_isBox, by decide, ⟨by decide, by decide⟩, fun h => (by cases h), fun h => absurd h (by decide), vB2_isBox_0, rfl⟩
theorem am_g_42 : am_gd 42 (2, yX2_isRow, cX2_isRow, 2, (some .boolean), false, B2_isRow_0) := ⟨rfl, rfl, by decide, am_cw_X2_isRow, by decide, ⟨by decide, by decide⟩, fun h => (by cases h), fun h => absurd h (by decide), vB2_isRow_0, rfl⟩
theorem am_g_43 : am_gd 43 (2, yX2_boxAt, cX2_boxAt, 3, (some .int), false, B2_boxAt_0) := ⟨rfl, rfl, by decide, am_cw_X2_boxAt, by decide, ⟨by decide, by decide⟩, fun h => (by cases h), fun h => absurd h (by decide), vB2_boxAt_0, rfl⟩
theorem am_g_44 : am_gd 44 (2, yX2_elementAt, cX2_elementAt, 4, (some .int), false, B2_elementAt_0) := ⟨rfl, rfl, by decide, am_cw_X2_elementAt, by decide, ⟨by decide, by decide⟩, fun h => (by cases h), fun h => absurd h (by decide), vB2_elementAt_0, rfl⟩
theorem am_g_45 : am_gd 45 (2, yX2_lengthOf, cX2_lengthOf, 3, (some .int), false, B2_lengthOf_0) := ⟨rfl, rfl, by decide, am_cw_X2_lengthOf, by decide, ⟨by decide, by decide⟩, fun h => (by cases h), fun h => absurd h (by decide), vB2_lengthOf_0, rfl⟩
theorem am_g_46 : am_gd 46 (2, yX2_setLength, cX2_setLength, 4, none, false, B2_setLength_0) := ⟨rfl, rfl, by decide, am_cw_X2_setLength, by decide, ⟨by decide, by decide⟩, fun h => (by cases h), fun h => absurd h (by decide), vB2_setLength_0, rfl⟩
theorem am_g_47 : am_gd 47 (3, yX3_init, cX3_init, 1, none, true, B3_init_0) := ⟨rfl, rfl, by decide, am_cw_X3_init, by decide, ⟨by decide, by decide⟩, fun _ => rfl, fun _ => rfl, vB3_init_0, rfl⟩
theorem am_g_48 : am_gd 48 (3, yX3_add, cX3_add, 6, (some .int), false, B3_add_0) := ⟨rfl, rfl, by decide, am_cw_X3_add, by decide, ⟨by decide, by decide⟩, fun h => (by cases h), fun h => absurd h (by decide), vB3_add_0, rfl⟩
theorem am_g_49 : am_gd 49 (3, yX3_tieLooseBox, cX3_tieLooseBox, 3, (some .boolean), false, B3_tieLooseBox_0) := ⟨rfl, rfl, by decide, am_cw_X3_tieLooseBox, by decide, ⟨by decide, by decide⟩, fun h => (by cases h), fun h => absurd h (by decide), vB3_tieLooseBox_0, rfl⟩
theorem am_g_50 : am_gd 50 (3, yX3_howMany, cX3_howMany, 1, (some .int), false, B3_howMany_0) := ⟨rfl, rfl, by decide, am_cw_X3_howMany, by decide, ⟨by decide, by decide⟩, fun h => (by cases h), fun h => absurd h (by decide), vB3_howMany_0, rfl⟩
theorem am_g_51 : am_gd 51 (3, yX3_has, cX3_has, 2, (some .boolean), false, B3_has_0) := ⟨rfl, rfl, by decide, am_cw_X3_has, by decide, ⟨by decide, by decide⟩, fun h => (by cases h), fun h => absurd h (by decide), vB3_has_0, rfl⟩
theorem am_g_52 : am_gd 52 (3, yX3_hasOrNone, cX3_hasOrNone, 2, (some .boolean), false, B3_hasOrNone_0) := ⟨rfl, rfl, by decide, am_cw_X3_hasOrNone, by decide, ⟨by decide, by decide⟩, fun h => (by cases h), fun h => absurd h (by decide), vB3_hasOrNone_0, rfl⟩
theorem am_g_53 : am_gd 53 (3, yX3_kindOf, cX3_kindOf, 2, (some .int), false, B3_kindOf_0) := ⟨rfl, rfl, by decide, am_cw_X3_kindOf, by decide, ⟨by decide, by decide⟩, fun h => (by cases h), fun h => absurd h (by decide), vB3_kindOf_0, rfl⟩
theorem am_g_54 : am_gd 54 (3, yX3_sizeOf, cX3_sizeOf, 2, (some .int), false, B3_sizeOf_0) := ⟨rfl, rfl, by decide, am_cw_X3_sizeOf, by decide, ⟨by decide, by decide⟩, fun h => (by cases h), fun h => absurd h (by decide), vB3_sizeOf_0, rfl⟩
theorem am_g_55 : am_gd 55 (3, yX3_partOf, cX3_partOf, 3, (some .int), false, B3_partOf_0) := ⟨rfl, rfl, by decide, am_cw_X3_partOf, by decide, ⟨by decide, by decide⟩, fun h => (by cases h), fun h => absurd h (by decide), vB3_partOf_0, rfl⟩
theorem am_g_56 : am_gd 56 (3, yX3_partsOf, cX3_partsOf, 4, (some .int), false, B3_partsOf_0) := ⟨rfl, rfl, by decide, am_cw_X3_partsOf, by decide, ⟨by decide, by decide⟩, fun h => (by cases h), fun h => absurd h (by decide), vB3_partsOf_0, rfl⟩
theorem am_g_57 : am_gd 57 (3, yX3_offsetOf, cX3_offsetOf, 5, (some .int), false, B3_offsetOf_0) := ⟨rfl, rfl, by decide, am_cw_X3_offsetOf, by decide, ⟨by decide, by decide⟩, fun h => (by cases h), fun h => absurd h (by decide), vB3_offsetOf_0, rfl⟩
theorem am_g_58 : am_gd 58 (4, yX4_init, cX4_init, 1, none, true, B4_init_0) := ⟨rfl, rfl, by decide, am_cw_X4_init, by decide, ⟨by decide, by decide⟩, fun _ => rfl, fun _ => rfl, vB4_init_0, rfl⟩
theorem am_g_59 : am_gd 59 (4, yX4_record, cX4_record, 6, (some .int), false, B4_record_0) := ⟨rfl, rfl, by decide, am_cw_X4_record, by decide, ⟨by decide, by decide⟩, fun h => (by cases h), fun h => absurd h (by decide), vB4_record_0, rfl⟩
theorem am_g_60 : am_gd 60 (4, yX4_choice, cX4_choice, 5, (some .int), false, B4_choice_0) := ⟨rfl, rfl, by decide, am_cw_X4_choice, by decide, ⟨by decide, by decide⟩, fun h => (by cases h), fun h => absurd h (by decide), vB4_choice_0, rfl⟩
theorem am_g_61 : am_gd 61 (4, yX4_box, cX4_box, 2, (some .int), false, B4_box_0) := ⟨rfl, rfl, by decide, am_cw_X4_box, by decide, ⟨by decide, by decide⟩, fun h => (by cases h), fun h => absurd h (by decide), vB4_box_0, rfl⟩
theorem am_g_62 : am_gd 62 (4, yX4_tie, cX4_tie, 3, (some .int), false, B4_tie_0) := ⟨rfl, rfl, by decide, am_cw_X4_tie, by decide, ⟨by decide, by decide⟩, fun h => (by cases h), fun h => absurd h (by decide), vB4_tie_0, rfl⟩
theorem am_g_63 : am_gd 63 (4, yX4_row, cX4_row, 2, (some .int), false, B4_row_0) := ⟨rfl, rfl, by decide, am_cw_X4_row, by decide, ⟨by decide, by decide⟩, fun h => (by cases h), fun h => absurd h (by decide), vB4_row_0, rfl⟩
theorem am_g_64 : am_gd 64 (4, yX4_about, cX4_about, 3, (some .int), false, B4_about_0) := ⟨rfl, rfl, by decide, am_cw_X4_about, by decide, ⟨by decide, by decide⟩, fun h => (by cases h), fun h => absurd h (by decide), vB4_about_0, rfl⟩
theorem am_g_65 : am_gd 65 (4, yX4_number, cX4_number, 3, (some .int), false, B4_number_0) := ⟨rfl, rfl, by decide, am_cw_X4_number, by decide, ⟨by decide, by decide⟩, fun h => (by cases h), fun h => absurd h (by decide), vB4_number_0, rfl⟩
theorem am_g_66 : am_gd 66 (4, yX4_make, cX4_make, 3, (some .int), false, B4_make_0) := ⟨rfl, rfl, by decide, am_cw_X4_make, by decide, ⟨by decide, by decide⟩, fun h => (by cases h), fun h => absurd h (by decide), vB4_make_0, rfl⟩
theorem am_g_67 : am_gd 67 (4, yX4_gather, cX4_gather, 5, (some .int), false, B4_gather_0) := ⟨rfl, rfl, by decide, am_cw_X4_gather, by decide, ⟨by decide, by decide⟩, fun h => (by cases h), fun h => absurd h (by decide), vB4_gather_0, rfl⟩
theorem am_g_68 : am_gd 68 (4, yX4_open, cX4_open, 5, (some .int), false, B4_open_0) := ⟨rfl, rfl, by decide, am_cw_X4_open, by decide, ⟨by decide, by decide⟩, fun h => (by cases h), fun h => absurd h (by decide), vB4_open_0, rfl⟩
theorem am_g_69 : am_gd 69 (4, yX4_apart, cX4_apart, 2, (some .int), false, B4_apart_0) := ⟨rfl, rfl, by decide, am_cw_X4_apart, by decide, ⟨by decide, by decide⟩, fun h => (by cases h), fun h => absurd h (by decide), vB4_apart_0, rfl⟩
theorem am_g_70 : am_gd 70 (4, yX4_drop, cX4_drop, 2, (some .int), false, B4_drop_0) := ⟨rfl, rfl, by decide, am_cw_X4_drop, by decide, ⟨by decide, by decide⟩, fun h => (by cases h), fun h => absurd h (by decide), vB4_drop_0, rfl⟩
theorem am_g_71 : am_gd 71 (4, yX4_store, cX4_store, 4, (some .int), false, B4_store_0) := ⟨rfl, rfl, by decide, am_cw_X4_store, by decide, ⟨by decide, by decide⟩, fun h => (by cases h), fun h => absurd h (by decide), vB4_store_0, rfl⟩
theorem am_g_72 : am_gd 72 (4, yX4_load, cX4_load, 4, (some .int), false, B4_load_0) := ⟨rfl, rfl, by decide, am_cw_X4_load, by decide, ⟨by decide, by decide⟩, fun h => (by cases h), fun h => absurd h (by decide), vB4_load_0, rfl⟩
theorem am_g_73 : am_gd 73 (4, yX4_set, cX4_set, 4, (some .int), false, B4_set_0) := ⟨rfl, rfl, by decide, am_cw_X4_set, by decide, ⟨by decide, by decide⟩, fun h => (by cases h), fun h => absurd h (by decide), vB4_set_0, rfl⟩
theorem am_g_74 : am_gd 74 (4, yX4_swap, cX4_swap, 4, (some .int), false, B4_swap_0) := ⟨rfl, rfl, by decide, am_cw_X4_swap, by decide, ⟨by decide, by decide⟩, fun h => (by cases h), fun h => absurd h (by decide), vB4_swap_0, rfl⟩
theorem am_g_75 : am_gd 75 (4, yX4_push, cX4_push, 8, (some .int), false, B4_push_0) := ⟨rfl, rfl, by decide, am_cw_X4_push, by decide, ⟨by decide, by decide⟩, fun h => (by cases h), fun h => absurd h (by decide), vB4_push_0, rfl⟩
theorem am_g_76 : am_gd 76 (4, yX4_pop, cX4_pop, 8, (some .int), false, B4_pop_0) := ⟨rfl, rfl, by decide, am_cw_X4_pop, by decide, ⟨by decide, by decide⟩, fun h => (by cases h), fun h => absurd h (by decide), vB4_pop_0, rfl⟩
theorem am_g_77 : am_gd 77 (4, yX4_enter, cX4_enter, 6, (some .int), false, B4_enter_0) := ⟨rfl, rfl, by decide, am_cw_X4_enter, by decide, ⟨by decide, by decide⟩, fun h => (by cases h), fun h => absurd h (by decide), vB4_enter_0, rfl⟩
theorem am_g_78 : am_gd 78 (4, yX4_leave, cX4_leave, 4, (some .int), false, B4_leave_0) := ⟨rfl, rfl, by decide, am_cw_X4_leave, by decide, ⟨by decide, by decide⟩, fun h => (by cases h), fun h => absurd h (by decide), vB4_leave_0, rfl⟩
theorem am_g_79 : am_gd 79 (4, yX4_fail, cX4_fail, 3, (some .int), false, B4_fail_0) := ⟨rfl, rfl, by decide, am_cw_X4_fail, by decide, ⟨by decide, by decide⟩, fun h => (by cases h), fun h => absurd h (by decide), vB4_fail_0, rfl⟩
theorem am_g_80 : am_gd 80 (4, yX4_shape, cX4_shape, 3, (some .int), false, B4_shape_0) := ⟨rfl, rfl, by decide, am_cw_X4_shape, by decide, ⟨by decide, by decide⟩, fun h => (by cases h), fun h => absurd h (by decide), vB4_shape_0, rfl⟩
theorem am_g_81 : am_gd 81 (4, yX4_look, cX4_look, 3, (some .long), false, B4_look_0) := ⟨rfl, rfl, by decide, am_cw_X4_look, by decide, ⟨by decide, by decide⟩, fun h => (by cases h), fun h => absurd h (by decide), vB4_look_0, rfl⟩
theorem am_g_82 : am_gd 82 (4, yX4_state, cX4_state, 3, (some .int), false, B4_state_0) := ⟨rfl, rfl, by decide, am_cw_X4_state, by decide, ⟨by decide, by decide⟩, fun h => (by cases h), fun h => absurd h (by decide), vB4_state_0, rfl⟩
theorem am_g_83 : am_gd 83 (4, yX4_out, cX4_out, 2, (some .long), false, B4_out_0) := ⟨rfl, rfl, by decide, am_cw_X4_out, by decide, ⟨by decide, by decide⟩, fun h => (by cases h), fun h => absurd h (by decide), vB4_out_0, rfl⟩
theorem am_g_84 : am_gd 84 (4, yX4_count, cX4_count, 2, (some .int), false, B4_count_0) := ⟨rfl, rfl, by decide, am_cw_X4_count, by decide, ⟨by decide, by decide⟩, fun h => (by cases h), fun h => absurd h (by decide), vB4_count_0, rfl⟩
theorem am_g_85 : am_gd 85 (4, yX4_layOneCell, cX4_layOneCell, 4, (some .int), false, B4_layOneCell_0) := ⟨rfl, rfl, by decide, am_cw_X4_layOneCell, by decide, ⟨by decide, by decide⟩, fun h => (by cases h), fun h => absurd h (by decide), vB4_layOneCell_0, rfl⟩
theorem am_g_86 : am_gd 86 (4, yX4_makeRecord, cX4_makeRecord, 7, (some .int), false, B4_makeRecord_0) := ⟨rfl, rfl, by decide, am_cw_X4_makeRecord, by decide, ⟨by decide, by decide⟩, fun h => (by cases h), fun h => absurd h (by decide), vB4_makeRecord_0, rfl⟩
theorem am_g_87 : am_gd 87 (4, yX4_handEndsWithFieldsOf, cX4_handEndsWithFieldsOf, 5, (some .boolean), false, B4_handEndsWithFieldsOf_0) := ⟨rfl, rfl, by decide, am_cw_X4_handEndsWithFieldsOf, by decide, ⟨by decide, by decide⟩, fun h => (by cases h), fun h => absurd h (by decide), vB4_handEndsWithFieldsOf_0, rfl⟩
theorem am_g_88 : am_gd 88 (4, yX4_makeChoice, cX4_makeChoice, 4, (some .int), false, B4_makeChoice_0) := ⟨rfl, rfl, by decide, am_cw_X4_makeChoice, by decide, ⟨by decide, by decide⟩, fun h => (by cases h), fun h => absurd h (by decide), vB4_makeChoice_0, rfl⟩
theorem am_g_89 : am_gd 89 (4, yX4_makeBox, cX4_makeBox, 4, (some .int), false, B4_makeBox_0) := ⟨rfl, rfl, by decide, am_cw_X4_makeBox, by decide, ⟨by decide, by decide⟩, fun h => (by cases h), fun h => absurd h (by decide), vB4_makeBox_0, rfl⟩
theorem am_g_90 : am_gd 90 (4, yX4_takeRecordApart, cX4_takeRecordApart, 7, (some .int), false, B4_takeRecordApart_0) := ⟨rfl, rfl, by decide, am_cw_X4_takeRecordApart, by decide, ⟨by decide, by decide⟩, fun h => (by cases h), fun h => absurd h (by decide), vB4_takeRecordApart_0, rfl⟩
theorem am_g_91 : am_gd 91 (4, yX4_takeChoiceApart, cX4_takeChoiceApart, 3, (some .int), false, B4_takeChoiceApart_0) := ⟨rfl, rfl, by decide, am_cw_X4_takeChoiceApart, by decide, ⟨by decide, by decide⟩, fun h => (by cases h), fun h => absurd h (by decide), vB4_takeChoiceApart_0, rfl⟩
theorem am_g_92 : am_gd 92 (4, yX4_replaceTopShape, cX4_replaceTopShape, 2, none, false, B4_replaceTopShape_0) := ⟨rfl, rfl, by decide, am_cw_X4_replaceTopShape, by decide, ⟨by decide, by decide⟩, fun h => (by cases h), fun h => absurd h (by decide), vB4_replaceTopShape_0, rfl⟩
theorem am_g_93 : am_gd 93 (4, yX4_handAt, cX4_handAt, 1, (some .int), false, B4_handAt_0) := ⟨rfl, rfl, by decide, am_cw_X4_handAt, by decide, ⟨by decide, by decide⟩, fun h => (by cases h), fun h => absurd h (by decide), vB4_handAt_0, rfl⟩
theorem am_g_94 : am_gd 94 (4, yX4_slotAt, cX4_slotAt, 2, (some .int), false, B4_slotAt_0) := ⟨rfl, rfl, by decide, am_cw_X4_slotAt, by decide, ⟨by decide, by decide⟩, fun h => (by cases h), fun h => absurd h (by decide), vB4_slotAt_0, rfl⟩
theorem am_g_95 : am_gd 95 (4, yX4_isSlot, cX4_isSlot, 1, (some .boolean), false, B4_isSlot_0) := ⟨rfl, rfl, by decide, am_cw_X4_isSlot, by decide, ⟨by decide, by decide⟩, fun h => (by cases h), fun h => absurd h (by decide), vB4_isSlot_0, rfl⟩
theorem am_g_96 : am_gd 96 (4, yX4_topAt, cX4_topAt, 1, (some .int), false, B4_topAt_0) := ⟨rfl, rfl, by decide, am_cw_X4_topAt, by decide, ⟨by decide, by decide⟩, fun h => (by cases h), fun h => absurd h (by decide), vB4_topAt_0, rfl⟩
theorem am_g_97 : am_gd 97 (4, yX4_seek, cX4_seek, 6, (some .int), false, B4_seek_0) := ⟨rfl, rfl, by decide, am_cw_X4_seek, by decide, ⟨by decide, by decide⟩, fun h => (by cases h), fun h => absurd h (by decide), vB4_seek_0, rfl⟩
theorem am_g_98 : am_gd 98 (4, yX4_step, cX4_step, 3, (some .int), false, B4_step_0) := ⟨rfl, rfl, by decide, am_cw_X4_step, by decide, ⟨by decide, by decide⟩, fun h => (by cases h), fun h => absurd h (by decide), vB4_step_0, rfl⟩
theorem am_g_99 : am_gd 99 (4, yX4_stepToField, cX4_stepToField, 3, (some .int), false, B4_stepToField_0) := ⟨rfl, rfl, by decide, am_cw_X4_stepToField, by decide, ⟨by decide, by decide⟩, fun h => (by cases h), fun h => absurd h (by decide), vB4_stepToField_0, rfl⟩
theorem am_g_100 : am_gd 100 (4, yX4_stepToPart, cX4_stepToPart, 3, (some .int), false, B4_stepToPart_0) := ⟨rfl, rfl, by decide, am_cw_X4_stepToPart, by decide, ⟨by decide, by decide⟩, fun h => (by cases h), fun h => absurd h (by decide), vB4_stepToPart_0, rfl⟩
theorem am_g_101 : am_gd 101 (4, yX4_stepIntoBox, cX4_stepIntoBox, 2, (some .int), false, B4_stepIntoBox_0) := ⟨rfl, rfl, by decide, am_cw_X4_stepIntoBox, by decide, ⟨by decide, by decide⟩, fun h => (by cases h), fun h => absurd h (by decide), vB4_stepIntoBox_0, rfl⟩
theorem am_g_102 : am_gd 102 (4, yX4_stepToElement, cX4_stepToElement, 5, (some .int), false, B4_stepToElement_0) := ⟨rfl, rfl, by decide, am_cw_X4_stepToElement, by decide, ⟨by decide, by decide⟩, fun h => (by cases h), fun h => absurd h (by decide), vB4_stepToElement_0, rfl⟩
theorem am_g_103 : am_gd 103 (4, yX4_endLastFrame, cX4_endLastFrame, 5, none, false, B4_endLastFrame_0) := ⟨rfl, rfl, by decide, am_cw_X4_endLastFrame, by decide, ⟨by decide, by decide⟩, fun h => (by cases h), fun h => absurd h (by decide), vB4_endLastFrame_0, rfl⟩
theorem am_g_104 : am_gd 104 (5, yX5_init, cX5_init, 2, none, true, B5_init_0) := ⟨rfl, rfl, by decide, am_cw_X5_init, by decide, ⟨by decide, by decide⟩, fun _ => rfl, fun _ => rfl, vB5_init_0, rfl⟩
theorem am_g_105 : am_gd 105 (5, yX5_in, cX5_in, 3, (some .boolean), false, B5_in_0) := ⟨rfl, rfl, by decide, am_cw_X5_in, by decide, ⟨by decide, by decide⟩, fun h => (by cases h), fun h => absurd h (by decide), vB5_in_0, rfl⟩
theorem am_g_106 : am_gd 106 (5, yX5_isShape, cX5_isShape, 2, (some .boolean), false, B5_isShape_0) := ⟨rfl, rfl, by decide, am_cw_X5_isShape, by decide, ⟨by decide, by decide⟩, fun h => (by cases h), fun h => absurd h (by decide), vB5_isShape_0, rfl⟩
theorem am_g_107 : am_gd 107 (5, yX5_come, cX5_come, 6, (some .int), false, B5_come_0) := ⟨rfl, rfl, by decide, am_cw_X5_come, by decide, ⟨by decide, by decide⟩, fun h => (by cases h), fun h => absurd h (by decide), vB5_come_0, rfl⟩
theorem am_g_108 : am_gd 108 (5, yX5_sizeOf, cX5_sizeOf, 2, (some .int), false, B5_sizeOf_0) := ⟨rfl, rfl, by decide, am_cw_X5_sizeOf, by decide, ⟨by decide, by decide⟩, fun h => (by cases h), fun h => absurd h (by decide), vB5_sizeOf_0, rfl⟩
theorem am_g_109 : am_gd 109 (5, yX5_record, cX5_record, 5, (some .int), false, B5_record_0) := ⟨rfl, rfl, by decide, am_cw_X5_record, by decide, ⟨by decide, by decide⟩, fun h => (by cases h), fun h => absurd h (by decide), vB5_record_0, rfl⟩
theorem am_g_110 : am_gd 110 (5, yX5_choice, cX5_choice, 4, (some .int), false, B5_choice_0) := ⟨rfl, rfl, by decide, am_cw_X5_choice, by decide, ⟨by decide, by decide⟩, fun h => (by cases h), fun h => absurd h (by decide), vB5_choice_0, rfl⟩
theorem am_g_111 : am_gd 111 (5, yX5_box, cX5_box, 2, (some .int), false, B5_box_0) := ⟨rfl, rfl, by decide, am_cw_X5_box, by decide, ⟨by decide, by decide⟩, fun h => (by cases h), fun h => absurd h (by decide), vB5_box_0, rfl⟩
theorem am_g_112 : am_gd 112 (5, yX5_tie, cX5_tie, 3, (some .int), false, B5_tie_0) := ⟨rfl, rfl, by decide, am_cw_X5_tie, by decide, ⟨by decide, by decide⟩, fun h => (by cases h), fun h => absurd h (by decide), vB5_tie_0, rfl⟩
theorem am_g_113 : am_gd 113 (5, yX5_row, cX5_row, 2, (some .int), false, B5_row_0) := ⟨rfl, rfl, by decide, am_cw_X5_row, by decide, ⟨by decide, by decide⟩, fun h => (by cases h), fun h => absurd h (by decide), vB5_row_0, rfl⟩
theorem am_g_114 : am_gd 114 (5, yX5_about, cX5_about, 3, (some .int), false, B5_about_0) := ⟨rfl, rfl, by decide, am_cw_X5_about, by decide, ⟨by decide, by decide⟩, fun h => (by cases h), fun h => absurd h (by decide), vB5_about_0, rfl⟩
theorem am_g_115 : am_gd 115 (5, yX5_node, cX5_node, 6, (some .int), false, B5_node_0) := ⟨rfl, rfl, by decide, am_cw_X5_node, by decide, ⟨by decide, by decide⟩, fun h => (by cases h), fun h => absurd h (by decide), vB5_node_0, rfl⟩
theorem am_g_116 : am_gd 116 (5, yX5_grow, cX5_grow, 6, none, false, B5_grow_0) := ⟨rfl, rfl, by decide, am_cw_X5_grow, by decide, ⟨by decide, by decide⟩, fun h => (by cases h), fun h => absurd h (by decide), vB5_grow_0, rfl⟩
theorem am_g_117 : am_gd 117 (5, yX5_free, cX5_free, 2, none, false, B5_free_0) := ⟨rfl, rfl, by decide, am_cw_X5_free, by decide, ⟨by decide, by decide⟩, fun h => (by cases h), fun h => absurd h (by decide), vB5_free_0, rfl⟩
theorem am_g_118 : am_gd 118 (5, yX5_kindOf, cX5_kindOf, 2, (some .int), false, B5_kindOf_0) := ⟨rfl, rfl, by decide, am_cw_X5_kindOf, by decide, ⟨by decide, by decide⟩, fun h => (by cases h), fun h => absurd h (by decide), vB5_kindOf_0, rfl⟩
theorem am_g_119 : am_gd 119 (5, yX5_dropped, cX5_dropped, 4, none, false, B5_dropped_0) := ⟨rfl, rfl, by decide, am_cw_X5_dropped, by decide, ⟨by decide, by decide⟩, fun h => (by cases h), fun h => absurd h (by decide), vB5_dropped_0, rfl⟩
theorem am_g_120 : am_gd 120 (5, yX5_mine, cX5_mine, 1, (some .int), false, B5_mine_0) := ⟨rfl, rfl, by decide, am_cw_X5_mine, by decide, ⟨by decide, by decide⟩, fun h => (by cases h), fun h => absurd h (by decide), vB5_mine_0, rfl⟩
theorem am_g_121 : am_gd 121 (5, yX5_top, cX5_top, 2, (some .int), false, B5_top_0) := ⟨rfl, rfl, by decide, am_cw_X5_top, by decide, ⟨by decide, by decide⟩, fun h => (by cases h), fun h => absurd h (by decide), vB5_top_0, rfl⟩
theorem am_g_122 : am_gd 122 (5, yX5_slot, cX5_slot, 2, (some .int), false, B5_slot_0) := ⟨rfl, rfl, by decide, am_cw_X5_slot, by decide, ⟨by decide, by decide⟩, fun h => (by cases h), fun h => absurd h (by decide), vB5_slot_0, rfl⟩
theorem am_g_123 : am_gd 123 (5, yX5_find, cX5_find, 8, (some .int), false, B5_find_0) := ⟨rfl, rfl, by decide, am_cw_X5_find, by decide, ⟨by decide, by decide⟩, fun h => (by cases h), fun h => absurd h (by decide), vB5_find_0, rfl⟩
theorem am_g_124 : am_gd 124 (5, yX5_put, cX5_put, 2, none, false, B5_put_0) := ⟨rfl, rfl, by decide, am_cw_X5_put, by decide, ⟨by decide, by decide⟩, fun h => (by cases h), fun h => absurd h (by decide), vB5_put_0, rfl⟩
theorem am_g_125 : am_gd 125 (5, yX5_comes, cX5_comes, 2, (some .int), false, B5_comes_0) := ⟨rfl, rfl, by decide, am_cw_X5_comes, by decide, ⟨by decide, by decide⟩, fun h => (by cases h), fun h => absurd h (by decide), vB5_comes_0, rfl⟩
theorem am_g_126 : am_gd 126 (5, yX5_number, cX5_number, 3, (some .int), false, B5_number_0) := ⟨rfl, rfl, by decide, am_cw_X5_number, by decide, ⟨by decide, by decide⟩, fun h => (by cases h), fun h => absurd h (by decide), vB5_number_0, rfl⟩
theorem am_g_127 : am_gd 127 (5, yX5_parts, cX5_parts, 3, (some .int), false, B5_parts_0) := ⟨rfl, rfl, by decide, am_cw_X5_parts, by decide, ⟨by decide, by decide⟩, fun h => (by cases h), fun h => absurd h (by decide), vB5_parts_0, rfl⟩
theorem am_g_128 : am_gd 128 (5, yX5_wrap, cX5_wrap, 7, (some .int), false, B5_wrap_0) := ⟨rfl, rfl, by decide, am_cw_X5_wrap, by decide, ⟨by decide, by decide⟩, fun h => (by cases h), fun h => absurd h (by decide), vB5_wrap_0, rfl⟩
theorem am_g_129 : am_gd 129 (5, yX5_make, cX5_make, 5, (some .int), false, B5_make_0) := ⟨rfl, rfl, by decide, am_cw_X5_make, by decide, ⟨by decide, by decide⟩, fun h => (by cases h), fun h => absurd h (by decide), vB5_make_0, rfl⟩
theorem am_g_130 : am_gd 130 (5, yX5_gather, cX5_gather, 4, (some .int), false, B5_gather_0) := ⟨rfl, rfl, by decide, am_cw_X5_gather, by decide, ⟨by decide, by decide⟩, fun h => (by cases h), fun h => absurd h (by decide), vB5_gather_0, rfl⟩
theorem am_g_131 : am_gd 131 (5, yX5_open, cX5_open, 2, (some .int), false, B5_open_0) := ⟨rfl, rfl, by decide, am_cw_X5_open, by decide, ⟨by decide, by decide⟩, fun h => (by cases h), fun h => absurd h (by decide), vB5_open_0, rfl⟩
theorem am_g_132 : am_gd 132 (5, yX5_apart, cX5_apart, 4, (some .int), false, B5_apart_0) := ⟨rfl, rfl, by decide, am_cw_X5_apart, by decide, ⟨by decide, by decide⟩, fun h => (by cases h), fun h => absurd h (by decide), vB5_apart_0, rfl⟩
theorem am_g_133 : am_gd 133 (5, yX5_drop, cX5_drop, 1, (some .int), false, B5_drop_0) := ⟨rfl, rfl, by decide, am_cw_X5_drop, by decide, ⟨by decide, by decide⟩, fun h => (by cases h), fun h => absurd h (by decide), vB5_drop_0, rfl⟩
theorem am_g_134 : am_gd 134 (5, yX5_store, cX5_store, 2, (some .int), false, B5_store_0) := ⟨rfl, rfl, by decide, am_cw_X5_store, by decide, ⟨by decide, by decide⟩, fun h => (by cases h), fun h => absurd h (by decide), vB5_store_0, rfl⟩
theorem am_g_135 : am_gd 135 (5, yX5_load, cX5_load, 3, (some .int), false, B5_load_0) := ⟨rfl, rfl, by decide, am_cw_X5_load, by decide, ⟨by decide, by decide⟩, fun h => (by cases h), fun h => absurd h (by decide), vB5_load_0, rfl⟩
theorem am_g_136 : am_gd 136 (5, yX5_set, cX5_set, 4, (some .int), false, B5_set_0) := ⟨rfl, rfl, by decide, am_cw_X5_set, by decide, ⟨by decide, by decide⟩, fun h => (by cases h), fun h => absurd h (by decide), vB5_set_0, rfl⟩
theorem am_g_137 : am_gd 137 (5, yX5_swap, cX5_swap, 4, (some .int), false, B5_swap_0) := ⟨rfl, rfl, by decide, am_cw_X5_swap, by decide, ⟨by decide, by decide⟩, fun h => (by cases h), fun h => absurd h (by decide), vB5_swap_0, rfl⟩
theorem am_g_138 : am_gd 138 (5, yX5_push, cX5_push, 4, (some .int), false, B5_push_0) := ⟨rfl, rfl, by decide, am_cw_X5_push, by decide, ⟨by decide, by decide⟩, fun h => (by cases h), fun h => absurd h (by decide), vB5_push_0, rfl⟩
theorem am_g_139 : am_gd 139 (5, yX5_pop, cX5_pop, 6, (some .int), false, B5_pop_0) := ⟨rfl, rfl, by decide, am_cw_X5_pop, by decide, ⟨by decide, by decide⟩, fun h => (by cases h), fun h => absurd h (by decide), vB5_pop_0, rfl⟩
theorem am_g_140 : am_gd 140 (5, yX5_enter, cX5_enter, 3, (some .int), false, B5_enter_0) := ⟨rfl, rfl, by decide, am_cw_X5_enter, by decide, ⟨by decide, by decide⟩, fun h => (by cases h), fun h => absurd h (by decide), vB5_enter_0, rfl⟩
theorem am_g_141 : am_gd 141 (5, yX5_empty, cX5_empty, 2, none, false, B5_empty_0) := ⟨rfl, rfl, by decide, am_cw_X5_empty, by decide, ⟨by decide, by decide⟩, fun h => (by cases h), fun h => absurd h (by decide), vB5_empty_0, rfl⟩
theorem am_g_142 : am_gd 142 (5, yX5_leave, cX5_leave, 4, (some .int), false, B5_leave_0) := ⟨rfl, rfl, by decide, am_cw_X5_leave, by decide, ⟨by decide, by decide⟩, fun h => (by cases h), fun h => absurd h (by decide), vB5_leave_0, rfl⟩
theorem am_g_143 : am_gd 143 (5, yX5_fail, cX5_fail, 2, (some .int), false, B5_fail_0) := ⟨rfl, rfl, by decide, am_cw_X5_fail, by decide, ⟨by decide, by decide⟩, fun h => (by cases h), fun h => absurd h (by decide), vB5_fail_0, rfl⟩
theorem am_g_144 : am_gd 144 (5, yX5_shape, cX5_shape, 4, (some .int), false, B5_shape_0) := ⟨rfl, rfl, by decide, am_cw_X5_shape, by decide, ⟨by decide, by decide⟩, fun h => (by cases h), fun h => absurd h (by decide), vB5_shape_0, rfl⟩
theorem am_g_145 : am_gd 145 (5, yX5_look, cX5_look, 4, (some .long), false, B5_look_0) := ⟨rfl, rfl, by decide, am_cw_X5_look, by decide, ⟨by decide, by decide⟩, fun h => (by cases h), fun h => absurd h (by decide), vB5_look_0, rfl⟩
theorem am_g_146 : am_gd 146 (5, yX5_state, cX5_state, 4, (some .int), false, B5_state_0) := ⟨rfl, rfl, by decide, am_cw_X5_state, by decide, ⟨by decide, by decide⟩, fun h => (by cases h), fun h => absurd h (by decide), vB5_state_0, rfl⟩
theorem am_g_147 : am_gd 147 (5, yX5_out, cX5_out, 2, (some .long), false, B5_out_0) := ⟨rfl, rfl, by decide, am_cw_X5_out, by decide, ⟨by decide, by decide⟩, fun h => (by cases h), fun h => absurd h (by decide), vB5_out_0, rfl⟩
theorem am_g_148 : am_gd 148 (5, yX5_count, cX5_count, 4, (some .int), false, B5_count_0) := ⟨rfl, rfl, by decide, am_cw_X5_count, by decide, ⟨by decide, by decide⟩, fun h => (by cases h), fun h => absurd h (by decide), vB5_count_0, rfl⟩
def am_ag : Nat → List am_Q → Prop
  | _, [] => True
  | j, q :: r => am_gd j q ∧ am_ag (j + 1) r
theorem am_ag_at : ∀ (l : List am_Q) (i : Nat), am_ag i l → ∀ (j : Nat) (q : am_Q), l[j]? = some q → am_gd (i + j) q
  | [], _, _, j, q, h => by simp at h
  | x :: r, i, ha, 0, q, h => by simp at h; subst h; exact ha.1
  | x :: r, i, ha, j + 1, q, h => by rw [show i + (j + 1) = i + 1 + j by omega]; exact am_ag_at r (i + 1) ha.2 j q (by simpa using h)
theorem am_ag_app : ∀ (l r : List am_Q) (i : Nat), am_ag i l → am_ag (i + l.length) r → am_ag i (l ++ r)
  | [], r, i, _, h => by simpa using h
  | x :: l, r, i, h1, h2 => ⟨h1.1, am_ag_app l r (i + 1) h1.2 (by rw [show i + 1 + l.length = i + (x :: l).length by simp; omega]; exact h2)⟩
set_option maxRecDepth 100000 in
theorem am_ms_ag : am_ag 0 am_ms := ⟨am_g_0, am_g_1, am_g_2, am_g_3, am_g_4, am_g_5, am_g_6, am_g_7, am_g_8, am_g_9, am_g_10, am_g_11, am_g_12, am_g_13, am_g_14, am_g_15, am_g_16, am_g_17, am_g_18, am_g_19, am_g_20, am_g_21, am_g_22, am_g_23, am_g_24, am_g_25, am_g_26, am_g_27, am_g_28, am_g_29, am_g_30, am_g_31, am_g_32, am_g_33, am_g_34, am_g_35, am_g_36, am_g_37, am_g_38, am_g_39, am_g_40, am_g_41, am_g_42, am_g_43, am_g_44, am_g_45, am_g_46, am_g_47, am_g_48, am_g_49, am_g_50, am_g_51, am_g_52, am_g_53, am_g_54, am_g_55, am_g_56, am_g_57, am_g_58, am_g_59, am_g_60, am_g_61, am_g_62, am_g_63, am_g_64, am_g_65, am_g_66, am_g_67, am_g_68, am_g_69, am_g_70, am_g_71, am_g_72, am_g_73, am_g_74, am_g_75, am_g_76, am_g_77, am_g_78, am_g_79, am_g_80, am_g_81, am_g_82, am_g_83, am_g_84, am_g_85, am_g_86, am_g_87, am_g_88, am_g_89, am_g_90, am_g_91, am_g_92, am_g_93, am_g_94, am_g_95, am_g_96, am_g_97, am_g_98, am_g_99, am_g_100, am_g_101, am_g_102, am_g_103, am_g_104, am_g_105, am_g_106, am_g_107, am_g_108, am_g_109, am_g_110, am_g_111, am_g_112, am_g_113, am_g_114, am_g_115, am_g_116, am_g_117, am_g_118, am_g_119, am_g_120, am_g_121, am_g_122, am_g_123, am_g_124, am_g_125, am_g_126, am_g_127, am_g_128, am_g_129, am_g_130, am_g_131, am_g_132, am_g_133, am_g_134, am_g_135, am_g_136, am_g_137, am_g_138, am_g_139, am_g_140, am_g_141, am_g_142, am_g_143, am_g_144, am_g_145, am_g_146, am_g_147, am_g_148, trivial⟩
theorem am_ms_ok (j : Nat) (q : am_Q) (h : am_ms[j]? = some q) : am_gd j q := by
  have h1 := am_ag_at am_ms 0 am_ms_ag j q h
  rwa [Nat.zero_add] at h1
noncomputable def ev : Nat → am_F := am_ev am_ms
