/-! the tables of the machine of positions: methods, and what a place of a constant pool means (by program, out of the Statement's words) -/
def rx_tab : List (ByteArray × MethodName × Nat × Option FieldType) := [
  (cX0_init, yX0_init, 2, none),
  (cX0_has, yX0_has, 2, (some .boolean)),
  (cX0_isThere, yX0_isThere, 2, (some .boolean)),
  (cX0_is, yX0_is, 3, (some .boolean)),
  (cX0_kindOf, yX0_kindOf, 2, (some .int)),
  (cX0_lengthOf, yX0_lengthOf, 2, (some .int)),
  (cX0_hasByte, yX0_hasByte, 3, (some .boolean)),
  (cX0_get, yX0_get, 3, (some .int)),
  (cX0_remove, yX0_remove, 2, none),
  (cX0_makeEmpty, yX0_makeEmpty, 3, none),
  (cX0_append, yX0_append, 4, (some .boolean)),
  (cX1_init, yX1_init, 1, none),
  (cX1_length, yX1_length, 1, (some .int)),
  (cX1_get, yX1_get, 2, (some .int)),
  (cX1_clear, yX1_clear, 1, none),
  (cX1_add, yX1_add, 2, none),
  (cX2_init, yX2_init, 1, none),
  (cX2_rows, yX2_rows, 1, (some .int)),
  (cX2_has, yX2_has, 2, (some .boolean)),
  (cX2_kindOf, yX2_kindOf, 2, (some .int)),
  (cX2_numberOf, yX2_numberOf, 2, (some .int)),
  (cX2_add, yX2_add, 3, none),
  (cX3_init, yX3_init, 1, none),
  (cX3_has, yX3_has, 2, (some .boolean)),
  (cX3_hasAll, yX3_hasAll, 3, (some .boolean)),
  (cX3_get, yX3_get, 2, (some .int)),
  (cX3_set, yX3_set, 3, none),
  (cX3_setTwo, yX3_setTwo, 3, none),
  (cX3_bit, yX3_bit, 1, (some .int)),
  (cX3_setBit, yX3_setBit, 2, none),
  (cX4_init, yX4_init, 1, none),
  (cX4_canBeReady, yX4_canBeReady, 1, (some .boolean)),
  (cX4_playing, yX4_playing, 1, (some .int)),
  (cX4_turnsLeft, yX4_turnsLeft, 1, (some .int)),
  (cX4_routineCalled, yX4_routineCalled, 1, (some .int)),
  (cX4_readiness, yX4_readiness, 2, (some .int)),
  (cX4_prepare, yX4_prepare, 2, (some .int)),
  (cX4_begin, yX4_begin, 5, (some .int)),
  (cX4_stop, yX4_stop, 3, (some .int)),
  (cX4_release, yX4_release, 4, (some .int)),
  (cX4_endTurn, yX4_endTurn, 3, (some .int)),
  (cX4_makeReady, yX4_makeReady, 3, none),
  (cX5_init, yX5_init, 2, none),
  (cX5_waiting, yX5_waiting, 1, (some .int)),
  (cX5_isFull, yX5_isFull, 1, (some .boolean)),
  (cX5_contains, yX5_contains, 3, (some .boolean)),
  (cX5_add, yX5_add, 2, none),
  (cX5_take, yX5_take, 3, (some .int)),
  (cX6_init, yX6_init, 1, none),
  (cX6_isOn, yX6_isOn, 1, (some .boolean)),
  (cX6_turn, yX6_turn, 2, none),
  (cX6_came, yX6_came, 1, (some .int)),
  (cX6_add, yX6_add, 2, none),
  (cX6_before, yX6_before, 2, (some .int)),
  (cX7_init, yX7_init, 2, none),
  (cX7_open, yX7_open, 1, (some .int)),
  (cX7_isFull, yX7_isFull, 1, (some .boolean)),
  (cX7_has, yX7_has, 2, (some .boolean)),
  (cX7_addressOf, yX7_addressOf, 2, (some .int)),
  (cX7_countOf, yX7_countOf, 2, (some .int)),
  (cX7_push, yX7_push, 2, none),
  (cX7_pop, yX7_pop, 1, none),
  (cX7_countOneMore, yX7_countOneMore, 1, none),
  (cX8_init, yX8_init, 2, none),
  (cX8_choose, yX8_choose, 4, (some .int)),
  (cX8_sign, yX8_sign, 2, (some .int)),
  (cX8_depth, yX8_depth, 1, (some .int)),
  (cX8_table, yX8_table, 3, (some .int)),
  (cX8_shown, yX8_shown, 2, (some .int)),
  (cX8_transcript, yX8_transcript, 3, (some .int)),
  (cX8_peek, yX8_peek, 2, (some .int)),
  (cX8_poke, yX8_poke, 4, (some .int)),
  (cX8_answer, yX8_answer, 2, (some .int)),
  (cX8_fileOf, yX8_fileOf, 3, (some .int)),
  (cX8_byteOf, yX8_byteOf, 3, (some .int)),
  (cX8_drop, yX8_drop, 2, (some .int)),
  (cX8_save, yX8_save, 5, (some .int)),
  (cX8_load, yX8_load, 6, (some .int)),
  (cX8_type, yX8_type, 2, (some .int)),
  (cX8_source, yX8_source, 3, (some .int)),
  (cX8_line, yX8_line, 3, (some .int)),
  (cX8_lineAt, yX8_lineAt, 2, (some .int)),
  (cX8_sound, yX8_sound, 5, (some .int)),
  (cX8_ended, yX8_ended, 1, (some .int)),
  (cX8_sounds, yX8_sounds, 2, (some .int)),
  (cX8_order, yX8_order, 3, (some .int)),
  (cX8_told, yX8_told, 2, (some .int)),
  (cX8_hasStream, yX8_hasStream, 3, (some .boolean)),
  (cX8_turnTranscriptOn, yX8_turnTranscriptOn, 2, (some .int)),
  (cX8_turnTranscriptOff, yX8_turnTranscriptOff, 1, (some .int)),
  (cX8_openTable, yX8_openTable, 2, (some .int)),
  (cX8_closeTable, yX8_closeTable, 3, (some .int)),
  (cX8_turnCommandsOn, yX8_turnCommandsOn, 2, (some .int)),
  (cX8_turnCommandsOff, yX8_turnCommandsOff, 1, (some .int)),
  (cX8_ask, yX8_ask, 2, (some .int)),
  (cX8_giveTranscriptFile, yX8_giveTranscriptFile, 2, (some .int)),
  (cX8_faultOfLoad, yX8_faultOfLoad, 4, (some .int)),
  (cX8_isSign, yX8_isSign, 1, (some .boolean)),
  (cX8_writeIntoTable, yX8_writeIntoTable, 4, (some .int)),
  (cX8_show, yX8_show, 3, (some .int)),
  (cX8_writeToTranscript, yX8_writeToTranscript, 3, (some .boolean)),
  (cX8_writeToCommands, yX8_writeToCommands, 2, none),
  (cX8_writeBehind, yX8_writeBehind, 4, (some .boolean)),
  (cX8_endSpentSource, yX8_endSpentSource, 1, none),
  (cX8_readTyped, yX8_readTyped, 4, none),
  (cX8_readFile, yX8_readFile, 5, none),
  (cX8_echoLine, yX8_echoLine, 5, none),
  (cX9_init, yX9_init, 3, none),
  (cX9_out, yX9_out, 3, (some .boolean)),
  (cX9_isSign, yX9_isSign, 1, (some .boolean)),
  (cX9_row, yX9_row, 3, none),
  (cX9_ask, yX9_ask, 3, (some .int)),
  (cX9_fresh, yX9_fresh, 2, none),
  (cX9_append, yX9_append, 3, (some .boolean)),
  (cX9_getFile, yX9_getFile, 2, (some .int)),
  (cX9_choose, yX9_choose, 6, (some .int)),
  (cX9_open, yX9_open, 2, (some .int)),
  (cX9_close, yX9_close, 1, (some .int)),
  (cX9_plain, yX9_plain, 4, (some .int)),
  (cX9_sign, yX9_sign, 3, (some .int)),
  (cX9_depth, yX9_depth, 1, (some .int)),
  (cX9_table, yX9_table, 3, (some .int)),
  (cX9_shown, yX9_shown, 2, (some .int)),
  (cX9_transcript, yX9_transcript, 3, (some .int)),
  (cX9_peek, yX9_peek, 2, (some .int)),
  (cX9_poke, yX9_poke, 4, (some .int)),
  (cX9_answer, yX9_answer, 2, (some .int)),
  (cX9_fileOf, yX9_fileOf, 3, (some .int)),
  (cX9_byteOf, yX9_byteOf, 3, (some .int)),
  (cX9_drop, yX9_drop, 3, (some .int)),
  (cX9_beyond, yX9_beyond, 2, (some .boolean)),
  (cX9_save, yX9_save, 5, (some .int)),
  (cX9_load, yX9_load, 5, (some .int)),
  (cX9_type, yX9_type, 2, (some .int)),
  (cX9_source, yX9_source, 3, (some .int)),
  (cX9_line, yX9_line, 8, (some .int)),
  (cX9_lineAt, yX9_lineAt, 2, (some .int)),
  (cX9_stop, yX9_stop, 1, none),
  (cX9_sound, yX9_sound, 7, (some .int)),
  (cX9_ended, yX9_ended, 2, (some .int)),
  (cX9_sounds, yX9_sounds, 2, (some .int)),
  (cX9_order, yX9_order, 3, (some .int)),
  (cX9_told, yX9_told, 2, (some .int)),
  (cJ9_floorMod_7cf53, yJ9_floorMod_7cf53, 3, (some .int)),
  (cJ9_max_7cf53, yJ9_max_7cf53, 2, (some .int)),
  (cJ9_min_7cf53, yJ9_min_7cf53, 2, (some .int)),
  (cL_cell, yL_cell, 2, (some .int)),
  (cL_law, yL_law, 4, (some .boolean))]
/-- owner, arguments, frames, locals, cells, slots, 1 for a constructor -/
def rx_num : List (Nat × Nat × Nat × Nat × Nat × Nat × Nat) := [
  (0, 1, 1, 20, 9, 2418, 1),
  (0, 2, 0, 0, 0, 0, 0),
  (0, 2, 1, 21, 0, 0, 0),
  (0, 3, 1, 21, 0, 0, 0),
  (0, 2, 1, 21, 0, 0, 0),
  (0, 2, 1, 21, 0, 0, 0),
  (0, 3, 2, 42, 0, 0, 0),
  (0, 3, 3, 64, 0, 0, 0),
  (0, 2, 2, 43, 0, 0, 0),
  (0, 3, 1, 21, 0, 0, 0),
  (0, 4, 1, 21, 0, 0, 0),
  (1, 1, 1, 20, 1, 40, 1),
  (1, 1, 0, 0, 0, 0, 0),
  (1, 2, 0, 0, 0, 0, 0),
  (1, 1, 0, 0, 0, 0, 0),
  (1, 2, 0, 0, 0, 0, 0),
  (2, 1, 1, 20, 2, 400, 1),
  (2, 1, 0, 0, 0, 0, 0),
  (2, 2, 0, 0, 0, 0, 0),
  (2, 2, 1, 21, 0, 0, 0),
  (2, 2, 1, 21, 0, 0, 0),
  (2, 3, 0, 0, 0, 0, 0),
  (3, 1, 1, 20, 1, 2000, 1),
  (3, 2, 0, 0, 0, 0, 0),
  (3, 3, 0, 0, 0, 0, 0),
  (3, 2, 1, 21, 0, 0, 0),
  (3, 3, 1, 21, 0, 0, 0),
  (3, 3, 2, 43, 0, 0, 0),
  (3, 1, 0, 0, 0, 0, 0),
  (3, 2, 0, 0, 0, 0, 0),
  (4, 1, 1, 20, 1, 10, 1),
  (4, 1, 0, 0, 0, 0, 0),
  (4, 1, 0, 0, 0, 0, 0),
  (4, 1, 0, 0, 0, 0, 0),
  (4, 1, 0, 0, 0, 0, 0),
  (4, 2, 1, 20, 0, 0, 0),
  (4, 2, 2, 42, 0, 0, 0),
  (4, 5, 2, 44, 0, 0, 0),
  (4, 3, 1, 22, 0, 0, 0),
  (4, 3, 2, 44, 0, 0, 0),
  (4, 2, 2, 44, 0, 0, 0),
  (4, 3, 1, 20, 0, 0, 0),
  (5, 2, 1, 21, 1, 60, 1),
  (5, 1, 0, 0, 0, 0, 0),
  (5, 1, 0, 0, 0, 0, 0),
  (5, 2, 0, 0, 0, 0, 0),
  (5, 2, 1, 20, 0, 0, 0),
  (5, 1, 0, 0, 0, 0, 0),
  (6, 1, 1, 20, 1, 100, 1),
  (6, 1, 0, 0, 0, 0, 0),
  (6, 2, 0, 0, 0, 0, 0),
  (6, 1, 0, 0, 0, 0, 0),
  (6, 2, 1, 22, 0, 0, 0),
  (6, 2, 1, 22, 0, 0, 0),
  (7, 2, 1, 21, 2, 32, 1),
  (7, 1, 0, 0, 0, 0, 0),
  (7, 1, 0, 0, 0, 0, 0),
  (7, 2, 0, 0, 0, 0, 0),
  (7, 2, 1, 21, 0, 0, 0),
  (7, 2, 1, 21, 0, 0, 0),
  (7, 2, 1, 20, 0, 0, 0),
  (7, 1, 0, 0, 0, 0, 0),
  (7, 1, 0, 0, 0, 0, 0),
  (8, 2, 2, 42, 28, 5144, 1),
  (8, 4, 4, 87, 0, 0, 0),
  (8, 2, 5, 111, 0, 0, 0),
  (8, 1, 1, 20, 0, 0, 0),
  (8, 3, 2, 42, 0, 0, 0),
  (8, 2, 2, 43, 0, 0, 0),
  (8, 2, 1, 21, 0, 0, 0),
  (8, 2, 2, 42, 0, 0, 0),
  (8, 3, 2, 43, 0, 0, 0),
  (8, 2, 2, 41, 0, 0, 0),
  (8, 3, 2, 42, 0, 0, 0),
  (8, 3, 4, 86, 0, 0, 0),
  (8, 2, 3, 64, 0, 0, 0),
  (8, 3, 2, 44, 0, 0, 0),
  (8, 3, 4, 86, 0, 0, 0),
  (8, 2, 2, 41, 0, 0, 0),
  (8, 2, 2, 43, 0, 0, 0),
  (8, 2, 6, 135, 0, 0, 0),
  (8, 2, 1, 21, 0, 0, 0),
  (8, 5, 3, 68, 0, 0, 0),
  (8, 1, 3, 66, 0, 0, 0),
  (8, 2, 2, 41, 0, 0, 0),
  (8, 3, 2, 42, 0, 0, 0),
  (8, 2, 1, 20, 0, 0, 0),
  (8, 2, 0, 0, 0, 0, 0),
  (8, 1, 3, 64, 0, 0, 0),
  (8, 1, 1, 21, 0, 0, 0),
  (8, 2, 2, 41, 0, 0, 0),
  (8, 1, 3, 65, 0, 0, 0),
  (8, 1, 2, 43, 0, 0, 0),
  (8, 1, 0, 0, 0, 0, 0),
  (8, 1, 1, 22, 0, 0, 0),
  (8, 1, 2, 43, 0, 0, 0),
  (8, 4, 2, 43, 0, 0, 0),
  (8, 1, 0, 0, 0, 0, 0),
  (8, 2, 2, 43, 0, 0, 0),
  (8, 2, 4, 89, 0, 0, 0),
  (8, 2, 3, 67, 0, 0, 0),
  (8, 2, 3, 67, 0, 0, 0),
  (8, 3, 2, 44, 0, 0, 0),
  (8, 1, 2, 43, 0, 0, 0),
  (8, 2, 1, 22, 0, 0, 0),
  (8, 2, 4, 86, 0, 0, 0),
  (8, 2, 5, 111, 0, 0, 0),
  (9, 2, 1, 20, 13, 5062, 1),
  (9, 3, 0, 0, 0, 0, 0),
  (9, 1, 1, 22, 0, 0, 0),
  (9, 3, 0, 0, 0, 0, 0),
  (9, 1, 1, 22, 0, 0, 0),
  (9, 2, 1, 22, 0, 0, 0),
  (9, 3, 0, 0, 0, 0, 0),
  (9, 1, 2, 44, 0, 0, 0),
  (9, 4, 3, 65, 0, 0, 0),
  (9, 2, 1, 22, 0, 0, 0),
  (9, 1, 1, 22, 0, 0, 0),
  (9, 2, 3, 65, 0, 0, 0),
  (9, 2, 4, 88, 0, 0, 0),
  (9, 1, 0, 0, 0, 0, 0),
  (9, 3, 1, 22, 0, 0, 0),
  (9, 2, 1, 22, 0, 0, 0),
  (9, 2, 0, 0, 0, 0, 0),
  (9, 2, 1, 22, 0, 0, 0),
  (9, 3, 1, 22, 0, 0, 0),
  (9, 2, 1, 22, 0, 0, 0),
  (9, 3, 1, 22, 0, 0, 0),
  (9, 3, 1, 22, 0, 0, 0),
  (9, 2, 1, 22, 0, 0, 0),
  (9, 2, 0, 0, 0, 0, 0),
  (9, 3, 2, 44, 0, 0, 0),
  (9, 3, 2, 44, 0, 0, 0),
  (9, 2, 2, 42, 0, 0, 0),
  (9, 2, 2, 44, 0, 0, 0),
  (9, 2, 4, 88, 0, 0, 0),
  (9, 2, 1, 22, 0, 0, 0),
  (9, 1, 1, 22, 0, 0, 0),
  (9, 5, 2, 42, 0, 0, 0),
  (9, 1, 2, 42, 0, 0, 0),
  (9, 2, 1, 22, 0, 0, 0),
  (9, 3, 1, 22, 0, 0, 0),
  (9, 2, 0, 0, 0, 0, 0),
  (10, 2, 0, 0, 0, 0, 0),
  (10, 2, 0, 0, 0, 0, 0),
  (10, 2, 0, 0, 0, 0, 0),
  (11, 2, 0, 0, 0, 0, 0),
  (11, 1, 7, 157, 600000, 7302250, 0)]
def rx_ons : List String := ["ZStreams$Files", "ZStreams$Line", "ZStreams$Log", "ZStreams$Memory", "ZStreams$Player", "ZStreams$Queue", "ZStreams$Screen", "ZStreams$Tables", "ZStreams", "ZStreamsModel", "java/lang/Math", "ZStreamsLaw"]
def rx_row (i : Nat) : ByteArray × MethodName × Nat × Option FieldType := rx_tab.getD i (⟨#[]⟩, ⟨"", "", ""⟩, 0, none)
def rx_nrw (i : Nat) : Nat × Nat × Nat × Nat × Nat × Nat × Nat := rx_num.getD i (0, 0, 0, 0, 0, 0, 0)
abbrev rx_cd (i : Nat) : ByteArray := (rx_row i).1
abbrev rx_y (i : Nat) : MethodName := (rx_row i).2.1
abbrev rx_ml (i : Nat) : Nat := (rx_row i).2.2.1
abbrev rx_rt (i : Nat) : Option FieldType := (rx_row i).2.2.2
abbrev rx_ow (i : Nat) : Nat := (rx_nrw i).1
abbrev rx_na (i : Nat) : Nat := (rx_nrw i).2.1
abbrev rx_fr (i : Nat) : Nat := (rx_nrw i).2.2.1
abbrev rx_lo (i : Nat) : Nat := (rx_nrw i).2.2.2.1
abbrev rx_mc (i : Nat) : Nat := (rx_nrw i).2.2.2.2.1
abbrev rx_ms (i : Nat) : Nat := (rx_nrw i).2.2.2.2.2.1
abbrev rx_ini (i : Nat) : Nat := (rx_nrw i).2.2.2.2.2.2
def rx_on (o : Nat) : String := rx_ons.getD o ""
/-- (owner, place): class, slot, kind (0 int, 1 boolean, 2 a reference), 1 for a final one -/
def rx_fl : List ((Nat × Nat) × (Nat × Nat × Nat × Nat)) := [
  ((0, 11), (0, 0, 2, 1)),
  ((0, 15), (0, 1, 2, 1)),
  ((0, 20), (0, 2, 2, 1)),
  ((1, 11), (1, 0, 2, 1)),
  ((1, 15), (1, 1, 0, 0)),
  ((2, 11), (2, 0, 2, 1)),
  ((2, 15), (2, 1, 2, 1)),
  ((2, 18), (2, 2, 0, 0)),
  ((3, 9), (3, 0, 2, 1)),
  ((4, 11), (4, 0, 2, 1)),
  ((4, 15), (4, 1, 0, 0)),
  ((4, 19), (4, 2, 0, 0)),
  ((4, 22), (4, 3, 0, 0)),
  ((5, 15), (5, 0, 2, 1)),
  ((5, 21), (5, 1, 0, 0)),
  ((6, 11), (6, 0, 2, 1)),
  ((6, 15), (6, 2, 1, 0)),
  ((6, 19), (6, 1, 0, 0)),
  ((7, 9), (7, 1, 2, 1)),
  ((7, 13), (7, 2, 2, 1)),
  ((7, 22), (7, 0, 0, 1)),
  ((7, 26), (7, 3, 0, 0)),
  ((8, 18), (8, 0, 0, 1)),
  ((8, 25), (8, 1, 2, 1)),
  ((8, 32), (8, 2, 2, 1)),
  ((8, 41), (8, 3, 2, 1)),
  ((8, 45), (8, 4, 2, 1)),
  ((8, 51), (8, 5, 2, 1)),
  ((8, 58), (8, 6, 2, 1)),
  ((8, 65), (8, 7, 2, 1)),
  ((8, 72), (8, 8, 2, 1)),
  ((8, 79), (8, 9, 2, 1)),
  ((8, 83), (8, 10, 0, 0)),
  ((8, 86), (8, 11, 0, 0)),
  ((8, 89), (8, 12, 0, 0)),
  ((8, 207), (8, 13, 0, 0)),
  ((8, 273), (8, 14, 0, 0)),
  ((8, 276), (8, 15, 0, 0)),
  ((8, 279), (8, 16, 0, 0)),
  ((8, 282), (8, 17, 0, 0)),
  ((9, 7), (9, 1, 2, 1)),
  ((9, 13), (9, 2, 2, 1)),
  ((9, 16), (9, 3, 2, 1)),
  ((9, 19), (9, 4, 2, 1)),
  ((9, 22), (9, 5, 2, 1)),
  ((9, 25), (9, 7, 1, 0)),
  ((9, 29), (9, 8, 0, 0)),
  ((9, 33), (9, 9, 0, 0)),
  ((9, 36), (9, 10, 2, 1)),
  ((9, 39), (9, 11, 2, 1)),
  ((9, 42), (9, 13, 2, 1)),
  ((9, 45), (9, 19, 2, 1)),
  ((9, 48), (9, 21, 0, 0)),
  ((9, 51), (9, 23, 2, 1)),
  ((9, 54), (9, 25, 2, 1)),
  ((9, 58), (9, 26, 0, 0)),
  ((9, 61), (9, 29, 2, 1)),
  ((9, 64), (9, 30, 2, 1)),
  ((9, 67), (9, 0, 0, 1)),
  ((9, 74), (9, 31, 0, 0)),
  ((9, 77), (9, 6, 0, 0)),
  ((9, 84), (9, 18, 0, 0)),
  ((9, 105), (9, 12, 0, 0)),
  ((9, 108), (9, 14, 0, 0)),
  ((9, 115), (9, 15, 0, 0)),
  ((9, 125), (9, 16, 0, 0)),
  ((9, 133), (9, 20, 0, 0)),
  ((9, 136), (9, 22, 0, 0)),
  ((9, 139), (9, 24, 0, 0)),
  ((9, 142), (9, 17, 0, 0)),
  ((9, 145), (9, 27, 0, 0)),
  ((9, 148), (9, 28, 0, 0))]
def rx_fwd (q : (Nat × Nat) × (Nat × Nat × Nat × Nat)) : Cond := .fieldLink (rx_on q.1.1) q.1.2 (rx_on q.2.1) (((vwCl.getD q.2.1 ("", fun _ => ("", "", "", false), 0)).2.1 q.2.2.1).2.1) (((vwCl.getD q.2.1 ("", fun _ => ("", "", "", false), 0)).2.1 q.2.2.1).2.2.1)
def rx_fps : List Nat := [74, 75, 76, 140, 141, 153, 154, 155, 61, 169, 170, 171, 172, 91, 92, 124, 126, 125, 106, 107, 105, 108, 183, 184, 185, 186, 187, 188, 189, 190, 191, 192, 193, 194, 195, 196, 197, 198, 199, 200, 657, 658, 659, 660, 661, 663, 664, 665, 666, 667, 669, 675, 677, 679, 681, 682, 685, 686, 656, 687, 662, 674, 668, 670, 671, 672, 676, 678, 680, 673, 683, 684]
/-- (owner, place): method, kind (0 virtual, 1 static, 2 constructor, 3 a nest mate's constructor, 4 Object's) -/
def rx_mll : List ((Nat × Nat) × (Nat × Nat)) := [
  ((0, 3), (0, 4)),
  ((0, 23), (1, 0)),
  ((0, 27), (5, 0)),
  ((0, 31), (6, 0)),
  ((0, 35), (9, 0)),
  ((1, 3), (0, 4)),
  ((2, 3), (0, 4)),
  ((2, 22), (18, 0)),
  ((3, 1), (0, 4)),
  ((3, 13), (23, 0)),
  ((3, 17), (26, 0)),
  ((4, 3), (0, 4)),
  ((4, 25), (31, 1)),
  ((4, 29), (41, 0)),
  ((4, 33), (38, 0)),
  ((4, 37), (144, 1)),
  ((4, 43), (21, 0)),
  ((4, 49), (35, 0)),
  ((5, 3), (0, 4)),
  ((5, 9), (144, 1)),
  ((5, 25), (44, 0)),
  ((6, 3), (0, 4)),
  ((6, 23), (143, 1)),
  ((7, 1), (0, 4)),
  ((7, 16), (145, 1)),
  ((7, 29), (57, 0)),
  ((7, 33), (56, 0)),
  ((8, 1), (0, 4)),
  ((8, 9), (145, 1)),
  ((8, 15), (144, 1)),
  ((8, 24), (22, 3)),
  ((8, 31), (0, 2)),
  ((8, 38), (42, 2)),
  ((8, 50), (54, 2)),
  ((8, 57), (48, 3)),
  ((8, 64), (11, 3)),
  ((8, 71), (16, 3)),
  ((8, 78), (30, 3)),
  ((8, 92), (87, 0)),
  ((8, 96), (50, 0)),
  ((8, 100), (88, 0)),
  ((8, 104), (89, 0)),
  ((8, 107), (90, 0)),
  ((8, 111), (91, 0)),
  ((8, 114), (92, 0)),
  ((8, 117), (93, 0)),
  ((8, 120), (97, 1)),
  ((8, 123), (55, 0)),
  ((8, 126), (98, 0)),
  ((8, 129), (99, 0)),
  ((8, 132), (57, 0)),
  ((8, 135), (58, 0)),
  ((8, 138), (59, 0)),
  ((8, 141), (53, 0)),
  ((8, 144), (28, 0)),
  ((8, 147), (29, 0)),
  ((8, 150), (23, 0)),
  ((8, 151), (25, 0)),
  ((8, 154), (26, 0)),
  ((8, 158), (1, 0)),
  ((8, 159), (44, 0)),
  ((8, 163), (46, 0)),
  ((8, 166), (43, 0)),
  ((8, 169), (4, 0)),
  ((8, 172), (5, 0)),
  ((8, 175), (6, 0)),
  ((8, 179), (7, 0)),
  ((8, 181), (2, 0)),
  ((8, 184), (8, 0)),
  ((8, 187), (24, 0)),
  ((8, 190), (94, 0)),
  ((8, 193), (9, 0)),
  ((8, 196), (10, 0)),
  ((8, 200), (96, 0)),
  ((8, 204), (3, 0)),
  ((8, 210), (103, 0)),
  ((8, 213), (45, 0)),
  ((8, 216), (104, 0)),
  ((8, 219), (105, 0)),
  ((8, 222), (106, 0)),
  ((8, 225), (12, 0)),
  ((8, 228), (13, 0)),
  ((8, 230), (21, 0)),
  ((8, 232), (36, 0)),
  ((8, 235), (37, 0)),
  ((8, 239), (38, 0)),
  ((8, 243), (39, 0)),
  ((8, 246), (40, 0)),
  ((8, 250), (32, 0)),
  ((8, 253), (33, 0)),
  ((8, 256), (34, 0)),
  ((8, 259), (31, 1)),
  ((8, 262), (35, 0)),
  ((8, 265), (18, 0)),
  ((8, 266), (19, 0)),
  ((8, 267), (20, 0)),
  ((8, 270), (51, 0)),
  ((8, 285), (17, 0)),
  ((8, 288), (95, 0)),
  ((8, 291), (56, 0)),
  ((8, 292), (60, 0)),
  ((8, 295), (27, 0)),
  ((8, 298), (61, 0)),
  ((8, 301), (47, 0)),
  ((8, 304), (62, 0)),
  ((8, 307), (49, 0)),
  ((8, 310), (52, 0)),
  ((8, 311), (100, 0)),
  ((8, 314), (102, 0)),
  ((8, 317), (14, 0)),
  ((8, 320), (15, 0)),
  ((8, 321), (101, 0)),
  ((9, 1), (0, 4)),
  ((9, 70), (108, 1)),
  ((9, 80), (110, 0)),
  ((9, 87), (111, 0)),
  ((9, 91), (112, 0)),
  ((9, 95), (114, 0)),
  ((9, 98), (116, 0)),
  ((9, 102), (117, 0)),
  ((9, 111), (113, 0)),
  ((9, 118), (109, 1)),
  ((9, 122), (118, 0)),
  ((9, 130), (130, 1)),
  ((9, 152), (137, 0)),
  ((11, 9), (146, 1)),
  ((11, 15), (63, 2)),
  ((11, 20), (107, 2)),
  ((11, 21), (64, 0)),
  ((11, 25), (115, 0)),
  ((11, 26), (65, 0)),
  ((11, 30), (119, 0)),
  ((11, 31), (66, 0)),
  ((11, 35), (120, 0)),
  ((11, 36), (67, 0)),
  ((11, 40), (121, 0)),
  ((11, 41), (68, 0)),
  ((11, 44), (122, 0)),
  ((11, 45), (69, 0)),
  ((11, 49), (123, 0)),
  ((11, 50), (70, 0)),
  ((11, 53), (124, 0)),
  ((11, 54), (71, 0)),
  ((11, 57), (125, 0)),
  ((11, 58), (72, 0)),
  ((11, 61), (126, 0)),
  ((11, 62), (73, 0)),
  ((11, 65), (127, 0)),
  ((11, 66), (74, 0)),
  ((11, 69), (128, 0)),
  ((11, 70), (75, 0)),
  ((11, 73), (129, 0)),
  ((11, 74), (76, 0)),
  ((11, 77), (131, 0)),
  ((11, 78), (77, 0)),
  ((11, 81), (132, 0)),
  ((11, 82), (78, 0)),
  ((11, 85), (133, 0)),
  ((11, 86), (79, 0)),
  ((11, 89), (134, 0)),
  ((11, 90), (80, 0)),
  ((11, 93), (135, 0)),
  ((11, 94), (81, 0)),
  ((11, 97), (136, 0)),
  ((11, 98), (82, 0)),
  ((11, 102), (138, 0)),
  ((11, 103), (83, 0)),
  ((11, 106), (139, 0)),
  ((11, 107), (84, 0)),
  ((11, 110), (140, 0)),
  ((11, 111), (85, 0)),
  ((11, 114), (141, 0)),
  ((11, 115), (86, 0)),
  ((11, 118), (142, 0))]
def rx_mwd (q : (Nat × Nat) × (Nat × Nat)) : Cond := if q.2.2 = 4 then .methodLink (rx_on q.1.1) q.1.2 objectInit else if q.2.2 = 3 then .methodLinkNest (rx_on q.1.1) q.1.2 (rx_y q.2.1) "ZStreams" else .methodLink (rx_on q.1.1) q.1.2 (rx_y q.2.1)
def rx_mps : List Nat := [71, 274, 474, 479, 488, 139, 152, 630, 60, 339, 335, 168, 570, 566, 577, 582, 581, 588, 89, 90, 449, 123, 384, 103, 104, 323, 310, 46, 49, 52, 57, 68, 86, 100, 120, 136, 149, 165, 242, 246, 250, 290, 294, 311, 347, 351, 359, 315, 362, 372, 411, 327, 319, 416, 387, 286, 366, 428, 367, 440, 441, 445, 450, 458, 462, 470, 475, 278, 484, 302, 258, 282, 399, 497, 270, 513, 517, 521, 533, 537, 541, 545, 266, 562, 573, 583, 584, 596, 604, 608, 612, 616, 617, 622, 626, 631, 639, 643, 254, 298, 306, 331, 343, 262, 368, 376, 380, 391, 395, 525, 529, 549, 655, 757, 768, 764, 772, 760, 776, 780, 795, 788, 791, 843, 872, 647, 43, 652, 238, 753, 355, 784, 403, 799, 407, 803, 412, 807, 420, 811, 424, 815, 432, 819, 436, 823, 454, 827, 466, 831, 480, 835, 489, 839, 493, 847, 501, 851, 505, 855, 509, 859, 553, 863, 557, 867, 592, 876, 600, 880, 618, 884, 635, 888]
/-- (owner, place): the class that new makes -/
def rx_nl : List ((Nat × Nat) × Nat) := [((8, 22), 3), ((8, 29), 0), ((8, 36), 5), ((8, 48), 7), ((8, 55), 6), ((8, 62), 1), ((8, 69), 2), ((8, 76), 4), ((11, 7), 8), ((11, 18), 9)]
def rx_nps : List Nat := [55, 66, 84, 98, 118, 134, 147, 163, 41, 650]
def rx_nwd (q : (Nat × Nat) × Nat) : Cond := .classLink (rx_on q.1.1) q.1.2 (rx_on q.2)
/-- a new object's fields -/
def rx_df : List (List Value) := [[.null, .null, .null], [.null, .int 0], [.null, .null, .int 0], [.null], [.null, .int 0, .int 0, .int 0], [.null, .int 0], [.null, .int 0, .int 0], [.int 0, .null, .null, .int 0], [.int 0, .null, .null, .null, .null, .null, .null, .null, .null, .null, .int 0, .int 0, .int 0, .int 0, .int 0, .int 0, .int 0, .int 0], [.int 0, .null, .null, .null, .null, .null, .int 0, .int 0, .int 0, .int 0, .null, .null, .int 0, .null, .int 0, .int 0, .int 0, .int 0, .int 0, .null, .int 0, .int 0, .int 0, .null, .int 0, .null, .int 0, .int 0, .int 0, .null, .null, .int 0]]
def rx_kl : List ((Nat × Nat) × Int32) := [((8, 229), 65535), ((9, 151), 65535)]
def rx_kps : List Nat := [561, 871]
def rx_kwd (q : (Nat × Nat) × Int32) : Cond := .constant (rx_on q.1.1) q.1.2 q.2
def rx_k2 : List ((Nat × Nat) × Int64) := [((9, 128), 2000)]
def rx_k2ps : List Nat := [846]
def rx_k2wd (q : (Nat × Nat) × Int64) : Cond := .constantLong (rx_on q.1.1) q.1.2 q.2
def rx_cwd (i : Nat) : Cond := .code (rx_y i) (rx_cd i) (rx_ml i) (rx_rt i)
def rx_cps : List Nat := [70, 277, 281, 273, 461, 465, 473, 478, 487, 285, 402, 138, 544, 548, 528, 532, 151, 646, 625, 629, 634, 269, 59, 342, 305, 431, 338, 334, 390, 289, 167, 572, 607, 611, 615, 591, 565, 576, 580, 587, 599, 569, 88, 453, 444, 520, 448, 265, 122, 379, 249, 642, 383, 419, 102, 318, 301, 326, 330, 322, 309, 346, 371, 45, 241, 358, 406, 410, 415, 423, 427, 435, 439, 457, 469, 483, 492, 496, 504, 508, 512, 556, 560, 595, 603, 621, 638, 245, 253, 293, 297, 314, 350, 354, 261, 257, 500, 361, 365, 375, 394, 552, 398, 516, 524, 536, 540, 654, 759, 790, 771, 767, 775, 798, 763, 756, 779, 783, 794, 787, 802, 806, 810, 814, 818, 822, 826, 830, 834, 838, 845, 842, 850, 854, 858, 862, 866, 875, 870, 879, 883, 887, 891, 386, 54, 51, 649]
theorem rx_c0 : rx_cwd 0 ∈ lw_tbl := List.mem_append_right _ (List.mem_append_left _ (List.mem_of_getElem? (i := 41) rfl))
theorem rx_c1 : rx_cwd 1 ∈ lw_tbl := List.mem_append_right _ (List.mem_append_right _ (List.mem_append_left _ (List.mem_of_getElem? (i := 8) rfl)))
theorem rx_c2 : rx_cwd 2 ∈ lw_tbl := List.mem_append_right _ (List.mem_append_right _ (List.mem_append_left _ (List.mem_of_getElem? (i := 12) rfl)))
theorem rx_c3 : rx_cwd 3 ∈ lw_tbl := List.mem_append_right _ (List.mem_append_right _ (List.mem_append_left _ (List.mem_of_getElem? (i := 4) rfl)))
theorem rx_c4 : rx_cwd 4 ∈ lw_tbl := List.mem_append_right _ (List.mem_append_right _ (List.mem_append_left _ (List.mem_of_getElem? (i := 192) rfl)))
theorem rx_c5 : rx_cwd 5 ∈ lw_tbl := List.mem_append_right _ (List.mem_append_right _ (List.mem_append_left _ (List.mem_of_getElem? (i := 196) rfl)))
theorem rx_c6 : rx_cwd 6 ∈ lw_tbl := List.mem_append_right _ (List.mem_append_right _ (List.mem_append_left _ (List.mem_of_getElem? (i := 204) rfl)))
theorem rx_c7 : rx_cwd 7 ∈ lw_tbl := List.mem_append_right _ (List.mem_append_right _ (List.mem_append_left _ (List.mem_of_getElem? (i := 209) rfl)))
theorem rx_c8 : rx_cwd 8 ∈ lw_tbl := List.mem_append_right _ (List.mem_append_right _ (List.mem_append_left _ (List.mem_of_getElem? (i := 218) rfl)))
theorem rx_c9 : rx_cwd 9 ∈ lw_tbl := List.mem_append_right _ (List.mem_append_right _ (List.mem_append_left _ (List.mem_of_getElem? (i := 16) rfl)))
theorem rx_c10 : rx_cwd 10 ∈ lw_tbl := List.mem_append_right _ (List.mem_append_right _ (List.mem_append_left _ (List.mem_of_getElem? (i := 133) rfl)))
theorem rx_c11 : rx_cwd 11 ∈ lw_tbl := List.mem_append_right _ (List.mem_append_left _ (List.mem_of_getElem? (i := 109) rfl))
theorem rx_c12 : rx_cwd 12 ∈ lw_tbl := List.mem_append_right _ (List.mem_append_right _ (List.mem_append_right _ (List.mem_append_left _ (List.mem_of_getElem? (i := 35) rfl))))
theorem rx_c13 : rx_cwd 13 ∈ lw_tbl := List.mem_append_right _ (List.mem_append_right _ (List.mem_append_right _ (List.mem_append_left _ (List.mem_of_getElem? (i := 39) rfl))))
theorem rx_c14 : rx_cwd 14 ∈ lw_tbl := List.mem_append_right _ (List.mem_append_right _ (List.mem_append_right _ (List.mem_append_left _ (List.mem_of_getElem? (i := 19) rfl))))
theorem rx_c15 : rx_cwd 15 ∈ lw_tbl := List.mem_append_right _ (List.mem_append_right _ (List.mem_append_right _ (List.mem_append_left _ (List.mem_of_getElem? (i := 23) rfl))))
theorem rx_c16 : rx_cwd 16 ∈ lw_tbl := List.mem_append_right _ (List.mem_append_left _ (List.mem_of_getElem? (i := 122) rfl))
theorem rx_c17 : rx_cwd 17 ∈ lw_tbl := List.mem_append_right _ (List.mem_append_right _ (List.mem_append_right _ (List.mem_append_left _ (List.mem_of_getElem? (i := 137) rfl))))
theorem rx_c18 : rx_cwd 18 ∈ lw_tbl := List.mem_append_right _ (List.mem_append_right _ (List.mem_append_right _ (List.mem_append_left _ (List.mem_of_getElem? (i := 116) rfl))))
theorem rx_c19 : rx_cwd 19 ∈ lw_tbl := List.mem_append_right _ (List.mem_append_right _ (List.mem_append_right _ (List.mem_append_left _ (List.mem_of_getElem? (i := 120) rfl))))
theorem rx_c20 : rx_cwd 20 ∈ lw_tbl := List.mem_append_right _ (List.mem_append_right _ (List.mem_append_right _ (List.mem_append_left _ (List.mem_of_getElem? (i := 125) rfl))))
theorem rx_c21 : rx_cwd 21 ∈ lw_tbl := List.mem_append_right _ (List.mem_append_right _ (List.mem_append_left _ (List.mem_of_getElem? (i := 0) rfl)))
theorem rx_c22 : rx_cwd 22 ∈ lw_tbl := List.mem_append_right _ (List.mem_append_left _ (List.mem_of_getElem? (i := 30) rfl))
theorem rx_c23 : rx_cwd 23 ∈ lw_tbl := List.mem_append_right _ (List.mem_append_right _ (List.mem_append_left _ (List.mem_of_getElem? (i := 73) rfl)))
theorem rx_c24 : rx_cwd 24 ∈ lw_tbl := List.mem_append_right _ (List.mem_append_right _ (List.mem_append_left _ (List.mem_of_getElem? (i := 36) rfl)))
theorem rx_c25 : rx_cwd 25 ∈ lw_tbl := List.mem_append_right _ (List.mem_append_right _ (List.mem_append_left _ (List.mem_of_getElem? (i := 162) rfl)))
theorem rx_c26 : rx_cwd 26 ∈ lw_tbl := List.mem_append_right _ (List.mem_append_right _ (List.mem_append_left _ (List.mem_of_getElem? (i := 69) rfl)))
theorem rx_c27 : rx_cwd 27 ∈ lw_tbl := List.mem_append_right _ (List.mem_append_right _ (List.mem_append_left _ (List.mem_of_getElem? (i := 65) rfl)))
theorem rx_c28 : rx_cwd 28 ∈ lw_tbl := List.mem_append_right _ (List.mem_append_right _ (List.mem_append_left _ (List.mem_of_getElem? (i := 121) rfl)))
theorem rx_c29 : rx_cwd 29 ∈ lw_tbl := List.mem_append_right _ (List.mem_append_right _ (List.mem_append_left _ (List.mem_of_getElem? (i := 20) rfl)))
theorem rx_c30 : rx_cwd 30 ∈ lw_tbl := List.mem_append_right _ (List.mem_append_left _ (List.mem_of_getElem? (i := 138) rfl))
theorem rx_c31 : rx_cwd 31 ∈ lw_tbl := List.mem_append_right _ (List.mem_append_right _ (List.mem_append_right _ (List.mem_append_left _ (List.mem_of_getElem? (i := 63) rfl))))
theorem rx_c32 : rx_cwd 32 ∈ lw_tbl := List.mem_append_right _ (List.mem_append_right _ (List.mem_append_right _ (List.mem_append_left _ (List.mem_of_getElem? (i := 98) rfl))))
theorem rx_c33 : rx_cwd 33 ∈ lw_tbl := List.mem_append_right _ (List.mem_append_right _ (List.mem_append_right _ (List.mem_append_left _ (List.mem_of_getElem? (i := 102) rfl))))
theorem rx_c34 : rx_cwd 34 ∈ lw_tbl := List.mem_append_right _ (List.mem_append_right _ (List.mem_append_right _ (List.mem_append_left _ (List.mem_of_getElem? (i := 106) rfl))))
theorem rx_c35 : rx_cwd 35 ∈ lw_tbl := List.mem_append_right _ (List.mem_append_right _ (List.mem_append_right _ (List.mem_append_left _ (List.mem_of_getElem? (i := 82) rfl))))
theorem rx_c36 : rx_cwd 36 ∈ lw_tbl := List.mem_append_right _ (List.mem_append_right _ (List.mem_append_right _ (List.mem_append_left _ (List.mem_of_getElem? (i := 56) rfl))))
theorem rx_c37 : rx_cwd 37 ∈ lw_tbl := List.mem_append_right _ (List.mem_append_right _ (List.mem_append_right _ (List.mem_append_left _ (List.mem_of_getElem? (i := 67) rfl))))
theorem rx_c38 : rx_cwd 38 ∈ lw_tbl := List.mem_append_right _ (List.mem_append_right _ (List.mem_append_right _ (List.mem_append_left _ (List.mem_of_getElem? (i := 71) rfl))))
theorem rx_c39 : rx_cwd 39 ∈ lw_tbl := List.mem_append_right _ (List.mem_append_right _ (List.mem_append_right _ (List.mem_append_left _ (List.mem_of_getElem? (i := 78) rfl))))
theorem rx_c40 : rx_cwd 40 ∈ lw_tbl := List.mem_append_right _ (List.mem_append_right _ (List.mem_append_right _ (List.mem_append_left _ (List.mem_of_getElem? (i := 90) rfl))))
theorem rx_c41 : rx_cwd 41 ∈ lw_tbl := List.mem_append_right _ (List.mem_append_right _ (List.mem_append_right _ (List.mem_append_left _ (List.mem_of_getElem? (i := 60) rfl))))
theorem rx_c42 : rx_cwd 42 ∈ lw_tbl := List.mem_append_right _ (List.mem_append_left _ (List.mem_of_getElem? (i := 59) rfl))
theorem rx_c43 : rx_cwd 43 ∈ lw_tbl := List.mem_append_right _ (List.mem_append_right _ (List.mem_append_left _ (List.mem_of_getElem? (i := 184) rfl)))
theorem rx_c44 : rx_cwd 44 ∈ lw_tbl := List.mem_append_right _ (List.mem_append_right _ (List.mem_append_left _ (List.mem_of_getElem? (i := 175) rfl)))
theorem rx_c45 : rx_cwd 45 ∈ lw_tbl := List.mem_append_right _ (List.mem_append_right _ (List.mem_append_right _ (List.mem_append_left _ (List.mem_of_getElem? (i := 11) rfl))))
theorem rx_c46 : rx_cwd 46 ∈ lw_tbl := List.mem_append_right _ (List.mem_append_right _ (List.mem_append_left _ (List.mem_of_getElem? (i := 179) rfl)))
theorem rx_c47 : rx_cwd 47 ∈ lw_tbl := List.mem_append_right _ (List.mem_append_left _ (List.mem_of_getElem? (i := 236) rfl))
theorem rx_c48 : rx_cwd 48 ∈ lw_tbl := List.mem_append_right _ (List.mem_append_left _ (List.mem_of_getElem? (i := 93) rfl))
theorem rx_c49 : rx_cwd 49 ∈ lw_tbl := List.mem_append_right _ (List.mem_append_right _ (List.mem_append_left _ (List.mem_of_getElem? (i := 110) rfl)))
theorem rx_c50 : rx_cwd 50 ∈ lw_tbl := List.mem_append_right _ (List.mem_append_left _ (List.mem_of_getElem? (i := 220) rfl))
theorem rx_c51 : rx_cwd 51 ∈ lw_tbl := List.mem_append_right _ (List.mem_append_right _ (List.mem_append_right _ (List.mem_append_left _ (List.mem_of_getElem? (i := 133) rfl))))
theorem rx_c52 : rx_cwd 52 ∈ lw_tbl := List.mem_append_right _ (List.mem_append_right _ (List.mem_append_left _ (List.mem_of_getElem? (i := 114) rfl)))
theorem rx_c53 : rx_cwd 53 ∈ lw_tbl := List.mem_append_right _ (List.mem_append_right _ (List.mem_append_left _ (List.mem_of_getElem? (i := 150) rfl)))
theorem rx_c54 : rx_cwd 54 ∈ lw_tbl := List.mem_append_right _ (List.mem_append_left _ (List.mem_of_getElem? (i := 73) rfl))
theorem rx_c55 : rx_cwd 55 ∈ lw_tbl := List.mem_append_right _ (List.mem_append_right _ (List.mem_append_left _ (List.mem_of_getElem? (i := 49) rfl)))
theorem rx_c56 : rx_cwd 56 ∈ lw_tbl := List.mem_append_right _ (List.mem_append_right _ (List.mem_append_left _ (List.mem_of_getElem? (i := 32) rfl)))
theorem rx_c57 : rx_cwd 57 ∈ lw_tbl := List.mem_append_right _ (List.mem_append_right _ (List.mem_append_left _ (List.mem_of_getElem? (i := 57) rfl)))
theorem rx_c58 : rx_cwd 58 ∈ lw_tbl := List.mem_append_right _ (List.mem_append_right _ (List.mem_append_left _ (List.mem_of_getElem? (i := 61) rfl)))
theorem rx_c59 : rx_cwd 59 ∈ lw_tbl := List.mem_append_right _ (List.mem_append_right _ (List.mem_append_left _ (List.mem_of_getElem? (i := 53) rfl)))
theorem rx_c60 : rx_cwd 60 ∈ lw_tbl := List.mem_append_right _ (List.mem_append_right _ (List.mem_append_left _ (List.mem_of_getElem? (i := 40) rfl)))
theorem rx_c61 : rx_cwd 61 ∈ lw_tbl := List.mem_append_right _ (List.mem_append_right _ (List.mem_append_left _ (List.mem_of_getElem? (i := 77) rfl)))
theorem rx_c62 : rx_cwd 62 ∈ lw_tbl := List.mem_append_right _ (List.mem_append_right _ (List.mem_append_left _ (List.mem_of_getElem? (i := 102) rfl)))
theorem rx_c63 : rx_cwd 63 ∈ lw_tbl := List.mem_append_right _ (List.mem_append_left _ (List.mem_of_getElem? (i := 16) rfl))
theorem rx_c64 : rx_cwd 64 ∈ lw_tbl := List.mem_append_right _ (List.mem_append_left _ (List.mem_of_getElem? (i := 212) rfl))
theorem rx_c65 : rx_cwd 65 ∈ lw_tbl := List.mem_append_right _ (List.mem_append_right _ (List.mem_append_left _ (List.mem_of_getElem? (i := 89) rfl)))
theorem rx_c66 : rx_cwd 66 ∈ lw_tbl := List.mem_append_right _ (List.mem_append_right _ (List.mem_append_left _ (List.mem_of_getElem? (i := 137) rfl)))
theorem rx_c67 : rx_cwd 67 ∈ lw_tbl := List.mem_append_right _ (List.mem_append_right _ (List.mem_append_left _ (List.mem_of_getElem? (i := 141) rfl)))
theorem rx_c68 : rx_cwd 68 ∈ lw_tbl := List.mem_append_right _ (List.mem_append_right _ (List.mem_append_left _ (List.mem_of_getElem? (i := 146) rfl)))
theorem rx_c69 : rx_cwd 69 ∈ lw_tbl := List.mem_append_right _ (List.mem_append_right _ (List.mem_append_left _ (List.mem_of_getElem? (i := 154) rfl)))
theorem rx_c70 : rx_cwd 70 ∈ lw_tbl := List.mem_append_right _ (List.mem_append_right _ (List.mem_append_left _ (List.mem_of_getElem? (i := 158) rfl)))
theorem rx_c71 : rx_cwd 71 ∈ lw_tbl := List.mem_append_right _ (List.mem_append_right _ (List.mem_append_left _ (List.mem_of_getElem? (i := 166) rfl)))
theorem rx_c72 : rx_cwd 72 ∈ lw_tbl := List.mem_append_right _ (List.mem_append_right _ (List.mem_append_left _ (List.mem_of_getElem? (i := 170) rfl)))
theorem rx_c73 : rx_cwd 73 ∈ lw_tbl := List.mem_append_right _ (List.mem_append_right _ (List.mem_append_left _ (List.mem_of_getElem? (i := 188) rfl)))
theorem rx_c74 : rx_cwd 74 ∈ lw_tbl := List.mem_append_right _ (List.mem_append_right _ (List.mem_append_left _ (List.mem_of_getElem? (i := 200) rfl)))
theorem rx_c75 : rx_cwd 75 ∈ lw_tbl := List.mem_append_right _ (List.mem_append_right _ (List.mem_append_left _ (List.mem_of_getElem? (i := 214) rfl)))
theorem rx_c76 : rx_cwd 76 ∈ lw_tbl := List.mem_append_right _ (List.mem_append_right _ (List.mem_append_left _ (List.mem_of_getElem? (i := 223) rfl)))
theorem rx_c77 : rx_cwd 77 ∈ lw_tbl := List.mem_append_right _ (List.mem_append_right _ (List.mem_append_left _ (List.mem_of_getElem? (i := 227) rfl)))
theorem rx_c78 : rx_cwd 78 ∈ lw_tbl := List.mem_append_right _ (List.mem_append_right _ (List.mem_append_left _ (List.mem_of_getElem? (i := 235) rfl)))
theorem rx_c79 : rx_cwd 79 ∈ lw_tbl := List.mem_append_right _ (List.mem_append_right _ (List.mem_append_left _ (List.mem_of_getElem? (i := 239) rfl)))
theorem rx_c80 : rx_cwd 80 ∈ lw_tbl := List.mem_append_right _ (List.mem_append_right _ (List.mem_append_right _ (List.mem_append_left _ (List.mem_of_getElem? (i := 3) rfl))))
theorem rx_c81 : rx_cwd 81 ∈ lw_tbl := List.mem_append_right _ (List.mem_append_right _ (List.mem_append_right _ (List.mem_append_left _ (List.mem_of_getElem? (i := 47) rfl))))
theorem rx_c82 : rx_cwd 82 ∈ lw_tbl := List.mem_append_right _ (List.mem_append_right _ (List.mem_append_right _ (List.mem_append_left _ (List.mem_of_getElem? (i := 51) rfl))))
theorem rx_c83 : rx_cwd 83 ∈ lw_tbl := List.mem_append_right _ (List.mem_append_right _ (List.mem_append_right _ (List.mem_append_left _ (List.mem_of_getElem? (i := 86) rfl))))
theorem rx_c84 : rx_cwd 84 ∈ lw_tbl := List.mem_append_right _ (List.mem_append_right _ (List.mem_append_right _ (List.mem_append_left _ (List.mem_of_getElem? (i := 94) rfl))))
theorem rx_c85 : rx_cwd 85 ∈ lw_tbl := List.mem_append_right _ (List.mem_append_right _ (List.mem_append_right _ (List.mem_append_left _ (List.mem_of_getElem? (i := 112) rfl))))
theorem rx_c86 : rx_cwd 86 ∈ lw_tbl := List.mem_append_right _ (List.mem_append_right _ (List.mem_append_right _ (List.mem_append_left _ (List.mem_of_getElem? (i := 129) rfl))))
theorem rx_c87 : rx_cwd 87 ∈ lw_tbl := List.mem_append_right _ (List.mem_append_left _ (List.mem_of_getElem? (i := 216) rfl))
theorem rx_c88 : rx_cwd 88 ∈ lw_tbl := List.mem_append_right _ (List.mem_append_left _ (List.mem_of_getElem? (i := 224) rfl))
theorem rx_c89 : rx_cwd 89 ∈ lw_tbl := List.mem_append_right _ (List.mem_append_right _ (List.mem_append_left _ (List.mem_of_getElem? (i := 24) rfl)))
theorem rx_c90 : rx_cwd 90 ∈ lw_tbl := List.mem_append_right _ (List.mem_append_right _ (List.mem_append_left _ (List.mem_of_getElem? (i := 28) rfl)))
theorem rx_c91 : rx_cwd 91 ∈ lw_tbl := List.mem_append_right _ (List.mem_append_right _ (List.mem_append_left _ (List.mem_of_getElem? (i := 45) rfl)))
theorem rx_c92 : rx_cwd 92 ∈ lw_tbl := List.mem_append_right _ (List.mem_append_right _ (List.mem_append_left _ (List.mem_of_getElem? (i := 81) rfl)))
theorem rx_c93 : rx_cwd 93 ∈ lw_tbl := List.mem_append_right _ (List.mem_append_right _ (List.mem_append_left _ (List.mem_of_getElem? (i := 85) rfl)))
theorem rx_c94 : rx_cwd 94 ∈ lw_tbl := List.mem_append_right _ (List.mem_append_left _ (List.mem_of_getElem? (i := 232) rfl))
theorem rx_c95 : rx_cwd 95 ∈ lw_tbl := List.mem_append_right _ (List.mem_append_left _ (List.mem_of_getElem? (i := 228) rfl))
theorem rx_c96 : rx_cwd 96 ∈ lw_tbl := List.mem_append_right _ (List.mem_append_right _ (List.mem_append_left _ (List.mem_of_getElem? (i := 231) rfl)))
theorem rx_c97 : rx_cwd 97 ∈ lw_tbl := List.mem_append_right _ (List.mem_append_right _ (List.mem_append_left _ (List.mem_of_getElem? (i := 92) rfl)))
theorem rx_c98 : rx_cwd 98 ∈ lw_tbl := List.mem_append_right _ (List.mem_append_right _ (List.mem_append_left _ (List.mem_of_getElem? (i := 96) rfl)))
theorem rx_c99 : rx_cwd 99 ∈ lw_tbl := List.mem_append_right _ (List.mem_append_right _ (List.mem_append_left _ (List.mem_of_getElem? (i := 106) rfl)))
theorem rx_c100 : rx_cwd 100 ∈ lw_tbl := List.mem_append_right _ (List.mem_append_right _ (List.mem_append_left _ (List.mem_of_getElem? (i := 125) rfl)))
theorem rx_c101 : rx_cwd 101 ∈ lw_tbl := List.mem_append_right _ (List.mem_append_right _ (List.mem_append_right _ (List.mem_append_left _ (List.mem_of_getElem? (i := 43) rfl))))
theorem rx_c102 : rx_cwd 102 ∈ lw_tbl := List.mem_append_right _ (List.mem_append_right _ (List.mem_append_left _ (List.mem_of_getElem? (i := 129) rfl)))
theorem rx_c103 : rx_cwd 103 ∈ lw_tbl := List.mem_append_right _ (List.mem_append_right _ (List.mem_append_right _ (List.mem_append_left _ (List.mem_of_getElem? (i := 7) rfl))))
theorem rx_c104 : rx_cwd 104 ∈ lw_tbl := List.mem_append_right _ (List.mem_append_right _ (List.mem_append_right _ (List.mem_append_left _ (List.mem_of_getElem? (i := 15) rfl))))
theorem rx_c105 : rx_cwd 105 ∈ lw_tbl := List.mem_append_right _ (List.mem_append_right _ (List.mem_append_right _ (List.mem_append_left _ (List.mem_of_getElem? (i := 27) rfl))))
theorem rx_c106 : rx_cwd 106 ∈ lw_tbl := List.mem_append_right _ (List.mem_append_right _ (List.mem_append_right _ (List.mem_append_left _ (List.mem_of_getElem? (i := 31) rfl))))
theorem rx_c107 : rx_cwd 107 ∈ lw_tbl := List.mem_append_right _ (List.mem_append_right _ (List.mem_append_right _ (List.mem_append_left _ (List.mem_of_getElem? (i := 145) rfl))))
theorem rx_c108 : rx_cwd 108 ∈ lw_tbl := List.mem_append_right _ (List.mem_append_right _ (List.mem_append_right _ (List.mem_append_right _ (List.mem_of_getElem? (i := 10) rfl))))
theorem rx_c109 : rx_cwd 109 ∈ lw_tbl := List.mem_append_right _ (List.mem_append_right _ (List.mem_append_right _ (List.mem_append_right _ (List.mem_of_getElem? (i := 41) rfl))))
theorem rx_c110 : rx_cwd 110 ∈ lw_tbl := List.mem_append_right _ (List.mem_append_right _ (List.mem_append_right _ (List.mem_append_right _ (List.mem_of_getElem? (i := 22) rfl))))
theorem rx_c111 : rx_cwd 111 ∈ lw_tbl := List.mem_append_right _ (List.mem_append_right _ (List.mem_append_right _ (List.mem_append_right _ (List.mem_of_getElem? (i := 18) rfl))))
theorem rx_c112 : rx_cwd 112 ∈ lw_tbl := List.mem_append_right _ (List.mem_append_right _ (List.mem_append_right _ (List.mem_append_right _ (List.mem_of_getElem? (i := 26) rfl))))
theorem rx_c113 : rx_cwd 113 ∈ lw_tbl := List.mem_append_right _ (List.mem_append_right _ (List.mem_append_right _ (List.mem_append_right _ (List.mem_of_getElem? (i := 49) rfl))))
theorem rx_c114 : rx_cwd 114 ∈ lw_tbl := List.mem_append_right _ (List.mem_append_right _ (List.mem_append_right _ (List.mem_append_right _ (List.mem_of_getElem? (i := 14) rfl))))
theorem rx_c115 : rx_cwd 115 ∈ lw_tbl := List.mem_append_right _ (List.mem_append_right _ (List.mem_append_right _ (List.mem_append_right _ (List.mem_of_getElem? (i := 7) rfl))))
theorem rx_c116 : rx_cwd 116 ∈ lw_tbl := List.mem_append_right _ (List.mem_append_right _ (List.mem_append_right _ (List.mem_append_right _ (List.mem_of_getElem? (i := 30) rfl))))
theorem rx_c117 : rx_cwd 117 ∈ lw_tbl := List.mem_append_right _ (List.mem_append_right _ (List.mem_append_right _ (List.mem_append_right _ (List.mem_of_getElem? (i := 34) rfl))))
theorem rx_c118 : rx_cwd 118 ∈ lw_tbl := List.mem_append_right _ (List.mem_append_right _ (List.mem_append_right _ (List.mem_append_right _ (List.mem_of_getElem? (i := 45) rfl))))
theorem rx_c119 : rx_cwd 119 ∈ lw_tbl := List.mem_append_right _ (List.mem_append_right _ (List.mem_append_right _ (List.mem_append_right _ (List.mem_of_getElem? (i := 38) rfl))))
theorem rx_c120 : rx_cwd 120 ∈ lw_tbl := List.mem_append_right _ (List.mem_append_right _ (List.mem_append_right _ (List.mem_append_right _ (List.mem_of_getElem? (i := 53) rfl))))
theorem rx_c121 : rx_cwd 121 ∈ lw_tbl := List.mem_append_right _ (List.mem_append_right _ (List.mem_append_right _ (List.mem_append_right _ (List.mem_of_getElem? (i := 57) rfl))))
theorem rx_c122 : rx_cwd 122 ∈ lw_tbl := List.mem_append_right _ (List.mem_append_right _ (List.mem_append_right _ (List.mem_append_right _ (List.mem_of_getElem? (i := 61) rfl))))
theorem rx_c123 : rx_cwd 123 ∈ lw_tbl := List.mem_append_right _ (List.mem_append_right _ (List.mem_append_right _ (List.mem_append_right _ (List.mem_of_getElem? (i := 65) rfl))))
theorem rx_c124 : rx_cwd 124 ∈ lw_tbl := List.mem_append_right _ (List.mem_append_right _ (List.mem_append_right _ (List.mem_append_right _ (List.mem_of_getElem? (i := 69) rfl))))
theorem rx_c125 : rx_cwd 125 ∈ lw_tbl := List.mem_append_right _ (List.mem_append_right _ (List.mem_append_right _ (List.mem_append_right _ (List.mem_of_getElem? (i := 73) rfl))))
theorem rx_c126 : rx_cwd 126 ∈ lw_tbl := List.mem_append_right _ (List.mem_append_right _ (List.mem_append_right _ (List.mem_append_right _ (List.mem_of_getElem? (i := 77) rfl))))
theorem rx_c127 : rx_cwd 127 ∈ lw_tbl := List.mem_append_right _ (List.mem_append_right _ (List.mem_append_right _ (List.mem_append_right _ (List.mem_of_getElem? (i := 81) rfl))))
theorem rx_c128 : rx_cwd 128 ∈ lw_tbl := List.mem_append_right _ (List.mem_append_right _ (List.mem_append_right _ (List.mem_append_right _ (List.mem_of_getElem? (i := 85) rfl))))
theorem rx_c129 : rx_cwd 129 ∈ lw_tbl := List.mem_append_right _ (List.mem_append_right _ (List.mem_append_right _ (List.mem_append_right _ (List.mem_of_getElem? (i := 89) rfl))))
theorem rx_c130 : rx_cwd 130 ∈ lw_tbl := List.mem_append_right _ (List.mem_append_right _ (List.mem_append_right _ (List.mem_append_right _ (List.mem_of_getElem? (i := 96) rfl))))
theorem rx_c131 : rx_cwd 131 ∈ lw_tbl := List.mem_append_right _ (List.mem_append_right _ (List.mem_append_right _ (List.mem_append_right _ (List.mem_of_getElem? (i := 93) rfl))))
theorem rx_c132 : rx_cwd 132 ∈ lw_tbl := List.mem_append_right _ (List.mem_append_right _ (List.mem_append_right _ (List.mem_append_right _ (List.mem_of_getElem? (i := 101) rfl))))
theorem rx_c133 : rx_cwd 133 ∈ lw_tbl := List.mem_append_right _ (List.mem_append_right _ (List.mem_append_right _ (List.mem_append_right _ (List.mem_of_getElem? (i := 105) rfl))))
theorem rx_c134 : rx_cwd 134 ∈ lw_tbl := List.mem_append_right _ (List.mem_append_right _ (List.mem_append_right _ (List.mem_append_right _ (List.mem_of_getElem? (i := 109) rfl))))
theorem rx_c135 : rx_cwd 135 ∈ lw_tbl := List.mem_append_right _ (List.mem_append_right _ (List.mem_append_right _ (List.mem_append_right _ (List.mem_of_getElem? (i := 113) rfl))))
theorem rx_c136 : rx_cwd 136 ∈ lw_tbl := List.mem_append_right _ (List.mem_append_right _ (List.mem_append_right _ (List.mem_append_right _ (List.mem_of_getElem? (i := 117) rfl))))
theorem rx_c137 : rx_cwd 137 ∈ lw_tbl := List.mem_append_right _ (List.mem_append_right _ (List.mem_append_right _ (List.mem_append_right _ (List.mem_of_getElem? (i := 126) rfl))))
theorem rx_c138 : rx_cwd 138 ∈ lw_tbl := List.mem_append_right _ (List.mem_append_right _ (List.mem_append_right _ (List.mem_append_right _ (List.mem_of_getElem? (i := 121) rfl))))
theorem rx_c139 : rx_cwd 139 ∈ lw_tbl := List.mem_append_right _ (List.mem_append_right _ (List.mem_append_right _ (List.mem_append_right _ (List.mem_of_getElem? (i := 130) rfl))))
theorem rx_c140 : rx_cwd 140 ∈ lw_tbl := List.mem_append_right _ (List.mem_append_right _ (List.mem_append_right _ (List.mem_append_right _ (List.mem_of_getElem? (i := 134) rfl))))
theorem rx_c141 : rx_cwd 141 ∈ lw_tbl := List.mem_append_right _ (List.mem_append_right _ (List.mem_append_right _ (List.mem_append_right _ (List.mem_of_getElem? (i := 138) rfl))))
theorem rx_c142 : rx_cwd 142 ∈ lw_tbl := List.mem_append_right _ (List.mem_append_right _ (List.mem_append_right _ (List.mem_append_right _ (List.mem_of_getElem? (i := 142) rfl))))
theorem rx_c143 : rx_cwd 143 ∈ lw_tbl := List.mem_append_right _ (List.mem_append_right _ (List.mem_append_left _ (List.mem_of_getElem? (i := 117) rfl)))
theorem rx_c144 : rx_cwd 144 ∈ lw_tbl := List.mem_append_right _ (List.mem_append_left _ (List.mem_of_getElem? (i := 25) rfl))
theorem rx_c145 : rx_cwd 145 ∈ lw_tbl := List.mem_append_right _ (List.mem_append_left _ (List.mem_of_getElem? (i := 22) rfl))
theorem rx_c146 : rx_cwd 146 ∈ lw_tbl := List.mem_append_right _ (List.mem_append_right _ (List.mem_append_right _ (List.mem_append_left _ (List.mem_of_getElem? (i := 140) rfl))))
theorem rx_call : ∀ i, i < 147 → rx_cwd i ∈ lw_tbl := by
  intro i hi
  match i, hi with
  | 0, _ => exact rx_c0
  | 1, _ => exact rx_c1
  | 2, _ => exact rx_c2
  | 3, _ => exact rx_c3
  | 4, _ => exact rx_c4
  | 5, _ => exact rx_c5
  | 6, _ => exact rx_c6
  | 7, _ => exact rx_c7
  | 8, _ => exact rx_c8
  | 9, _ => exact rx_c9
  | 10, _ => exact rx_c10
  | 11, _ => exact rx_c11
  | 12, _ => exact rx_c12
  | 13, _ => exact rx_c13
  | 14, _ => exact rx_c14
  | 15, _ => exact rx_c15
  | 16, _ => exact rx_c16
  | 17, _ => exact rx_c17
  | 18, _ => exact rx_c18
  | 19, _ => exact rx_c19
  | 20, _ => exact rx_c20
  | 21, _ => exact rx_c21
  | 22, _ => exact rx_c22
  | 23, _ => exact rx_c23
  | 24, _ => exact rx_c24
  | 25, _ => exact rx_c25
  | 26, _ => exact rx_c26
  | 27, _ => exact rx_c27
  | 28, _ => exact rx_c28
  | 29, _ => exact rx_c29
  | 30, _ => exact rx_c30
  | 31, _ => exact rx_c31
  | 32, _ => exact rx_c32
  | 33, _ => exact rx_c33
  | 34, _ => exact rx_c34
  | 35, _ => exact rx_c35
  | 36, _ => exact rx_c36
  | 37, _ => exact rx_c37
  | 38, _ => exact rx_c38
  | 39, _ => exact rx_c39
  | 40, _ => exact rx_c40
  | 41, _ => exact rx_c41
  | 42, _ => exact rx_c42
  | 43, _ => exact rx_c43
  | 44, _ => exact rx_c44
  | 45, _ => exact rx_c45
  | 46, _ => exact rx_c46
  | 47, _ => exact rx_c47
  | 48, _ => exact rx_c48
  | 49, _ => exact rx_c49
  | 50, _ => exact rx_c50
  | 51, _ => exact rx_c51
  | 52, _ => exact rx_c52
  | 53, _ => exact rx_c53
  | 54, _ => exact rx_c54
  | 55, _ => exact rx_c55
  | 56, _ => exact rx_c56
  | 57, _ => exact rx_c57
  | 58, _ => exact rx_c58
  | 59, _ => exact rx_c59
  | 60, _ => exact rx_c60
  | 61, _ => exact rx_c61
  | 62, _ => exact rx_c62
  | 63, _ => exact rx_c63
  | 64, _ => exact rx_c64
  | 65, _ => exact rx_c65
  | 66, _ => exact rx_c66
  | 67, _ => exact rx_c67
  | 68, _ => exact rx_c68
  | 69, _ => exact rx_c69
  | 70, _ => exact rx_c70
  | 71, _ => exact rx_c71
  | 72, _ => exact rx_c72
  | 73, _ => exact rx_c73
  | 74, _ => exact rx_c74
  | 75, _ => exact rx_c75
  | 76, _ => exact rx_c76
  | 77, _ => exact rx_c77
  | 78, _ => exact rx_c78
  | 79, _ => exact rx_c79
  | 80, _ => exact rx_c80
  | 81, _ => exact rx_c81
  | 82, _ => exact rx_c82
  | 83, _ => exact rx_c83
  | 84, _ => exact rx_c84
  | 85, _ => exact rx_c85
  | 86, _ => exact rx_c86
  | 87, _ => exact rx_c87
  | 88, _ => exact rx_c88
  | 89, _ => exact rx_c89
  | 90, _ => exact rx_c90
  | 91, _ => exact rx_c91
  | 92, _ => exact rx_c92
  | 93, _ => exact rx_c93
  | 94, _ => exact rx_c94
  | 95, _ => exact rx_c95
  | 96, _ => exact rx_c96
  | 97, _ => exact rx_c97
  | 98, _ => exact rx_c98
  | 99, _ => exact rx_c99
  | 100, _ => exact rx_c100
  | 101, _ => exact rx_c101
  | 102, _ => exact rx_c102
  | 103, _ => exact rx_c103
  | 104, _ => exact rx_c104
  | 105, _ => exact rx_c105
  | 106, _ => exact rx_c106
  | 107, _ => exact rx_c107
  | 108, _ => exact rx_c108
  | 109, _ => exact rx_c109
  | 110, _ => exact rx_c110
  | 111, _ => exact rx_c111
  | 112, _ => exact rx_c112
  | 113, _ => exact rx_c113
  | 114, _ => exact rx_c114
  | 115, _ => exact rx_c115
  | 116, _ => exact rx_c116
  | 117, _ => exact rx_c117
  | 118, _ => exact rx_c118
  | 119, _ => exact rx_c119
  | 120, _ => exact rx_c120
  | 121, _ => exact rx_c121
  | 122, _ => exact rx_c122
  | 123, _ => exact rx_c123
  | 124, _ => exact rx_c124
  | 125, _ => exact rx_c125
  | 126, _ => exact rx_c126
  | 127, _ => exact rx_c127
  | 128, _ => exact rx_c128
  | 129, _ => exact rx_c129
  | 130, _ => exact rx_c130
  | 131, _ => exact rx_c131
  | 132, _ => exact rx_c132
  | 133, _ => exact rx_c133
  | 134, _ => exact rx_c134
  | 135, _ => exact rx_c135
  | 136, _ => exact rx_c136
  | 137, _ => exact rx_c137
  | 138, _ => exact rx_c138
  | 139, _ => exact rx_c139
  | 140, _ => exact rx_c140
  | 141, _ => exact rx_c141
  | 142, _ => exact rx_c142
  | 143, _ => exact rx_c143
  | 144, _ => exact rx_c144
  | 145, _ => exact rx_c145
  | 146, _ => exact rx_c146
  | k + 147, h => exact absurd h (by omega)
set_option maxRecDepth 100000 in
theorem rx_fok : rx_fl.map rx_fwd = rx_fps.filterMap (fun k => lw_tbl[k]?) := by decide +kernel
set_option maxRecDepth 100000 in
theorem rx_mok : rx_mll.map rx_mwd = rx_mps.filterMap (fun k => lw_tbl[k]?) := by decide +kernel
set_option maxRecDepth 100000 in
theorem rx_nok : rx_nl.map rx_nwd = rx_nps.filterMap (fun k => lw_tbl[k]?) := by decide +kernel
set_option maxRecDepth 100000 in
theorem rx_kok : rx_kl.map rx_kwd = rx_kps.filterMap (fun k => lw_tbl[k]?) := by decide +kernel
set_option maxRecDepth 100000 in
theorem rx_k2ok : rx_k2.map rx_k2wd = rx_k2ps.filterMap (fun k => lw_tbl[k]?) := by decide +kernel
theorem rx_mem {ws : List Cond} {ps : List Nat} (h : ws = ps.filterMap (fun k => lw_tbl[k]?)) : ∀ w ∈ ws, w ∈ lw_tbl := by
  intro w hw
  rw [h] at hw
  obtain ⟨i, -, hi⟩ := List.mem_filterMap.mp hw
  exact List.mem_of_getElem? hi
