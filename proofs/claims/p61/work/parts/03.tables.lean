/-! the tables of the pure machine: methods by number (callees first), links by class and pool index -/
def mYs : List MethodName := [
  yX2_init, yJ7_fill_53178, yX3_init, yX0_init, yX1_init, yX4_init, yX7_init, yX6_init,
  yX8_init, yX4_take, yX8_append, yX4_skipSpaces, yX4_readWord, yX4_isWord, yX4_fail, yX4_readNumber,
  yJ7_fill_d0a16, yX3_forgetTooth, yX3_begin, yX0_begin, yX4_readFirst, yX4_readSpeed, yX7_nameOf, yX4_readPitch,
  yX0_putTooth, yX4_readTooth, yX2_put, yX4_readNote, yX0_trackOf, yX0_pinsOn, yX0_putPinsOn, yX0_pinOrNot,
  yX4_readPin, yX4_readOther, yX4_readInto, yX2_copyFrom, yX3_copyFrom, yX0_copyFrom, yX1_forget, yX8_load,
  yX5_all, yX5_all, yX5_holds, yX0_isPinned, yX0_need, yX3_restLeft, yX3_pluck, yX5_wrapped,
  yX0_pass, yX8_firstBuzz, yX8_nextTooth, yX5_all, yX3_rings, yX5_all, yX5_all, yX1_takeBack,
  yX8_undo, yJ13_bitCount_95d88, yX0_pinsOfTune, yX0_allPins, yX5_all, yX5_moved, yX5_pairs, yX0_collisionsAbove,
  yX0_allCollisions, yX8_size, yX5_all, yX8_checkTooth, yX0_pinsOfTooth, yX8_tooth, yX5_all, yX8_checkNote,
  yX2_likeAhead, yX0_playerOf, yX8_note, yX5_all, yX8_checkRange, yX8_checkTune, yX8_checkStep, yX8_hasPin,
  yX5_all, yX5_member, yX5_all, yX5_all, yX0_teethAt, yX8_chord, yX5_all, yJ6_bitCount_0f7a4,
  yX8_fullest, yX5_all, yX5_wayOn, yX0_shortBy, yX0_countConflicts, yX8_conflicts, yX5_all, yX0_placeOfConflict,
  yX0_nextPin, yX8_conflict, yX5_all, yX5_near, yX0_stepsOfCollision, yX0_placeOfCollision, yX0_tuneOf, yX0_toothOf,
  yX8_collision, yX5_all, yX2_countOf, yX0_playedNotes, yX8_missing, yX5_all, yX8_extra, yX5_all,
  yX0_hasCollisionOf, yX8_isClean, yX5_all, yX6_putPinsOn, yX6_rank, yX6_sortIn, yX6_prepare, yX6_toothBehind,
  yX6_pinsOn, yX6_lift, yX6_fits, yX6_put, yX6_seek, yX8_tries, yX5_all, yX8_canLay,
  yX5_all, yX6_isFound, yX6_toothFor, yX8_laidOn, yX5_all, yX6_teethUsed, yX8_spare, yX5_all,
  yX8_fastest, yX5_all, yX8_needed, yX5_all, yX5_all, yX5_all, yX5_all, yX0_movePins,
  yX8_bestTurn, yX5_all, yX8_checkPitch, yX5_all, yX5_all, yX5_all, yX5_all, yX5_all,
  yX5_all, yX5_all, yX0_stepsWithPins, yX8_silence, yX5_all, yX3_recall, yX8_heard, yX5_all,
  yX8_ringsIn, yX5_all, yX8_buzzesIn, yX5_all, yX1_keep, yX8_addNote, yX5_all, yX2_takeAway,
  yX8_dropNote, yX5_all, yX8_addTooth, yX5_all, yX8_setRest, yX5_all, yX8_retune, yX5_all,
  yX8_setPin, yX5_all, yX8_clear, yX5_all, yX6_putPins, yX8_lay, yX5_all, yX2_canRaise,
  yX2_raise, yX8_transpose, yX5_all, yX2_move, yX8_turn, yX5_all, yX5_mirrored, yX0_mirrorPins,
  yX2_mirror, yX8_reverse, yX5_all, yX8_setSpeed, yX5_all, yX8_setGap, yX5_all, yX8_shift,
  yX5_all, yX8_run, yX5_all, yX5_all, yX5_all, yX5_all, yX5_all, yX5_all,
  yX5_all, yX5_all, yX5_all, yX8_saveSnapshot, yX5_all, yX8_restoreSnapshot, yX5_all, yL_cell,
  yL_load, yL_pitch, yL_step, yL_way, yL_isNear, yL_collisions, yL_tune, yL_laid,
  yL_agrees, yL_whole, yL_foresees]

def mBs : List ByteArray := [
  cX2_init, cJ7_fill_53178, cX3_init, cX0_init, cX1_init, cX4_init, cX7_init, cX6_init,
  cX8_init, cX4_take, cX8_append, cX4_skipSpaces, cX4_readWord, cX4_isWord, cX4_fail, cX4_readNumber,
  cJ7_fill_d0a16, cX3_forgetTooth, cX3_begin, cX0_begin, cX4_readFirst, cX4_readSpeed, cX7_nameOf, cX4_readPitch,
  cX0_putTooth, cX4_readTooth, cX2_put, cX4_readNote, cX0_trackOf, cX0_pinsOn, cX0_putPinsOn, cX0_pinOrNot,
  cX4_readPin, cX4_readOther, cX4_readInto, cX2_copyFrom, cX3_copyFrom, cX0_copyFrom, cX1_forget, cX8_load,
  cX5_all, cX5_all, cX5_holds, cX0_isPinned, cX0_need, cX3_restLeft, cX3_pluck, cX5_wrapped,
  cX0_pass, cX8_firstBuzz, cX8_nextTooth, cX5_all, cX3_rings, cX5_all, cX5_all, cX1_takeBack,
  cX8_undo, cJ13_bitCount_95d88, cX0_pinsOfTune, cX0_allPins, cX5_all, cX5_moved, cX5_pairs, cX0_collisionsAbove,
  cX0_allCollisions, cX8_size, cX5_all, cX8_checkTooth, cX0_pinsOfTooth, cX8_tooth, cX5_all, cX8_checkNote,
  cX2_likeAhead, cX0_playerOf, cX8_note, cX5_all, cX8_checkRange, cX8_checkTune, cX8_checkStep, cX8_hasPin,
  cX5_all, cX5_member, cX5_all, cX5_all, cX0_teethAt, cX8_chord, cX5_all, cJ6_bitCount_0f7a4,
  cX8_fullest, cX5_all, cX5_wayOn, cX0_shortBy, cX0_countConflicts, cX8_conflicts, cX5_all, cX0_placeOfConflict,
  cX0_nextPin, cX8_conflict, cX5_all, cX5_near, cX0_stepsOfCollision, cX0_placeOfCollision, cX0_tuneOf, cX0_toothOf,
  cX8_collision, cX5_all, cX2_countOf, cX0_playedNotes, cX8_missing, cX5_all, cX8_extra, cX5_all,
  cX0_hasCollisionOf, cX8_isClean, cX5_all, cX6_putPinsOn, cX6_rank, cX6_sortIn, cX6_prepare, cX6_toothBehind,
  cX6_pinsOn, cX6_lift, cX6_fits, cX6_put, cX6_seek, cX8_tries, cX5_all, cX8_canLay,
  cX5_all, cX6_isFound, cX6_toothFor, cX8_laidOn, cX5_all, cX6_teethUsed, cX8_spare, cX5_all,
  cX8_fastest, cX5_all, cX8_needed, cX5_all, cX5_all, cX5_all, cX5_all, cX0_movePins,
  cX8_bestTurn, cX5_all, cX8_checkPitch, cX5_all, cX5_all, cX5_all, cX5_all, cX5_all,
  cX5_all, cX5_all, cX0_stepsWithPins, cX8_silence, cX5_all, cX3_recall, cX8_heard, cX5_all,
  cX8_ringsIn, cX5_all, cX8_buzzesIn, cX5_all, cX1_keep, cX8_addNote, cX5_all, cX2_takeAway,
  cX8_dropNote, cX5_all, cX8_addTooth, cX5_all, cX8_setRest, cX5_all, cX8_retune, cX5_all,
  cX8_setPin, cX5_all, cX8_clear, cX5_all, cX6_putPins, cX8_lay, cX5_all, cX2_canRaise,
  cX2_raise, cX8_transpose, cX5_all, cX2_move, cX8_turn, cX5_all, cX5_mirrored, cX0_mirrorPins,
  cX2_mirror, cX8_reverse, cX5_all, cX8_setSpeed, cX5_all, cX8_setGap, cX5_all, cX8_shift,
  cX5_all, cX8_run, cX5_all, cX5_all, cX5_all, cX5_all, cX5_all, cX5_all,
  cX5_all, cX5_all, cX5_all, cX8_saveSnapshot, cX5_all, cX8_restoreSnapshot, cX5_all, cL_cell,
  cL_load, cL_pitch, cL_step, cL_way, cL_isNear, cL_collisions, cL_tune, cL_laid,
  cL_agrees, cL_whole, cL_foresees]

def mNs : List Nat := [
  1, 4, 1, 1, 2, 1, 1, 1, 2, 6, 3, 1, 2, 4, 3, 5, 5, 2, 2, 4, 6, 3, 1, 4, 3, 4, 4, 5, 3, 2,
  4, 8, 5, 3, 3, 2, 2, 2, 1, 2, 1, 1, 3, 4, 2, 4, 6, 2, 4, 2, 4, 1, 1, 1, 1, 2, 1, 2, 4, 3,
  1, 4, 8, 2, 3, 2, 1, 2, 4, 3, 1, 2, 4, 4, 3, 1, 4, 2, 2, 4, 1, 6, 1, 1, 5, 3, 1, 1, 6, 1,
  5, 6, 5, 2, 1, 6, 5, 7, 1, 5, 8, 5, 2, 2, 6, 1, 4, 4, 2, 1, 2, 1, 4, 3, 1, 4, 2, 4, 4, 5,
  2, 5, 9, 5, 8, 2, 1, 2, 1, 1, 3, 2, 1, 3, 2, 1, 3, 1, 4, 1, 1, 1, 1, 5, 6, 1, 2, 1, 1, 1,
  1, 1, 1, 1, 5, 6, 1, 3, 3, 1, 2, 1, 2, 1, 2, 4, 1, 3, 2, 1, 3, 1, 4, 1, 4, 1, 6, 1, 4, 1,
  2, 2, 1, 4, 4, 3, 1, 5, 3, 1, 6, 4, 4, 2, 1, 3, 1, 3, 1, 3, 1, 3, 1, 1, 1, 1, 1, 1, 1, 1,
  1, 2, 1, 2, 1, 2, 5, 1, 7, 3, 3, 6, 10, 7, 3, 5, 16]

def mRs : List (Option FieldType) := [
  none, none, none, none, none, none, none, none,
  none, (some .boolean), (some .int), none, (some .int), (some .boolean), (some .boolean), (some .int),
  none, none, none, none, (some .boolean), (some .boolean), (some (.object "java/lang/String")), (some .int),
  none, (some .boolean), none, (some .boolean), (some .int), (some .long), none, none,
  (some .boolean), (some .boolean), (some .boolean), none, none, none, none, (some .int),
  (some .long), (some .long), (some .boolean), (some .boolean), (some .int), (some .int), none, (some .int),
  none, (some .int), (some .int), (some .long), (some .int), (some .long), (some .long), none,
  (some .int), (some .int), (some .int), (some .int), (some .long), (some .long), (some .int), (some .int),
  (some .int), (some .int), (some .long), none, (some .int), (some .int), (some .long), none,
  (some .int), (some .int), (some .int), (some .long), none, none, none, (some .boolean),
  (some .long), (some .int), (some .long), (some .long), (some .int), (some .int), (some .long), (some .int),
  (some .int), (some .long), (some .int), (some .int), (some .int), (some .int), (some .long), (some .int),
  (some .int), (some .int), (some .long), (some .long), (some .int), (some .int), (some .int), (some .int),
  (some .int), (some .long), (some .int), (some .int), (some .int), (some .long), (some .int), (some .long),
  (some .boolean), (some .boolean), (some .long), none, (some .int), none, none, (some .int),
  (some .long), none, (some .boolean), none, none, (some .int), (some .long), (some .int),
  (some .long), (some .boolean), (some .int), (some .int), (some .long), (some .int), (some .int), (some .long),
  (some .int), (some .long), (some .int), (some .long), (some .long), (some .long), (some .long), none,
  (some .int), (some .long), none, (some .long), (some .long), (some .long), (some .long), (some .long),
  (some .long), (some .long), (some .long), (some .int), (some .long), (some .int), (some .int), (some .long),
  (some .int), (some .long), (some .int), (some .long), none, (some .int), (some .long), none,
  (some .int), (some .long), (some .int), (some .long), (some .int), (some .long), (some .int), (some .long),
  (some .boolean), (some .long), (some .int), (some .long), none, (some .int), (some .long), (some .boolean),
  none, (some .int), (some .long), none, (some .int), (some .long), (some .long), none,
  none, (some .int), (some .long), (some .int), (some .long), (some .int), (some .long), (some .int),
  (some .long), (some .int), (some .long), (some .long), (some .long), (some .long), (some .long), (some .long),
  (some .long), (some .long), (some .long), (some .int), (some .long), (some .int), (some .long), (some .int),
  (some .int), (some .int), none, (some .int), (some .boolean), (some .boolean), (some .boolean), (some .boolean),
  (some .boolean), (some .long), (some .boolean)]

def mCs : List Nat := [
  2, 12, 3, 0, 1, 4, 7, 6, 8, 4, 8, 4, 4, 4, 4, 4, 12, 3, 3, 0, 4, 4, 7, 4, 0, 4, 2, 4, 0, 0,
  0, 0, 4, 4, 4, 2, 3, 0, 1, 8, 5, 5, 5, 0, 0, 3, 3, 5, 0, 8, 8, 5, 3, 5, 5, 1, 8, 11, 0, 0,
  5, 5, 5, 0, 0, 8, 5, 8, 0, 8, 5, 8, 2, 0, 8, 5, 8, 8, 8, 8, 5, 5, 5, 5, 0, 8, 5, 10, 8, 5,
  5, 0, 0, 8, 5, 0, 0, 8, 5, 5, 0, 0, 0, 0, 8, 5, 2, 0, 8, 5, 8, 5, 0, 8, 5, 6, 6, 6, 6, 6,
  6, 6, 6, 6, 6, 8, 5, 8, 5, 6, 6, 8, 5, 6, 8, 5, 8, 5, 8, 5, 5, 5, 5, 0, 8, 5, 8, 5, 5, 5,
  5, 5, 5, 5, 0, 8, 5, 3, 8, 5, 8, 5, 8, 5, 1, 8, 5, 2, 8, 5, 8, 5, 8, 5, 8, 5, 8, 5, 8, 5,
  6, 8, 5, 2, 2, 8, 5, 2, 8, 5, 5, 0, 2, 8, 5, 8, 5, 8, 5, 8, 5, 8, 5, 5, 5, 5, 5, 5, 5, 5,
  5, 8, 5, 8, 5, 13, 13, 13, 13, 13, 13, 13, 13, 13, 13, 13, 13]

def mFs : List Nat := [
  1, 0, 1, 2, 3, 1, 1, 1, 4, 0, 1, 0, 1, 6, 0, 1, 0, 0, 1, 2, 7, 2, 0, 7, 1, 8, 0, 8, 0, 0,
  0, 1, 2, 9, 10, 1, 1, 2, 0, 11, 0, 0, 0, 1, 0, 1, 2, 0, 3, 4, 2, 0, 0, 0, 0, 3, 4, 0, 1, 2,
  0, 1, 2, 3, 4, 5, 0, 0, 1, 2, 0, 0, 0, 2, 3, 0, 0, 1, 1, 2, 0, 1, 0, 0, 2, 3, 0, 0, 3, 0,
  1, 2, 3, 4, 0, 3, 2, 4, 0, 2, 3, 4, 0, 0, 5, 0, 0, 3, 4, 0, 4, 0, 4, 5, 0, 0, 0, 1, 2, 0,
  0, 1, 3, 1, 4, 5, 0, 5, 0, 0, 0, 5, 0, 0, 5, 0, 5, 0, 5, 0, 0, 0, 0, 2, 5, 0, 1, 0, 0, 0,
  0, 0, 0, 0, 1, 2, 0, 0, 1, 0, 4, 0, 4, 0, 3, 4, 0, 0, 4, 0, 4, 0, 4, 0, 4, 0, 4, 0, 4, 0,
  1, 5, 0, 0, 0, 4, 0, 1, 4, 0, 1, 2, 0, 4, 0, 4, 0, 4, 0, 4, 0, 4, 0, 0, 0, 0, 0, 0, 0, 0,
  0, 3, 0, 3, 0, 1, 12, 0, 6, 6, 7, 8, 7, 6, 9, 6, 7]

def mLs : List Nat := [
  20, 0, 23, 43, 63, 20, 20, 20, 84, 0, 25, 0, 20, 160, 0, 22, 0, 0, 21, 42, 183, 46, 0, 183, 21, 206, 0, 206, 0, 0,
  0, 23, 50, 230, 252, 48, 48, 69, 0, 274, 0, 0, 0, 22, 0, 21, 44, 0, 69, 92, 45, 0, 0, 0, 0, 90, 111, 0, 22, 45,
  0, 20, 43, 70, 91, 113, 0, 0, 22, 45, 0, 0, 0, 45, 68, 0, 0, 23, 23, 45, 0, 22, 0, 0, 45, 69, 0, 0, 69, 0,
  22, 46, 71, 95, 0, 71, 46, 96, 0, 43, 67, 94, 0, 0, 118, 0, 0, 68, 91, 0, 91, 0, 91, 114, 0, 0, 0, 21, 48, 0,
  0, 23, 67, 23, 95, 122, 0, 122, 0, 0, 0, 122, 0, 0, 122, 0, 122, 0, 122, 0, 0, 0, 0, 43, 113, 0, 23, 0, 0, 0,
  0, 0, 0, 0, 22, 46, 0, 0, 23, 0, 92, 0, 92, 0, 90, 111, 0, 0, 111, 0, 111, 0, 111, 0, 111, 0, 111, 0, 111, 0,
  48, 122, 0, 0, 0, 111, 0, 21, 111, 0, 22, 47, 0, 111, 0, 111, 0, 111, 0, 111, 0, 111, 0, 0, 0, 0, 0, 0, 0, 0,
  0, 90, 0, 90, 0, 21, 295, 0, 143, 134, 156, 178, 156, 145, 203, 134, 158]

def mXs : List Nat := [
  0, 0, 0, 0, 0, 0, 0, 0, 0, 0, 0, 0, 0, 0, 0, 0, 0, 0, 0, 0, 0, 0, 0, 0, 0, 0, 0, 0, 0, 0,
  0, 0, 0, 0, 0, 0, 0, 0, 0, 0, 0, 0, 0, 0, 0, 0, 0, 0, 0, 0, 0, 0, 0, 0, 0, 0, 0, 0, 0, 0,
  0, 0, 0, 0, 0, 0, 0, 0, 0, 0, 0, 0, 0, 0, 0, 0, 0, 0, 0, 0, 0, 0, 0, 0, 0, 0, 0, 0, 0, 0,
  0, 0, 0, 0, 0, 0, 0, 0, 0, 0, 0, 0, 0, 0, 0, 0, 0, 0, 0, 0, 0, 0, 0, 0, 0, 0, 0, 0, 0, 0,
  0, 0, 0, 0, 0, 0, 0, 0, 0, 0, 0, 0, 0, 0, 0, 0, 0, 0, 0, 0, 0, 0, 0, 0, 0, 0, 0, 0, 0, 0,
  0, 0, 0, 0, 0, 0, 0, 0, 0, 0, 0, 0, 0, 0, 0, 0, 0, 0, 0, 0, 0, 0, 0, 0, 0, 0, 0, 0, 0, 0,
  0, 0, 0, 0, 0, 0, 0, 0, 0, 0, 0, 0, 0, 0, 0, 0, 0, 0, 0, 0, 0, 0, 0, 0, 0, 0, 0, 0, 0, 0,
  0, 0, 0, 0, 0, 0, 0, 0, 0, 0, 0, 0, 0, 0, 0, 0, 0]

def mSs : List (List (Nat × Nat)) := [
  [], [], [], [], [], [], [], [], [], [], [], [],
  [], [], [], [], [], [], [], [], [], [], [], [],
  [], [], [], [], [], [], [], [], [], [], [], [],
  [], [], [], [], [], [], [], [], [], [], [], [],
  [], [], [], [], [], [], [], [], [], [], [], [],
  [], [], [], [], [], [], [], [], [], [], [], [],
  [], [], [], [], [], [], [], [], [], [], [], [],
  [], [], [], [], [], [], [], [], [], [], [], [],
  [], [], [], [], [], [], [], [], [], [], [], [],
  [], [], [], [], [], [], [], [], [], [], [], [],
  [], [], [], [], [], [], [], [], [], [], [], [],
  [], [], [], [], [], [], [], [], [], [], [], [],
  [], [], [], [], [], [], [], [], [], [], [], [],
  [], [], [], [], [], [], [], [], [], [], [], [],
  [], [], [], [], [], [], [], [], [], [], [], [],
  [], [], [], [], [], [], [], [], [], [], [], [],
  [], [], [], [], [], [], [], [], [], [], [], [],
  [], [], [], [], [], [], [], [], [], [], [], [],
  [], [], [], [], [], [], [], [], [], [], []]

def mHs : List (List (Nat × Nat × Nat × Nat × Nat × Nat × Nat)) := [
  [], [], [], [], [], [], [], [], [], [], [], [],
  [], [], [], [], [], [], [], [], [], [], [], [],
  [], [], [], [], [], [], [], [], [], [], [], [],
  [], [], [], [], [], [], [], [], [], [], [], [],
  [], [], [], [], [], [], [], [], [], [], [], [],
  [], [], [], [], [], [], [], [], [], [], [], [],
  [], [], [], [], [], [], [], [], [], [], [], [],
  [], [], [], [], [], [], [], [], [], [], [], [],
  [], [], [], [], [], [], [], [], [], [], [], [],
  [], [], [], [], [], [], [], [], [], [], [], [],
  [], [], [], [], [], [], [], [], [], [], [], [],
  [], [], [], [], [], [], [], [], [], [], [], [],
  [], [], [], [], [], [], [], [], [], [], [], [],
  [], [], [], [], [], [], [], [], [], [], [], [],
  [], [], [], [], [], [], [], [], [], [], [], [],
  [], [], [], [], [], [], [], [], [], [], [], [],
  [], [], [], [], [], [], [], [], [], [], [], [],
  [], [], [], [], [], [], [], [], [], [], [], [],
  [], [], [], [], [], [], [], [], [], [], []]

def cNs : List String := [
  RX0, RX1, RX2, RX3, RX4, RX5, RX6, RX7,
  RX8, RX9, RJ6, RJ13, RJ7, RL]

/-- where the pure names of string constants begin, and of the script -/
abbrev pSB : Nat := 1000000
abbrev pSC : Nat := 2000000
/-- the name of the text that the law made, and how many methods there are -/
abbrev pTX : Nat := 1500000
abbrev pNM : Nat := 227
def kMs : List (List (Nat × Nat × Nat × Nat)) := [
  [(3, 0, 0, 5), (40, 0, 0, 3), (47, 2, 0, 2), (52, 0, 5, 8), (58, 35, 1, 0), (62, 36, 1, 0), (65, 16, 2, 1), (74, 18, 0, 0), (77, 17, 1, 0), (81, 28, 2, 0), (85, 29, 1, 0), (89, 42, 2, 1), (97, 30, 2, 0), (101, 58, 1, 0), (105, 57, 1, 1), (111, 43, 3, 0), (115, 61, 3, 1), (119, 190, 2, 1), (123, 90, 3, 1), (127, 47, 2, 1), (130, 44, 1, 0), (133, 0, 2, 6), (138, 91, 3, 0), (142, 62, 4, 1), (146, 63, 1, 0), (149, 100, 2, 0), (152, 99, 3, 1), (156, 81, 3, 1), (159, 72, 1, 0), (169, 73, 1, 0), (176, 46, 3, 0)],
  [(3, 0, 0, 5), (24, 3, 0, 3), (25, 37, 1, 0)],
  [(3, 0, 0, 5), (25, 0, 5, 8), (31, 47, 2, 1)],
  [(3, 0, 0, 5), (40, 1, 2, 1), (46, 0, 5, 8), (52, 17, 1, 0), (56, 0, 2, 6), (62, 45, 2, 0)],
  [(3, 0, 0, 5), (33, 20, 1, 0), (37, 11, 0, 0), (40, 14, 2, 0), (44, 33, 1, 0), (47, 12, 0, 0), (53, 13, 2, 0), (57, 15, 2, 0), (61, 19, 3, 0), (69, 21, 1, 0), (77, 25, 1, 0), (91, 27, 1, 0), (96, 32, 1, 0), (101, 23, 0, 0), (104, 24, 2, 0), (114, 26, 3, 0), (117, 31, 4, 0), (121, 22, 1, 1), (127, 0, 2, 7), (132, 0, 0, 9), (136, 0, 1, 10)],
  [(11, 60, 1, 1), (17, 42, 2, 1), (21, 61, 3, 1), (25, 47, 2, 1), (29, 57, 1, 1)],
  [(3, 0, 0, 5), (32, 118, 2, 0), (47, 119, 4, 1), (51, 121, 3, 0), (55, 122, 3, 0), (59, 123, 3, 0), (65, 0, 5, 8), (74, 28, 2, 0), (78, 115, 2, 0), (86, 117, 2, 0), (90, 116, 2, 1), (98, 44, 1, 0), (105, 120, 1, 0), (109, 99, 3, 1)],
  [(3, 0, 0, 5)],
  [(3, 0, 0, 5), (11, 3, 0, 3), (21, 4, 0, 2), (36, 5, 0, 3), (43, 6, 0, 3), (50, 7, 0, 3), (62, 9, 1, 0), (69, 34, 1, 0), (80, 37, 1, 0), (84, 38, 0, 0), (111, 59, 0, 0), (136, 64, 0, 0), (147, 67, 1, 0), (158, 44, 1, 0), (162, 68, 1, 0), (174, 45, 2, 0), (178, 71, 1, 0), (186, 73, 1, 0), (189, 77, 1, 0), (192, 78, 1, 0), (195, 43, 3, 0), (199, 28, 2, 0), (212, 84, 2, 0), (215, 87, 1, 1), (220, 92, 1, 0), (223, 76, 3, 0), (227, 95, 2, 0), (230, 96, 3, 0), (234, 91, 3, 0), (237, 101, 1, 0), (240, 102, 1, 0), (243, 103, 1, 0), (246, 106, 1, 0), (249, 107, 1, 0), (252, 58, 1, 0), (255, 112, 1, 0), (259, 124, 3, 0), (269, 129, 0, 0), (273, 130, 1, 0), (276, 133, 0, 0), (282, 24, 2, 0), (286, 143, 2, 0), (289, 146, 1, 0), (301, 0, 2, 6), (304, 154, 1, 0), (307, 42, 2, 1), (311, 90, 3, 1), (314, 157, 2, 0), (317, 48, 1, 0), (320, 52, 0, 0), (323, 47, 2, 1), (326, 164, 1, 0), (329, 26, 3, 0), (332, 167, 1, 0), (335, 31, 4, 0), (339, 30, 2, 0), (343, 180, 1, 0), (346, 183, 2, 0), (350, 184, 2, 0), (353, 187, 3, 0), (356, 191, 1, 0), (359, 192, 2, 0), (374, 55, 1, 0)],
  [],
  [],
  [],
  [(150, 0, 5, 8), (304, 0, 2, 7)],
  [(8, 0, 1, 11), (14, 0, 0, 9), (20, 0, 1, 10), (24, 10, 1, 0), (30, 39, 0, 0), (41, 215, 2, 1), (79, 65, 1, 0), (82, 176, 4, 0), (86, 217, 1, 1), (89, 165, 3, 0), (93, 168, 1, 0), (96, 170, 2, 0), (100, 172, 2, 0), (103, 174, 2, 0), (106, 181, 1, 0), (109, 188, 2, 0), (112, 193, 1, 0), (115, 185, 2, 0), (118, 195, 1, 0), (121, 197, 1, 0), (124, 199, 1, 0), (127, 201, 1, 0), (130, 178, 1, 0), (133, 56, 0, 0), (136, 158, 2, 0), (141, 69, 2, 0), (144, 74, 2, 0), (147, 85, 2, 0), (150, 219, 3, 1), (154, 104, 2, 0), (157, 79, 3, 0), (161, 220, 3, 1), (165, 108, 1, 0), (168, 110, 1, 0), (171, 93, 1, 0), (174, 97, 3, 0), (177, 113, 1, 0), (181, 88, 1, 0), (184, 155, 1, 0), (187, 127, 1, 0), (190, 131, 1, 0), (193, 134, 1, 0), (196, 136, 1, 0), (199, 125, 1, 0), (202, 138, 1, 0), (205, 211, 1, 0), (208, 213, 1, 0), (211, 225, 1, 1), (215, 160, 1, 0), (218, 162, 1, 0), (221, 49, 0, 0), (224, 50, 0, 0), (227, 144, 1, 0), (230, 221, 1, 1), (234, 222, 2, 1), (238, 223, 2, 1), (241, 8, 0, 2), (246, 216, 2, 1), (249, 218, 3, 1), (253, 224, 1, 1), (256, 226, 3, 1)]]

def kFs : List (List (Nat × Nat × Nat)) := [
  [(9, 0, 0), (15, 0, 1), (18, 0, 2), (21, 0, 3), (24, 0, 4), (27, 0, 5), (31, 0, 6), (34, 0, 7), (41, 0, 8), (48, 0, 9), (71, 2, 0), (162, 2, 3), (163, 2, 1), (166, 2, 2), (172, 3, 0), (174, 3, 1), (180, 3, 2)],
  [(11, 1, 0), (17, 1, 1), (21, 1, 2)],
  [(9, 2, 0), (15, 2, 1), (19, 2, 2), (22, 2, 3)],
  [(9, 3, 0), (15, 3, 1), (18, 3, 2), (21, 3, 3), (24, 3, 4), (27, 3, 5), (31, 3, 6), (34, 3, 7), (37, 3, 8)],
  [(9, 4, 0), (15, 4, 1), (19, 4, 2), (22, 4, 3), (25, 4, 4), (28, 4, 5), (74, 0, 4), (82, 0, 8), (86, 2, 0), (99, 0, 3), (108, 0, 1), (111, 0, 0)],
  [],
  [(11, 5, 0), (15, 5, 1), (18, 5, 2), (21, 5, 3), (25, 5, 4), (28, 5, 5), (36, 0, 8), (42, 2, 3), (62, 0, 7), (71, 0, 4), (82, 2, 0), (83, 2, 1), (94, 2, 2), (97, 0, 5), (102, 0, 0), (115, 0, 2)],
  [(9, 6, 0), (15, 6, 1)],
  [(12, 7, 0), (16, 7, 1), (22, 7, 2), (26, 7, 3), (30, 7, 4), (37, 7, 5), (44, 7, 6), (51, 7, 7), (55, 7, 8), (59, 7, 9), (66, 4, 1), (73, 4, 2), (74, 4, 4), (77, 4, 3), (87, 0, 8), (91, 2, 0), (96, 0, 0), (99, 0, 1), (102, 0, 2), (105, 0, 3), (108, 0, 4), (115, 0, 9), (119, 3, 0), (124, 3, 1), (127, 3, 2), (130, 3, 3), (133, 3, 4), (139, 1, 2), (151, 0, 5), (155, 0, 6), (165, 3, 5), (168, 3, 6), (171, 3, 7), (181, 2, 1), (183, 2, 2), (185, 2, 3), (263, 5, 0), (266, 5, 1)],
  [],
  [],
  [],
  [],
  []]

def kCs : List (List (Nat × Value)) := [
  [(95, .long (-1))],
  [],
  [],
  [],
  [(31, .long (255)), (51, .ref (pSB + 4)), (67, .ref (pSB + 5)), (72, .ref (pSB + 6)), (80, .ref (pSB + 7)), (94, .ref (pSB + 8))],
  [(9, .long (-1))],
  [(118, .long (-1))],
  [(36, .ref (pSB + 9)), (38, .ref (pSB + 10)), (40, .ref (pSB + 11)), (42, .ref (pSB + 12)), (44, .ref (pSB + 13)), (46, .ref (pSB + 14)), (48, .ref (pSB + 15)), (50, .ref (pSB + 16)), (52, .ref (pSB + 17)), (54, .ref (pSB + 18)), (56, .ref (pSB + 19)), (58, .ref (pSB + 20))],
  [(142, .ref (pSB + 0)), (362, .int (100000)), (377, .ref (pSB + 1)), (381, .ref (pSB + 2)), (384, .ref (pSB + 3))],
  [],
  [(265, .int (1431655765)), (266, .int (858993459)), (267, .int (252645135))],
  [(314, .long (6148914691236517205)), (316, .long (3689348814741910323)), (318, .long (1085102592571150095))],
  [],
  [(7, .int (100000)), (139, .long (31))]]

def kNs : List (List (Nat × Nat)) := [
  [(38, 2), (45, 3)],
  [(9, 0)],
  [],
  [],
  [],
  [],
  [],
  [],
  [(9, 0), (19, 1), (34, 4), (41, 6), (48, 5)],
  [],
  [],
  [],
  [],
  [(25, 7)]]

def kEs : List (List (Nat × Nat)) := [
  [],
  [],
  [],
  [],
  [],
  [],
  [],
  [],
  [(140, 1), (379, 2)],
  [],
  [],
  [],
  [],
  []]

/-- the texts of the string constants -/
def sTx : List (List Nat) := [
  [119, 104, 97, 116, 32, 105, 115, 32, 111, 117, 116, 32, 111, 102, 32, 114, 97, 110, 103, 101], [97, 110, 32, 97, 114, 103, 117, 109, 101, 110, 116, 32, 105, 115, 32, 111, 117, 116, 32, 111, 102, 32, 114, 97, 110, 103, 101], [116, 104, 101, 114, 101, 32, 105, 115, 32, 110, 111, 32, 115, 117, 99, 104, 32, 116, 111, 111, 116, 104], [116, 104, 101, 114, 101, 32, 105, 115, 32, 110, 111, 32, 115, 117, 99, 104, 32, 110, 111, 116, 101],
  [98, 97, 114, 114, 101, 108], [115, 112, 101, 101, 100], [116, 111, 111, 116, 104], [110, 111, 116, 101],
  [112, 105, 110], [99], [99, 105, 115], [100],
  [100, 105, 115], [101], [102], [102, 105, 115],
  [103], [103, 105, 115], [97], [97, 105, 115],
  [98], [99], [99], [99],
  [99], [99], [99], [99],
  [99], [99], [99], [99],
  [99], [99], [99], [99],
  [99], [99]]

def sOw : List (String × Nat × String) := [
  (RX8, 142, "what is out of range"), (RX8, 377, "an argument is out of range"), (RX8, 381, "there is no such tooth"), (RX8, 384, "there is no such note"),
  (RX4, 51, "barrel"), (RX4, 67, "speed"), (RX4, 72, "tooth"), (RX4, 80, "note"),
  (RX4, 94, "pin"), (RX7, 36, "c"), (RX7, 38, "cis"), (RX7, 40, "d"),
  (RX7, 42, "dis"), (RX7, 44, "e"), (RX7, 46, "f"), (RX7, 48, "fis"),
  (RX7, 50, "g"), (RX7, 52, "gis"), (RX7, 54, "a"), (RX7, 56, "ais"),
  (RX7, 58, "b"), (RX7, 36, "c"), (RX7, 36, "c"), (RX7, 36, "c"),
  (RX7, 36, "c"), (RX7, 36, "c"), (RX7, 36, "c"), (RX7, 36, "c"),
  (RX7, 36, "c"), (RX7, 36, "c"), (RX7, 36, "c"), (RX7, 36, "c"),
  (RX7, 36, "c"), (RX7, 36, "c"), (RX7, 36, "c"), (RX7, 36, "c"),
  (RX7, 36, "c"), (RX7, 36, "c")]

/-- how many fields a class of the worlds has, and which hold references -/
def oFs : List (List Value) := [
  [.int 0, .int 0, .int 0, .int 0, .int 0, .null, .null, .null, .null, .null],
  [.null, .int 0, .int 0],
  [.int 0, .null, .null, .null],
  [.int 0, .int 0, .int 0, .int 0, .int 0, .null, .null, .null, .null],
  [.null, .int 0, .int 0, .int 0, .int 0, .int 0],
  [.int 0, .int 0, .int 0, .null, .null, .null],
  [.null, .int 0],
  [.null, .null, .null, .null, .null, .null, .null, .null, .int 0, .int 0]]

def oTs : List (List FieldType) := [
  [.int, .int, .int, .int, .int, .array .int, .array .int, .array .long, .object "PinBarrel$Notes", .object "PinBarrel$Play"],
  [.array (.object "PinBarrel$Box"), .int, .int],
  [.int, .array .int, .array .int, .array .int],
  [.int, .int, .int, .int, .int, .array .int, .array .int, .array .int, .array .int],
  [.array .char, .int, .int, .int, .int, .int],
  [.int, .int, .int, .array .int, .array .int, .array .long],
  [.array .char, .int],
  [.object "PinBarrel$Box", .object "PinBarrel$Box", .object "PinBarrel$History", .array (.object "PinBarrel$Box"), .array .boolean, .object "PinBarrel$Reader", .object "PinBarrel$Writer", .object "PinBarrel$Search", .int, .int]]

def oKs : List (List Bool) := [
  [false, false, false, false, false, true, true, true, true, true],
  [true, false, false],
  [false, true, true, true],
  [false, false, false, false, false, true, true, true, true],
  [true, false, false, false, false, false],
  [false, false, false, true, true, true],
  [true, false],
  [true, true, true, true, true, true, true, true, false, false]]

