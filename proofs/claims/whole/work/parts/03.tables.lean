def mj_RL : List String := [RX0, RX1, RX2, RX3, RX4, RX5, RX6, RX7, RX8, RX9, RX10, RL, "java/lang/Integer", "java/lang/Math", "java/lang/String"]
def mj_TL : List u_T := [TX0, TX1, TX2, TX3, TX4, TX5, TX6, TX7, TX8, TX9, TX10]
def mj_NL : List Nat := [13, 6, 3, 3, 11, 8, 20, 11, 2, 22, 41]
def mj_tyL : List (Nat → FieldType) := [tyX0, tyX1, tyX2, tyX3, tyX4, tyX5, tyX6, tyX7, tyX8, tyX9, tyX10]
def mj_R (o : Nat) : String := mj_RL.getD o ""
def mj_T (o : Nat) : u_T := mj_TL.getD o TX0
def mj_N (o : Nat) : Nat := mj_NL.getD o 0
def mj_ty (o : Nat) : Nat → FieldType := mj_tyL.getD o tyX0
def mj_yL : List MethodName := [yX0_init, yX0_clear, yX0_hangAs, yX0_put, yX0_cutTo, yX0_takeOut, yX0_look, yX0_writeTo, yX0_readFrom, yX0_latestAt, yX0_latestAt_, yX0_touching, yX0_findUnseen, yX0_seenOf, yX0_isAllOf, yX0_liesOn, yX0_mayGo, yX0_couldGo, yX0_countPlaces, yX0_countMaking, yX0_findPlace, yX0_isFull, yX0_knowLetters, yX0_codeAt, yX0_timesRead, yX0_firstRead, yX0_readsMoreWith, yX1_init, yX1_countAll, yX1_stickUp, yX2_init, yX2_refusal, yX2_countBehind, yX2_shortestRow, yX2_shortestBehind, yX2_nextWins, yX2_bringsAbout, yX2_staysSeen, yX2_bestCorner, yX2_liveBy, yX2_moves, yX2_billOf, yX2_cornerOf, yX2_push, yX2_pop, yX3_init, yX3_forgetAll, yX3_keep, yX3_takeLatest, yX3_bring, yX3_slot, yX4_init, yX4_readText, yX4_handOver, yX4_wrong, yX4_goesOn, yX4_readWall, yX4_readBill, yX4_readRival, yX4_readWord, yX4_readFounder, yX4_readPaste, yX4_takeFirst, yX4_takeKey, yX4_takeWhole, yX4_takeWord, yX4_takeKind, yX4_takeNewName, yX4_takeOldName, yX4_takeCorner, yX4_find, yX5_init, yX5_start, yX5_step, yX5_isLetter, yX5_isDigit, yX5_takeWord, yX5_takeWhole, yX5_takeSign, yX5_isThe, yX5_isName, yX6_init, yX6_clear, yX6_setWall, yX6_addBill, yX6_block, yX6_inkedRow, yX6_addWord, yX6_cellAt, yX6_cornerAt, yX6_fits, yX6_cellsOf, yX6_cells, yX6_lawOf, yX6_timesIn, yX6_firstIn, yX6_lettersBits, yX6_codeIn, yX7_init, yX7_feed, yX7_wall, yX7_fault, yX7_where, yX7_bill, yX7_hanging, yX7_hung, yX7_shows, yX7_letter, yX7_under, yX7_over, yX7_beneath, yX7_on, yX7_may, yX7_places, yX7_place, yX7_full, yX7_table, yX7_paste, yX7_peel, yX7_tear, yX7_scrape, yX7_days, yX7_rival, yX7_undo, yX7_reads, yX7_readAt, yX7_readBy, yX7_makes, yX7_stays, yX7_best, yX7_far, yX7_shortest, yX7_wins, yX7_close, yX7_life, yX7_orders, yX7_ahead, yX7_mark, yX7_back, yX7_led, yX7_size, yX7_trouble, yX7_answer, yX7_refuse, yX7_grant, yX7_deny, yX7_takeFourBytes, yX7_hasWall, yX7_isBill, yX7_isRival, yX7_isWord, yX7_hangs, yX8_init, yX8_many, yX8_adds, yX8_takesOff, yX8_takes, yX9_init, yX9_find, yX9_findWord, yX9_cells, yX10_init, yX10_thrown, yX10_refused, yX10_denied, yX10_good, yX10_granted, yX10_in, yX10_looks, yX10_seenOf, yX10_bits, yX10_letterAt, yX10_stands, yX10_readsNow, yX10_makesWord, yX10_liesOn, yX10_couldGo, yX10_mayGo, yX10_byteAt, yX10_isLetter, yX10_isDigit, yX10_wordOf, yX10_goesOn, yX10_flaw, yX10_isWord, yX10_eatsWord, yX10_eatsSign, yX10_needs, yX10_readWhole, yX10_readPart, yX10_isName, yX10_begins, yX10_readFresh, yX10_names, yX10_known, yX10_readAll, yX10_readLine, yX10_readWall, yX10_readBill, yX10_readRival, yX10_readWord, yX10_readPlaced, yX10_readFounder, yX10_readPaste, yX10_feed, yX10_wall, yX10_fault, yX10_where, yX10_isBill, yX10_isRival, yX10_isHung, yX10_isCell, yX10_isOn, yX10_mayAt, yX10_isOnAt, yX10_cells, yX10_bill, yX10_hanging, yX10_hung, yX10_shows, yX10_letter, yX10_beneath, yX10_under, yX10_over, yX10_refusesPlace, yX10_on, yX10_may, yX10_places, yX10_place, yX10_isFull, yX10_full, yX10_table, yX10_keeps, yX10_paste, yX10_peel, yX10_tear, yX10_scrape, yX10_seenBy, yX10_days, yX10_rival, yX10_undo, yX10_isTold, yX10_reads, yX10_readFrom, yX10_readAt, yX10_readBy, yX10_makes, yX10_pasted, yX10_seenNow, yX10_staysNow, yX10_stays, yX10_best, yX10_goes, yX10_refusesRows, yX10_refusesSafely, yX10_far, yX10_shortest, yX10_winsNow, yX10_loses, yX10_wins, yX10_isAllBy, yX10_goesFor, yX10_close, yX10_firstPlace, yX10_life, yX10_ordersNow, yX10_comes, yX10_looksSame, yX10_orders, yX10_ahead, yX10_mark, yX10_back, yX10_led, yX10_size, yX10_trouble, yJ6_bitCount_0f7a4, yJ0_length_8abf5, yJ0_charAt_5068e]
def mj_bL : List ByteArray := [cX0_init, cX0_clear, cX0_hangAs, cX0_put, cX0_cutTo, cX0_takeOut, cX0_look, cX0_writeTo, cX0_readFrom, cX0_latestAt, cX0_latestAt_, cX0_touching, cX0_findUnseen, cX0_seenOf, cX0_isAllOf, cX0_liesOn, cX0_mayGo, cX0_couldGo, cX0_countPlaces, cX0_countMaking, cX0_findPlace, cX0_isFull, cX0_knowLetters, cX0_codeAt, cX0_timesRead, cX0_firstRead, cX0_readsMoreWith, cX1_init, cX1_countAll, cX1_stickUp, cX2_init, cX2_refusal, cX2_countBehind, cX2_shortestRow, cX2_shortestBehind, cX2_nextWins, cX2_bringsAbout, cX2_staysSeen, cX2_bestCorner, cX2_liveBy, cX2_moves, cX2_billOf, cX2_cornerOf, cX2_push, cX2_pop, cX3_init, cX3_forgetAll, cX3_keep, cX3_takeLatest, cX3_bring, cX3_slot, cX4_init, cX4_readText, cX4_handOver, cX4_wrong, cX4_goesOn, cX4_readWall, cX4_readBill, cX4_readRival, cX4_readWord, cX4_readFounder, cX4_readPaste, cX4_takeFirst, cX4_takeKey, cX4_takeWhole, cX4_takeWord, cX4_takeKind, cX4_takeNewName, cX4_takeOldName, cX4_takeCorner, cX4_find, cX5_init, cX5_start, cX5_step, cX5_isLetter, cX5_isDigit, cX5_takeWord, cX5_takeWhole, cX5_takeSign, cX5_isThe, cX5_isName, cX6_init, cX6_clear, cX6_setWall, cX6_addBill, cX6_block, cX6_inkedRow, cX6_addWord, cX6_cellAt, cX6_cornerAt, cX6_fits, cX6_cellsOf, cX6_cells, cX6_lawOf, cX6_timesIn, cX6_firstIn, cX6_lettersBits, cX6_codeIn, cX7_init, cX7_feed, cX7_wall, cX7_fault, cX7_where, cX7_bill, cX7_hanging, cX7_hung, cX7_shows, cX7_letter, cX7_under, cX7_over, cX7_beneath, cX7_on, cX7_may, cX7_places, cX7_place, cX7_full, cX7_table, cX7_paste, cX7_peel, cX7_tear, cX7_scrape, cX7_days, cX7_rival, cX7_undo, cX7_reads, cX7_readAt, cX7_readBy, cX7_makes, cX7_stays, cX7_best, cX7_far, cX7_shortest, cX7_wins, cX7_close, cX7_life, cX7_orders, cX7_ahead, cX7_mark, cX7_back, cX7_led, cX7_size, cX7_trouble, cX7_answer, cX7_refuse, cX7_grant, cX7_deny, cX7_takeFourBytes, cX7_hasWall, cX7_isBill, cX7_isRival, cX7_isWord, cX7_hangs, cX8_init, cX8_many, cX8_adds, cX8_takesOff, cX8_takes, cX9_init, cX9_find, cX9_findWord, cX9_cells, cX10_init, cX10_thrown, cX10_refused, cX10_denied, cX10_good, cX10_granted, cX10_in, cX10_looks, cX10_seenOf, cX10_bits, cX10_letterAt, cX10_stands, cX10_readsNow, cX10_makesWord, cX10_liesOn, cX10_couldGo, cX10_mayGo, cX10_byteAt, cX10_isLetter, cX10_isDigit, cX10_wordOf, cX10_goesOn, cX10_flaw, cX10_isWord, cX10_eatsWord, cX10_eatsSign, cX10_needs, cX10_readWhole, cX10_readPart, cX10_isName, cX10_begins, cX10_readFresh, cX10_names, cX10_known, cX10_readAll, cX10_readLine, cX10_readWall, cX10_readBill, cX10_readRival, cX10_readWord, cX10_readPlaced, cX10_readFounder, cX10_readPaste, cX10_feed, cX10_wall, cX10_fault, cX10_where, cX10_isBill, cX10_isRival, cX10_isHung, cX10_isCell, cX10_isOn, cX10_mayAt, cX10_isOnAt, cX10_cells, cX10_bill, cX10_hanging, cX10_hung, cX10_shows, cX10_letter, cX10_beneath, cX10_under, cX10_over, cX10_refusesPlace, cX10_on, cX10_may, cX10_places, cX10_place, cX10_isFull, cX10_full, cX10_table, cX10_keeps, cX10_paste, cX10_peel, cX10_tear, cX10_scrape, cX10_seenBy, cX10_days, cX10_rival, cX10_undo, cX10_isTold, cX10_reads, cX10_readFrom, cX10_readAt, cX10_readBy, cX10_makes, cX10_pasted, cX10_seenNow, cX10_staysNow, cX10_stays, cX10_best, cX10_goes, cX10_refusesRows, cX10_refusesSafely, cX10_far, cX10_shortest, cX10_winsNow, cX10_loses, cX10_wins, cX10_isAllBy, cX10_goesFor, cX10_close, cX10_firstPlace, cX10_life, cX10_ordersNow, cX10_comes, cX10_looksSame, cX10_orders, cX10_ahead, cX10_mark, cX10_back, cX10_led, cX10_size, cX10_trouble, cJ6_bitCount_0f7a4, cJ0_length_8abf5, cJ0_charAt_5068e]
def mj_mL : List Nat := [1, 2, 2, 6, 2, 3, 3, 4, 4, 3, 5, 6, 4, 4, 2, 6, 3, 5, 6, 4, 7, 3, 8, 2, 4, 4, 15, 1, 4, 8, 1, 4, 5, 5, 6, 3, 5, 8, 7, 9, 1, 1, 1, 3, 1, 2, 1, 2, 2, 3, 3, 1, 5, 3, 2, 1, 4, 6, 3, 1, 3, 4, 3, 2, 3, 1, 1, 1, 3, 3, 4, 1, 3, 1, 2, 2, 1, 1, 1, 3, 1, 1, 1, 6, 9, 6, 9, 4, 3, 5, 3, 3, 1, 2, 6, 5, 1, 3, 1, 6, 2, 1, 1, 3, 1, 3, 4, 5, 2, 2, 6, 5, 5, 2, 4, 1, 4, 6, 1, 2, 1, 5, 3, 1, 2, 2, 4, 2, 5, 3, 3, 3, 3, 5, 3, 1, 3, 1, 2, 3, 2, 1, 2, 2, 1, 2, 3, 1, 2, 2, 2, 2, 1, 1, 7, 1, 5, 1, 4, 4, 8, 1, 1, 2, 2, 2, 1, 3, 5, 5, 5, 7, 6, 6, 8, 11, 9, 6, 2, 1, 1, 4, 3, 2, 2, 3, 3, 2, 4, 4, 1, 4, 3, 5, 3, 2, 1, 5, 8, 4, 2, 2, 2, 3, 8, 3, 1, 1, 2, 2, 2, 3, 4, 3, 3, 1, 3, 1, 3, 4, 4, 6, 4, 4, 4, 5, 5, 4, 5, 3, 1, 6, 2, 5, 1, 4, 1, 4, 4, 3, 1, 2, 2, 3, 2, 4, 4, 3, 2, 8, 5, 6, 7, 2, 4, 3, 3, 5, 5, 3, 3, 7, 5, 5, 7, 5, 5, 3, 1, 3, 2, 2, 4, 2, 1, 1, 1, 2]
def mj_rL : List (Option FieldType) := [none, none, none, none, none, none, none, none, none, (some .int), (some .int), (some .int), (some .int), (some .int), (some .boolean), (some .int), (some .boolean), (some .boolean), (some .int), (some .int), (some .int), (some .boolean), none, (some .int), (some .int), (some .int), (some .boolean), none, none, none, none, (some .int), (some .boolean), (some .int), (some .int), (some .boolean), (some .boolean), (some .int), (some .int), (some .int), (some .int), (some .int), (some .int), none, none, none, none, none, (some .boolean), (some .boolean), (some .int), none, (some .int), (some (.object "CoverTwo$Hung")), (some .boolean), (some .boolean), (some .boolean), (some .boolean), (some .boolean), (some .boolean), (some .boolean), (some .boolean), (some .boolean), (some .boolean), (some .boolean), (some .boolean), (some .boolean), (some .boolean), (some .boolean), (some .boolean), (some .int), none, none, none, (some .boolean), (some .boolean), none, none, none, (some .boolean), (some .boolean), none, none, none, none, (some .int), (some .long), none, (some .int), (some .int), (some .boolean), (some .int), (some .int), (some .int), (some .int), (some .int), (some .long), (some .int), none, (some .int), (some .int), (some .int), (some .int), (some .int), (some .int), (some .int), (some .int), (some .int), (some .int), (some .int), (some .int), (some .int), (some .int), (some .int), (some .int), (some .int), (some .int), (some .boolean), (some .boolean), (some .boolean), (some .boolean), (some .int), (some .int), (some .boolean), (some .int), (some .int), (some .int), (some .int), (some .int), (some .int), (some .int), (some .int), (some .int), (some .int), (some .int), (some .int), (some .int), (some .int), (some .boolean), (some .int), (some .int), (some .int), (some .int), (some .int), (some .boolean), (some .boolean), none, (some .boolean), (some .boolean), (some .boolean), (some .boolean), (some .boolean), none, (some .int), none, none, none, none, (some .int), (some .int), (some .long), none, (some .int), (some .int), (some .boolean), (some .int), (some .boolean), (some .boolean), none, (some .long), (some .int), (some .int), (some .boolean), (some .int), (some .boolean), (some .int), (some .boolean), (some .boolean), (some .int), (some .boolean), (some .boolean), (some .long), none, none, (some .boolean), (some .boolean), (some .boolean), none, (some .int), (some .int), (some .boolean), none, (some .long), none, (some .int), none, none, none, none, none, none, (some .int), none, none, (some .int), (some .int), (some .int), (some .int), (some .boolean), (some .boolean), (some .boolean), (some .boolean), (some .boolean), (some .boolean), (some .boolean), (some .int), (some .int), (some .int), (some .int), (some .int), (some .int), (some .int), (some .int), (some .int), (some .int), (some .int), (some .int), (some .int), (some .int), (some .boolean), (some .int), (some .int), none, (some .boolean), (some .boolean), (some .boolean), (some .boolean), (some .int), (some .int), (some .int), (some .boolean), (some .boolean), (some .int), (some .int), (some .int), (some .int), (some .int), none, (some .int), (some .int), (some .int), (some .int), (some .boolean), (some .int), (some .int), (some .int), (some .int), (some .boolean), (some .boolean), (some .int), (some .boolean), (some .boolean), (some .int), (some .int), (some .int), (some .int), (some .int), (some .boolean), (some .int), (some .int), (some .int), (some .boolean), (some .int), (some .int), (some .int), (some .int), (some .int), (some .char)]
def mj_oL : List Nat := [0, 0, 0, 0, 0, 0, 0, 0, 0, 0, 0, 0, 0, 0, 0, 0, 0, 0, 0, 0, 0, 0, 0, 0, 0, 0, 0, 1, 1, 1, 2, 2, 2, 2, 2, 2, 2, 2, 2, 2, 2, 2, 2, 2, 2, 3, 3, 3, 3, 3, 3, 4, 4, 4, 4, 4, 4, 4, 4, 4, 4, 4, 4, 4, 4, 4, 4, 4, 4, 4, 4, 5, 5, 5, 5, 5, 5, 5, 5, 5, 5, 6, 6, 6, 6, 6, 6, 6, 6, 6, 6, 6, 6, 6, 6, 6, 6, 6, 7, 7, 7, 7, 7, 7, 7, 7, 7, 7, 7, 7, 7, 7, 7, 7, 7, 7, 7, 7, 7, 7, 7, 7, 7, 7, 7, 7, 7, 7, 7, 7, 7, 7, 7, 7, 7, 7, 7, 7, 7, 7, 7, 7, 7, 7, 7, 7, 7, 7, 7, 7, 7, 7, 8, 8, 8, 8, 8, 9, 9, 9, 9, 10, 10, 10, 10, 10, 10, 10, 10, 10, 10, 10, 10, 10, 10, 10, 10, 10, 10, 10, 10, 10, 10, 10, 10, 10, 10, 10, 10, 10, 10, 10, 10, 10, 10, 10, 10, 10, 10, 10, 10, 10, 10, 10, 10, 10, 10, 10, 10, 10, 10, 10, 10, 10, 10, 10, 10, 10, 10, 10, 10, 10, 10, 10, 10, 10, 10, 10, 10, 10, 10, 10, 10, 10, 10, 10, 10, 10, 10, 10, 10, 10, 10, 10, 10, 10, 10, 10, 10, 10, 10, 10, 10, 10, 10, 10, 10, 10, 10, 10, 10, 10, 10, 10, 10, 10, 10, 10, 10, 10, 10, 10, 10, 10, 10, 12, 14, 14]
def mj_nL : List Nat := [0, 0, 1, 3, 1, 1, 0, 1, 1, 1, 2, 3, 1, 1, 1, 3, 2, 4, 3, 1, 4, 0, 0, 1, 1, 1, 2, 0, 3, 4, 0, 3, 2, 3, 3, 2, 2, 3, 2, 3, 0, 1, 1, 2, 0, 1, 0, 1, 1, 2, 1, 0, 2, 1, 1, 0, 0, 0, 0, 0, 0, 0, 2, 1, 2, 0, 0, 0, 2, 1, 2, 0, 2, 0, 1, 1, 0, 0, 0, 1, 0, 0, 0, 4, 5, 2, 4, 2, 2, 3, 2, 2, 0, 1, 2, 2, 1, 2, 0, 5, 1, 0, 0, 2, 0, 2, 2, 2, 1, 1, 3, 3, 3, 1, 2, 0, 3, 4, 0, 1, 0, 1, 2, 0, 1, 1, 2, 1, 3, 1, 1, 1, 1, 2, 2, 0, 2, 0, 1, 1, 1, 0, 1, 1, 0, 1, 1, 0, 1, 1, 1, 1, 0, 0, 5, 0, 3, 0, 1, 1, 3, 0, 0, 1, 1, 1, 0, 3, 2, 1, 1, 3, 4, 3, 5, 6, 7, 5, 1, 1, 1, 1, 0, 1, 1, 1, 1, 1, 2, 3, 0, 3, 0, 3, 1, 0, 0, 0, 0, 0, 0, 0, 0, 0, 5, 1, 0, 0, 1, 1, 1, 2, 3, 2, 2, 0, 2, 0, 2, 2, 2, 3, 1, 1, 3, 3, 3, 1, 2, 0, 0, 3, 0, 4, 0, 1, 0, 1, 1, 2, 0, 1, 1, 1, 1, 2, 1, 2, 1, 2, 3, 1, 2, 1, 1, 1, 1, 1, 1, 1, 1, 3, 2, 3, 2, 2, 1, 0, 0, 2, 0, 1, 1, 1, 0, 1, 0, 1]
def mj_n : Nat := 278
def mj_y (i : Nat) : MethodName := mj_yL.getD i yX0_init
def mj_b (i : Nat) : ByteArray := mj_bL.getD i ⟨#[]⟩
def mj_mx (i : Nat) : Nat := mj_mL.getD i 0
def mj_rt (i : Nat) : Option FieldType := mj_rL.getD i none
def mj_o (i : Nat) : Nat := mj_oL.getD i 0
def mj_np (i : Nat) : Nat := mj_nL.getD i 0
theorem mj_tb {w : Cond} (i : Nat) (h : tables_1[i]? = some w) (g : goodWord w = true) : w ∈ mj_gw := mj_gw_in (List.mem_append_right _ (List.mem_of_getElem? h)) g
theorem mj_sb {w : Cond} (i : Nat) (h : (k2_sels lw_privs)[i]? = some w) (g : goodWord w = true) : w ∈ mj_gw := mj_gw_in (List.mem_append_left _ (List.mem_of_getElem? h)) g
def mj_mok (i : Nat) : Prop := Cond.code (mj_y i) (mj_b i) (mj_mx i) (mj_rt i) ∈ mj_gw ∧ Cond.initialized (mj_y i).cls ∈ mj_gw ∧ (mj_y i).cls = mj_R (mj_o i) ∧ plainName (mj_y i).cls = true ∧ ((mj_y i).cls ≠ "java/lang/invoke/MethodHandle" ∧ (mj_y i).cls ≠ "java/lang/invoke/VarHandle" ∧ (parseMethodDescriptor (mj_y i).desc).map (fun d => d.parameters.length) = some (mj_np i)) ∧ mj_mx i ≤ 40
set_option maxRecDepth 100000 in
theorem mk_0 : mj_mok 0 := ⟨mj_tb 35 rfl rfl, (mj_tb 2 (by decide +kernel) rfl), rfl, by decide, by decide +kernel, by decide⟩
set_option maxRecDepth 100000 in
theorem mk_1 : mj_mok 1 := ⟨mj_tb 409 rfl rfl, (mj_tb 2 (by decide +kernel) rfl), rfl, by decide, by decide +kernel, by decide⟩
set_option maxRecDepth 100000 in
theorem mk_2 : mj_mok 2 := ⟨mj_tb 940 rfl rfl, (mj_tb 2 (by decide +kernel) rfl), rfl, by decide, by decide +kernel, by decide⟩
set_option maxRecDepth 100000 in
theorem mk_3 : mj_mok 3 := ⟨mj_tb 619 rfl rfl, (mj_tb 2 (by decide +kernel) rfl), rfl, by decide, by decide +kernel, by decide⟩
set_option maxRecDepth 100000 in
theorem mk_4 : mj_mok 4 := ⟨mj_tb 849 rfl rfl, (mj_tb 2 (by decide +kernel) rfl), rfl, by decide, by decide +kernel, by decide⟩
set_option maxRecDepth 100000 in
theorem mk_5 : mj_mok 5 := ⟨mj_tb 857 rfl rfl, (mj_tb 2 (by decide +kernel) rfl), rfl, by decide, by decide +kernel, by decide⟩
set_option maxRecDepth 100000 in
theorem mk_6 : mj_mok 6 := ⟨mj_tb 417 rfl rfl, (mj_tb 2 (by decide +kernel) rfl), rfl, by decide, by decide +kernel, by decide⟩
set_option maxRecDepth 100000 in
theorem mk_7 : mj_mok 7 := ⟨mj_tb 833 rfl rfl, (mj_tb 2 (by decide +kernel) rfl), rfl, by decide, by decide +kernel, by decide⟩
set_option maxRecDepth 100000 in
theorem mk_8 : mj_mok 8 := ⟨mj_tb 891 rfl rfl, (mj_tb 2 (by decide +kernel) rfl), rfl, by decide, by decide +kernel, by decide⟩
set_option maxRecDepth 100000 in
theorem mk_9 : mj_mok 9 := ⟨mj_tb 728 rfl rfl, (mj_tb 2 (by decide +kernel) rfl), rfl, by decide, by decide +kernel, by decide⟩
set_option maxRecDepth 100000 in
theorem mk_10 : mj_mok 10 := ⟨mj_tb 732 rfl rfl, (mj_tb 2 (by decide +kernel) rfl), rfl, by decide, by decide +kernel, by decide⟩
set_option maxRecDepth 100000 in
theorem mk_11 : mj_mok 11 := ⟨mj_tb 749 rfl rfl, (mj_tb 2 (by decide +kernel) rfl), rfl, by decide, by decide +kernel, by decide⟩
set_option maxRecDepth 100000 in
theorem mk_12 : mj_mok 12 := ⟨mj_tb 1081 rfl rfl, (mj_tb 2 (by decide +kernel) rfl), rfl, by decide, by decide +kernel, by decide⟩
set_option maxRecDepth 100000 in
theorem mk_13 : mj_mok 13 := ⟨mj_tb 871 rfl rfl, (mj_tb 2 (by decide +kernel) rfl), rfl, by decide, by decide +kernel, by decide⟩
set_option maxRecDepth 100000 in
theorem mk_14 : mj_mok 14 := ⟨mj_tb 1004 rfl rfl, (mj_tb 2 (by decide +kernel) rfl), rfl, by decide, by decide +kernel, by decide⟩
set_option maxRecDepth 100000 in
theorem mk_15 : mj_mok 15 := ⟨mj_tb 649 rfl rfl, (mj_tb 2 (by decide +kernel) rfl), rfl, by decide, by decide +kernel, by decide⟩
set_option maxRecDepth 100000 in
theorem mk_16 : mj_mok 16 := ⟨mj_tb 633 rfl rfl, (mj_tb 2 (by decide +kernel) rfl), rfl, by decide, by decide +kernel, by decide⟩
set_option maxRecDepth 100000 in
theorem mk_17 : mj_mok 17 := ⟨mj_tb 641 rfl rfl, (mj_tb 2 (by decide +kernel) rfl), rfl, by decide, by decide +kernel, by decide⟩
set_option maxRecDepth 100000 in
theorem mk_18 : mj_mok 18 := ⟨mj_tb 784 rfl rfl, (mj_tb 2 (by decide +kernel) rfl), rfl, by decide, by decide +kernel, by decide⟩
set_option maxRecDepth 100000 in
theorem mk_19 : mj_mok 19 := ⟨mj_tb 928 rfl rfl, (mj_tb 2 (by decide +kernel) rfl), rfl, by decide, by decide +kernel, by decide⟩
set_option maxRecDepth 100000 in
theorem mk_20 : mj_mok 20 := ⟨mj_tb 796 rfl rfl, (mj_tb 2 (by decide +kernel) rfl), rfl, by decide, by decide +kernel, by decide⟩
set_option maxRecDepth 100000 in
theorem mk_21 : mj_mok 21 := ⟨mj_tb 804 rfl rfl, (mj_tb 2 (by decide +kernel) rfl), rfl, by decide, by decide +kernel, by decide⟩
set_option maxRecDepth 100000 in
theorem mk_22 : mj_mok 22 := ⟨mj_tb 657 rfl rfl, (mj_tb 2 (by decide +kernel) rfl), rfl, by decide, by decide +kernel, by decide⟩
set_option maxRecDepth 100000 in
theorem mk_23 : mj_mok 23 := ⟨mj_tb 740 rfl rfl, (mj_tb 2 (by decide +kernel) rfl), rfl, by decide, by decide +kernel, by decide⟩
set_option maxRecDepth 100000 in
theorem mk_24 : mj_mok 24 := ⟨mj_tb 904 rfl rfl, (mj_tb 2 (by decide +kernel) rfl), rfl, by decide, by decide +kernel, by decide⟩
set_option maxRecDepth 100000 in
theorem mk_25 : mj_mok 25 := ⟨mj_tb 912 rfl rfl, (mj_tb 2 (by decide +kernel) rfl), rfl, by decide, by decide +kernel, by decide⟩
set_option maxRecDepth 100000 in
theorem mk_26 : mj_mok 26 := ⟨mj_tb 653 rfl rfl, (mj_tb 2 (by decide +kernel) rfl), rfl, by decide, by decide +kernel, by decide⟩
set_option maxRecDepth 100000 in
theorem mk_27 : mj_mok 27 := ⟨mj_tb 327 rfl rfl, (mj_tb 9 (by decide +kernel) rfl), rfl, by decide, by decide +kernel, by decide⟩
set_option maxRecDepth 100000 in
theorem mk_28 : mj_mok 28 := ⟨mj_tb 1040 rfl rfl, (mj_tb 9 (by decide +kernel) rfl), rfl, by decide, by decide +kernel, by decide⟩
set_option maxRecDepth 100000 in
theorem mk_29 : mj_mok 29 := ⟨mj_tb 1046 rfl rfl, (mj_tb 9 (by decide +kernel) rfl), rfl, by decide, by decide +kernel, by decide⟩
set_option maxRecDepth 100000 in
theorem mk_30 : mj_mok 30 := ⟨mj_tb 308 rfl rfl, (mj_tb 8 (by decide +kernel) rfl), rfl, by decide, by decide +kernel, by decide⟩
set_option maxRecDepth 100000 in
theorem mk_31 : mj_mok 31 := ⟨mj_tb 973 rfl rfl, (mj_tb 8 (by decide +kernel) rfl), rfl, by decide, by decide +kernel, by decide⟩
set_option maxRecDepth 100000 in
theorem mk_32 : mj_mok 32 := ⟨mj_tb 977 rfl rfl, (mj_tb 8 (by decide +kernel) rfl), rfl, by decide, by decide +kernel, by decide⟩
set_option maxRecDepth 100000 in
theorem mk_33 : mj_mok 33 := ⟨mj_tb 995 rfl rfl, (mj_tb 8 (by decide +kernel) rfl), rfl, by decide, by decide +kernel, by decide⟩
set_option maxRecDepth 100000 in
theorem mk_34 : mj_mok 34 := ⟨mj_tb 999 rfl rfl, (mj_tb 8 (by decide +kernel) rfl), rfl, by decide, by decide +kernel, by decide⟩
set_option maxRecDepth 100000 in
theorem mk_35 : mj_mok 35 := ⟨mj_tb 1014 rfl rfl, (mj_tb 8 (by decide +kernel) rfl), rfl, by decide, by decide +kernel, by decide⟩
set_option maxRecDepth 100000 in
theorem mk_36 : mj_mok 36 := ⟨mj_tb 1018 rfl rfl, (mj_tb 8 (by decide +kernel) rfl), rfl, by decide, by decide +kernel, by decide⟩
set_option maxRecDepth 100000 in
theorem mk_37 : mj_mok 37 := ⟨mj_tb 936 rfl rfl, (mj_tb 8 (by decide +kernel) rfl), rfl, by decide, by decide +kernel, by decide⟩
set_option maxRecDepth 100000 in
theorem mk_38 : mj_mok 38 := ⟨mj_tb 963 rfl rfl, (mj_tb 8 (by decide +kernel) rfl), rfl, by decide, by decide +kernel, by decide⟩
set_option maxRecDepth 100000 in
theorem mk_39 : mj_mok 39 := ⟨mj_tb 1031 rfl rfl, (mj_tb 8 (by decide +kernel) rfl), rfl, by decide, by decide +kernel, by decide⟩
set_option maxRecDepth 100000 in
theorem mk_40 : mj_mok 40 := ⟨mj_tb 947 rfl rfl, (mj_tb 8 (by decide +kernel) rfl), rfl, by decide, by decide +kernel, by decide⟩
set_option maxRecDepth 100000 in
theorem mk_41 : mj_mok 41 := ⟨mj_tb 950 rfl rfl, (mj_tb 8 (by decide +kernel) rfl), rfl, by decide, by decide +kernel, by decide⟩
set_option maxRecDepth 100000 in
theorem mk_42 : mj_mok 42 := ⟨mj_tb 953 rfl rfl, (mj_tb 8 (by decide +kernel) rfl), rfl, by decide, by decide +kernel, by decide⟩
set_option maxRecDepth 100000 in
theorem mk_43 : mj_mok 43 := ⟨mj_tb 982 rfl rfl, (mj_tb 8 (by decide +kernel) rfl), rfl, by decide, by decide +kernel, by decide⟩
set_option maxRecDepth 100000 in
theorem mk_44 : mj_mok 44 := ⟨mj_tb 986 rfl rfl, (mj_tb 8 (by decide +kernel) rfl), rfl, by decide, by decide +kernel, by decide⟩
set_option maxRecDepth 100000 in
theorem mk_45 : mj_mok 45 := ⟨mj_tb 286 rfl rfl, (mj_tb 6 (by decide +kernel) rfl), rfl, by decide, by decide +kernel, by decide⟩
set_option maxRecDepth 100000 in
theorem mk_46 : mj_mok 46 := ⟨mj_tb 674 rfl rfl, (mj_tb 6 (by decide +kernel) rfl), rfl, by decide, by decide +kernel, by decide⟩
set_option maxRecDepth 100000 in
theorem mk_47 : mj_mok 47 := ⟨mj_tb 825 rfl rfl, (mj_tb 6 (by decide +kernel) rfl), rfl, by decide, by decide +kernel, by decide⟩
set_option maxRecDepth 100000 in
theorem mk_48 : mj_mok 48 := ⟨mj_tb 883 rfl rfl, (mj_tb 6 (by decide +kernel) rfl), rfl, by decide, by decide +kernel, by decide⟩
set_option maxRecDepth 100000 in
theorem mk_49 : mj_mok 49 := ⟨mj_tb 887 rfl rfl, (mj_tb 6 (by decide +kernel) rfl), rfl, by decide, by decide +kernel, by decide⟩
set_option maxRecDepth 100000 in
theorem mk_50 : mj_mok 50 := ⟨mj_tb 829 rfl rfl, (mj_tb 6 (by decide +kernel) rfl), rfl, by decide, by decide +kernel, by decide⟩
set_option maxRecDepth 100000 in
theorem mk_51 : mj_mok 51 := ⟨mj_tb 207 rfl rfl, (mj_tb 4 (by decide +kernel) rfl), rfl, by decide, by decide +kernel, by decide⟩
set_option maxRecDepth 100000 in
theorem mk_52 : mj_mok 52 := ⟨mj_tb 405 rfl rfl, (mj_tb 4 (by decide +kernel) rfl), rfl, by decide, by decide +kernel, by decide⟩
set_option maxRecDepth 100000 in
theorem mk_53 : mj_mok 53 := ⟨mj_tb 670 rfl rfl, (mj_tb 4 (by decide +kernel) rfl), rfl, by decide, by decide +kernel, by decide⟩
set_option maxRecDepth 100000 in
theorem mk_54 : mj_mok 54 := ⟨mj_tb 512 rfl rfl, (mj_tb 4 (by decide +kernel) rfl), rfl, by decide, by decide +kernel, by decide⟩
set_option maxRecDepth 100000 in
theorem mk_55 : mj_mok 55 := ⟨mj_tb 666 rfl rfl, (mj_tb 4 (by decide +kernel) rfl), rfl, by decide, by decide +kernel, by decide⟩
set_option maxRecDepth 100000 in
theorem mk_56 : mj_mok 56 := ⟨mj_tb 508 rfl rfl, (mj_tb 4 (by decide +kernel) rfl), rfl, by decide, by decide +kernel, by decide⟩
set_option maxRecDepth 100000 in
theorem mk_57 : mj_mok 57 := ⟨mj_tb 535 rfl rfl, (mj_tb 4 (by decide +kernel) rfl), rfl, by decide, by decide +kernel, by decide⟩
set_option maxRecDepth 100000 in
theorem mk_58 : mj_mok 58 := ⟨mj_tb 591 rfl rfl, (mj_tb 4 (by decide +kernel) rfl), rfl, by decide, by decide +kernel, by decide⟩
set_option maxRecDepth 100000 in
theorem mk_59 : mj_mok 59 := ⟨mj_tb 597 rfl rfl, (mj_tb 4 (by decide +kernel) rfl), rfl, by decide, by decide +kernel, by decide⟩
set_option maxRecDepth 100000 in
theorem mk_60 : mj_mok 60 := ⟨mj_tb 606 rfl rfl, (mj_tb 4 (by decide +kernel) rfl), rfl, by decide, by decide +kernel, by decide⟩
set_option maxRecDepth 100000 in
theorem mk_61 : mj_mok 61 := ⟨mj_tb 628 rfl rfl, (mj_tb 4 (by decide +kernel) rfl), rfl, by decide, by decide +kernel, by decide⟩
set_option maxRecDepth 100000 in
theorem mk_62 : mj_mok 62 := ⟨mj_tb 539 rfl rfl, (mj_tb 4 (by decide +kernel) rfl), rfl, by decide, by decide +kernel, by decide⟩
set_option maxRecDepth 100000 in
theorem mk_63 : mj_mok 63 := ⟨mj_tb 518 rfl rfl, (mj_tb 4 (by decide +kernel) rfl), rfl, by decide, by decide +kernel, by decide⟩
set_option maxRecDepth 100000 in
theorem mk_64 : mj_mok 64 := ⟨mj_tb 522 rfl rfl, (mj_tb 4 (by decide +kernel) rfl), rfl, by decide, by decide +kernel, by decide⟩
set_option maxRecDepth 100000 in
theorem mk_65 : mj_mok 65 := ⟨mj_tb 562 rfl rfl, (mj_tb 4 (by decide +kernel) rfl), rfl, by decide, by decide +kernel, by decide⟩
set_option maxRecDepth 100000 in
theorem mk_66 : mj_mok 66 := ⟨mj_tb 566 rfl rfl, (mj_tb 4 (by decide +kernel) rfl), rfl, by decide, by decide +kernel, by decide⟩
set_option maxRecDepth 100000 in
theorem mk_67 : mj_mok 67 := ⟨mj_tb 543 rfl rfl, (mj_tb 4 (by decide +kernel) rfl), rfl, by decide, by decide +kernel, by decide⟩
set_option maxRecDepth 100000 in
theorem mk_68 : mj_mok 68 := ⟨mj_tb 610 rfl rfl, (mj_tb 4 (by decide +kernel) rfl), rfl, by decide, by decide +kernel, by decide⟩
set_option maxRecDepth 100000 in
theorem mk_69 : mj_mok 69 := ⟨mj_tb 614 rfl rfl, (mj_tb 4 (by decide +kernel) rfl), rfl, by decide, by decide +kernel, by decide⟩
set_option maxRecDepth 100000 in
theorem mk_70 : mj_mok 70 := ⟨mj_tb 558 rfl rfl, (mj_tb 4 (by decide +kernel) rfl), rfl, by decide, by decide +kernel, by decide⟩
set_option maxRecDepth 100000 in
theorem mk_71 : mj_mok 71 := ⟨mj_tb 213 rfl rfl, (mj_tb 5 (by decide +kernel) rfl), rfl, by decide, by decide +kernel, by decide⟩
set_option maxRecDepth 100000 in
theorem mk_72 : mj_mok 72 := ⟨mj_tb 421 rfl rfl, (mj_tb 5 (by decide +kernel) rfl), rfl, by decide, by decide +kernel, by decide⟩
set_option maxRecDepth 100000 in
theorem mk_73 : mj_mok 73 := ⟨mj_tb 428 rfl rfl, (mj_tb 5 (by decide +kernel) rfl), rfl, by decide, by decide +kernel, by decide⟩
set_option maxRecDepth 100000 in
theorem mk_74 : mj_mok 74 := ⟨mj_tb 432 rfl rfl, (mj_tb 5 (by decide +kernel) rfl), rfl, by decide, by decide +kernel, by decide⟩
set_option maxRecDepth 100000 in
theorem mk_75 : mj_mok 75 := ⟨mj_tb 440 rfl rfl, (mj_tb 5 (by decide +kernel) rfl), rfl, by decide, by decide +kernel, by decide⟩
set_option maxRecDepth 100000 in
theorem mk_76 : mj_mok 76 := ⟨mj_tb 436 rfl rfl, (mj_tb 5 (by decide +kernel) rfl), rfl, by decide, by decide +kernel, by decide⟩
set_option maxRecDepth 100000 in
theorem mk_77 : mj_mok 77 := ⟨mj_tb 444 rfl rfl, (mj_tb 5 (by decide +kernel) rfl), rfl, by decide, by decide +kernel, by decide⟩
set_option maxRecDepth 100000 in
theorem mk_78 : mj_mok 78 := ⟨mj_tb 448 rfl rfl, (mj_tb 5 (by decide +kernel) rfl), rfl, by decide, by decide +kernel, by decide⟩
set_option maxRecDepth 100000 in
theorem mk_79 : mj_mok 79 := ⟨mj_tb 453 rfl rfl, (mj_tb 5 (by decide +kernel) rfl), rfl, by decide, by decide +kernel, by decide⟩
set_option maxRecDepth 100000 in
theorem mk_80 : mj_mok 80 := ⟨mj_tb 547 rfl rfl, (mj_tb 5 (by decide +kernel) rfl), rfl, by decide, by decide +kernel, by decide⟩
set_option maxRecDepth 100000 in
theorem mk_81 : mj_mok 81 := ⟨mj_tb 41 rfl rfl, (mj_tb 3 (by decide +kernel) rfl), rfl, by decide, by decide +kernel, by decide⟩
set_option maxRecDepth 100000 in
theorem mk_82 : mj_mok 82 := ⟨mj_tb 413 rfl rfl, (mj_tb 3 (by decide +kernel) rfl), rfl, by decide, by decide +kernel, by decide⟩
set_option maxRecDepth 100000 in
theorem mk_83 : mj_mok 83 := ⟨mj_tb 530 rfl rfl, (mj_tb 3 (by decide +kernel) rfl), rfl, by decide, by decide +kernel, by decide⟩
set_option maxRecDepth 100000 in
theorem mk_84 : mj_mok 84 := ⟨mj_tb 575 rfl rfl, (mj_tb 3 (by decide +kernel) rfl), rfl, by decide, by decide +kernel, by decide⟩
set_option maxRecDepth 100000 in
theorem mk_85 : mj_mok 85 := ⟨mj_tb 579 rfl rfl, (mj_tb 3 (by decide +kernel) rfl), rfl, by decide, by decide +kernel, by decide⟩
set_option maxRecDepth 100000 in
theorem mk_86 : mj_mok 86 := ⟨mj_tb 585 rfl rfl, (mj_tb 3 (by decide +kernel) rfl), rfl, by decide, by decide +kernel, by decide⟩
set_option maxRecDepth 100000 in
theorem mk_87 : mj_mok 87 := ⟨mj_tb 601 rfl rfl, (mj_tb 3 (by decide +kernel) rfl), rfl, by decide, by decide +kernel, by decide⟩
set_option maxRecDepth 100000 in
theorem mk_88 : mj_mok 88 := ⟨mj_tb 724 rfl rfl, (mj_tb 3 (by decide +kernel) rfl), rfl, by decide, by decide +kernel, by decide⟩
set_option maxRecDepth 100000 in
theorem mk_89 : mj_mok 89 := ⟨mj_tb 766 rfl rfl, (mj_tb 3 (by decide +kernel) rfl), rfl, by decide, by decide +kernel, by decide⟩
set_option maxRecDepth 100000 in
theorem mk_90 : mj_mok 90 := ⟨mj_tb 645 rfl rfl, (mj_tb 3 (by decide +kernel) rfl), rfl, by decide, by decide +kernel, by decide⟩
set_option maxRecDepth 100000 in
theorem mk_91 : mj_mok 91 := ⟨mj_tb 623 rfl rfl, (mj_tb 3 (by decide +kernel) rfl), rfl, by decide, by decide +kernel, by decide⟩
set_option maxRecDepth 100000 in
theorem mk_92 : mj_mok 92 := ⟨mj_tb 788 rfl rfl, (mj_tb 3 (by decide +kernel) rfl), rfl, by decide, by decide +kernel, by decide⟩
set_option maxRecDepth 100000 in
theorem mk_93 : mj_mok 93 := ⟨mj_tb 637 rfl rfl, (mj_tb 3 (by decide +kernel) rfl), rfl, by decide, by decide +kernel, by decide⟩
set_option maxRecDepth 100000 in
theorem mk_94 : mj_mok 94 := ⟨mj_tb 662 rfl rfl, (mj_tb 3 (by decide +kernel) rfl), rfl, by decide, by decide +kernel, by decide⟩
set_option maxRecDepth 100000 in
theorem mk_95 : mj_mok 95 := ⟨mj_tb 916 rfl rfl, (mj_tb 3 (by decide +kernel) rfl), rfl, by decide, by decide +kernel, by decide⟩
set_option maxRecDepth 100000 in
theorem mk_96 : mj_mok 96 := ⟨mj_tb 582 rfl rfl, (mj_tb 3 (by decide +kernel) rfl), rfl, by decide, by decide +kernel, by decide⟩
set_option maxRecDepth 100000 in
theorem mk_97 : mj_mok 97 := ⟨mj_tb 466 rfl rfl, (mj_tb 3 (by decide +kernel) rfl), rfl, by decide, by decide +kernel, by decide⟩
set_option maxRecDepth 100000 in
theorem mk_98 : mj_mok 98 := ⟨mj_tb 27 rfl rfl, (mj_tb 1 (by decide +kernel) rfl), rfl, by decide, by decide +kernel, by decide⟩
set_option maxRecDepth 100000 in
theorem mk_99 : mj_mok 99 := ⟨mj_tb 389 rfl rfl, (mj_tb 1 (by decide +kernel) rfl), rfl, by decide, by decide +kernel, by decide⟩
set_option maxRecDepth 100000 in
theorem mk_100 : mj_mok 100 := ⟨mj_tb 397 rfl rfl, (mj_tb 1 (by decide +kernel) rfl), rfl, by decide, by decide +kernel, by decide⟩
set_option maxRecDepth 100000 in
theorem mk_101 : mj_mok 101 := ⟨mj_tb 682 rfl rfl, (mj_tb 1 (by decide +kernel) rfl), rfl, by decide, by decide +kernel, by decide⟩
set_option maxRecDepth 100000 in
theorem mk_102 : mj_mok 102 := ⟨mj_tb 686 rfl rfl, (mj_tb 1 (by decide +kernel) rfl), rfl, by decide, by decide +kernel, by decide⟩
set_option maxRecDepth 100000 in
theorem mk_103 : mj_mok 103 := ⟨mj_tb 690 rfl rfl, (mj_tb 1 (by decide +kernel) rfl), rfl, by decide, by decide +kernel, by decide⟩
set_option maxRecDepth 100000 in
theorem mk_104 : mj_mok 104 := ⟨mj_tb 698 rfl rfl, (mj_tb 1 (by decide +kernel) rfl), rfl, by decide, by decide +kernel, by decide⟩
set_option maxRecDepth 100000 in
theorem mk_105 : mj_mok 105 := ⟨mj_tb 706 rfl rfl, (mj_tb 1 (by decide +kernel) rfl), rfl, by decide, by decide +kernel, by decide⟩
set_option maxRecDepth 100000 in
theorem mk_106 : mj_mok 106 := ⟨mj_tb 720 rfl rfl, (mj_tb 1 (by decide +kernel) rfl), rfl, by decide, by decide +kernel, by decide⟩
set_option maxRecDepth 100000 in
theorem mk_107 : mj_mok 107 := ⟨mj_tb 736 rfl rfl, (mj_tb 1 (by decide +kernel) rfl), rfl, by decide, by decide +kernel, by decide⟩
set_option maxRecDepth 100000 in
theorem mk_108 : mj_mok 108 := ⟨mj_tb 745 rfl rfl, (mj_tb 1 (by decide +kernel) rfl), rfl, by decide, by decide +kernel, by decide⟩
set_option maxRecDepth 100000 in
theorem mk_109 : mj_mok 109 := ⟨mj_tb 753 rfl rfl, (mj_tb 1 (by decide +kernel) rfl), rfl, by decide, by decide +kernel, by decide⟩
set_option maxRecDepth 100000 in
theorem mk_110 : mj_mok 110 := ⟨mj_tb 757 rfl rfl, (mj_tb 1 (by decide +kernel) rfl), rfl, by decide, by decide +kernel, by decide⟩
set_option maxRecDepth 100000 in
theorem mk_111 : mj_mok 111 := ⟨mj_tb 762 rfl rfl, (mj_tb 1 (by decide +kernel) rfl), rfl, by decide, by decide +kernel, by decide⟩
set_option maxRecDepth 100000 in
theorem mk_112 : mj_mok 112 := ⟨mj_tb 774 rfl rfl, (mj_tb 1 (by decide +kernel) rfl), rfl, by decide, by decide +kernel, by decide⟩
set_option maxRecDepth 100000 in
theorem mk_113 : mj_mok 113 := ⟨mj_tb 779 rfl rfl, (mj_tb 1 (by decide +kernel) rfl), rfl, by decide, by decide +kernel, by decide⟩
set_option maxRecDepth 100000 in
theorem mk_114 : mj_mok 114 := ⟨mj_tb 792 rfl rfl, (mj_tb 1 (by decide +kernel) rfl), rfl, by decide, by decide +kernel, by decide⟩
set_option maxRecDepth 100000 in
theorem mk_115 : mj_mok 115 := ⟨mj_tb 800 rfl rfl, (mj_tb 1 (by decide +kernel) rfl), rfl, by decide, by decide +kernel, by decide⟩
set_option maxRecDepth 100000 in
theorem mk_116 : mj_mok 116 := ⟨mj_tb 809 rfl rfl, (mj_tb 1 (by decide +kernel) rfl), rfl, by decide, by decide +kernel, by decide⟩
set_option maxRecDepth 100000 in
theorem mk_117 : mj_mok 117 := ⟨mj_tb 813 rfl rfl, (mj_tb 1 (by decide +kernel) rfl), rfl, by decide, by decide +kernel, by decide⟩
set_option maxRecDepth 100000 in
theorem mk_118 : mj_mok 118 := ⟨mj_tb 845 rfl rfl, (mj_tb 1 (by decide +kernel) rfl), rfl, by decide, by decide +kernel, by decide⟩
set_option maxRecDepth 100000 in
theorem mk_119 : mj_mok 119 := ⟨mj_tb 853 rfl rfl, (mj_tb 1 (by decide +kernel) rfl), rfl, by decide, by decide +kernel, by decide⟩
set_option maxRecDepth 100000 in
theorem mk_120 : mj_mok 120 := ⟨mj_tb 863 rfl rfl, (mj_tb 1 (by decide +kernel) rfl), rfl, by decide, by decide +kernel, by decide⟩
set_option maxRecDepth 100000 in
theorem mk_121 : mj_mok 121 := ⟨mj_tb 867 rfl rfl, (mj_tb 1 (by decide +kernel) rfl), rfl, by decide, by decide +kernel, by decide⟩
set_option maxRecDepth 100000 in
theorem mk_122 : mj_mok 122 := ⟨mj_tb 875 rfl rfl, (mj_tb 1 (by decide +kernel) rfl), rfl, by decide, by decide +kernel, by decide⟩
set_option maxRecDepth 100000 in
theorem mk_123 : mj_mok 123 := ⟨mj_tb 879 rfl rfl, (mj_tb 1 (by decide +kernel) rfl), rfl, by decide, by decide +kernel, by decide⟩
set_option maxRecDepth 100000 in
theorem mk_124 : mj_mok 124 := ⟨mj_tb 896 rfl rfl, (mj_tb 1 (by decide +kernel) rfl), rfl, by decide, by decide +kernel, by decide⟩
set_option maxRecDepth 100000 in
theorem mk_125 : mj_mok 125 := ⟨mj_tb 908 rfl rfl, (mj_tb 1 (by decide +kernel) rfl), rfl, by decide, by decide +kernel, by decide⟩
set_option maxRecDepth 100000 in
theorem mk_126 : mj_mok 126 := ⟨mj_tb 920 rfl rfl, (mj_tb 1 (by decide +kernel) rfl), rfl, by decide, by decide +kernel, by decide⟩
set_option maxRecDepth 100000 in
theorem mk_127 : mj_mok 127 := ⟨mj_tb 924 rfl rfl, (mj_tb 1 (by decide +kernel) rfl), rfl, by decide, by decide +kernel, by decide⟩
set_option maxRecDepth 100000 in
theorem mk_128 : mj_mok 128 := ⟨mj_tb 932 rfl rfl, (mj_tb 1 (by decide +kernel) rfl), rfl, by decide, by decide +kernel, by decide⟩
set_option maxRecDepth 100000 in
theorem mk_129 : mj_mok 129 := ⟨mj_tb 959 rfl rfl, (mj_tb 1 (by decide +kernel) rfl), rfl, by decide, by decide +kernel, by decide⟩
set_option maxRecDepth 100000 in
theorem mk_130 : mj_mok 130 := ⟨mj_tb 969 rfl rfl, (mj_tb 1 (by decide +kernel) rfl), rfl, by decide, by decide +kernel, by decide⟩
set_option maxRecDepth 100000 in
theorem mk_131 : mj_mok 131 := ⟨mj_tb 991 rfl rfl, (mj_tb 1 (by decide +kernel) rfl), rfl, by decide, by decide +kernel, by decide⟩
set_option maxRecDepth 100000 in
theorem mk_132 : mj_mok 132 := ⟨mj_tb 1010 rfl rfl, (mj_tb 1 (by decide +kernel) rfl), rfl, by decide, by decide +kernel, by decide⟩
set_option maxRecDepth 100000 in
theorem mk_133 : mj_mok 133 := ⟨mj_tb 1022 rfl rfl, (mj_tb 1 (by decide +kernel) rfl), rfl, by decide, by decide +kernel, by decide⟩
set_option maxRecDepth 100000 in
theorem mk_134 : mj_mok 134 := ⟨mj_tb 1027 rfl rfl, (mj_tb 1 (by decide +kernel) rfl), rfl, by decide, by decide +kernel, by decide⟩
set_option maxRecDepth 100000 in
theorem mk_135 : mj_mok 135 := ⟨mj_tb 1036 rfl rfl, (mj_tb 1 (by decide +kernel) rfl), rfl, by decide, by decide +kernel, by decide⟩
set_option maxRecDepth 100000 in
theorem mk_136 : mj_mok 136 := ⟨mj_tb 1052 rfl rfl, (mj_tb 1 (by decide +kernel) rfl), rfl, by decide, by decide +kernel, by decide⟩
set_option maxRecDepth 100000 in
theorem mk_137 : mj_mok 137 := ⟨mj_tb 1056 rfl rfl, (mj_tb 1 (by decide +kernel) rfl), rfl, by decide, by decide +kernel, by decide⟩
set_option maxRecDepth 100000 in
theorem mk_138 : mj_mok 138 := ⟨mj_tb 1060 rfl rfl, (mj_tb 1 (by decide +kernel) rfl), rfl, by decide, by decide +kernel, by decide⟩
set_option maxRecDepth 100000 in
theorem mk_139 : mj_mok 139 := ⟨mj_tb 1077 rfl rfl, (mj_tb 1 (by decide +kernel) rfl), rfl, by decide, by decide +kernel, by decide⟩
set_option maxRecDepth 100000 in
theorem mk_140 : mj_mok 140 := ⟨mj_tb 1065 rfl rfl, (mj_tb 1 (by decide +kernel) rfl), rfl, by decide, by decide +kernel, by decide⟩
set_option maxRecDepth 100000 in
theorem mk_141 : mj_mok 141 := ⟨mj_tb 1069 rfl rfl, (mj_tb 1 (by decide +kernel) rfl), rfl, by decide, by decide +kernel, by decide⟩
set_option maxRecDepth 100000 in
theorem mk_142 : mj_mok 142 := ⟨mj_tb 678 rfl rfl, (mj_tb 1 (by decide +kernel) rfl), rfl, by decide, by decide +kernel, by decide⟩
set_option maxRecDepth 100000 in
theorem mk_143 : mj_mok 143 := ⟨mj_tb 401 rfl rfl, (mj_tb 1 (by decide +kernel) rfl), rfl, by decide, by decide +kernel, by decide⟩
set_option maxRecDepth 100000 in
theorem mk_144 : mj_mok 144 := ⟨mj_tb 841 rfl rfl, (mj_tb 1 (by decide +kernel) rfl), rfl, by decide, by decide +kernel, by decide⟩
set_option maxRecDepth 100000 in
theorem mk_145 : mj_mok 145 := ⟨mj_tb 821 rfl rfl, (mj_tb 1 (by decide +kernel) rfl), rfl, by decide, by decide +kernel, by decide⟩
set_option maxRecDepth 100000 in
theorem mk_146 : mj_mok 146 := ⟨mj_tb 393 rfl rfl, (mj_tb 1 (by decide +kernel) rfl), rfl, by decide, by decide +kernel, by decide⟩
set_option maxRecDepth 100000 in
theorem mk_147 : mj_mok 147 := ⟨mj_tb 702 rfl rfl, (mj_tb 1 (by decide +kernel) rfl), rfl, by decide, by decide +kernel, by decide⟩
set_option maxRecDepth 100000 in
theorem mk_148 : mj_mok 148 := ⟨mj_tb 694 rfl rfl, (mj_tb 1 (by decide +kernel) rfl), rfl, by decide, by decide +kernel, by decide⟩
set_option maxRecDepth 100000 in
theorem mk_149 : mj_mok 149 := ⟨mj_tb 817 rfl rfl, (mj_tb 1 (by decide +kernel) rfl), rfl, by decide, by decide +kernel, by decide⟩
set_option maxRecDepth 100000 in
theorem mk_150 : mj_mok 150 := ⟨mj_tb 900 rfl rfl, (mj_tb 1 (by decide +kernel) rfl), rfl, by decide, by decide +kernel, by decide⟩
set_option maxRecDepth 100000 in
theorem mk_151 : mj_mok 151 := ⟨mj_tb 710 rfl rfl, (mj_tb 1 (by decide +kernel) rfl), rfl, by decide, by decide +kernel, by decide⟩
set_option maxRecDepth 100000 in
theorem mk_152 : mj_mok 152 := ⟨mj_tb 1385 rfl rfl, (mj_tb 16 (by decide +kernel) rfl), rfl, by decide, by decide +kernel, by decide⟩
set_option maxRecDepth 100000 in
theorem mk_153 : mj_mok 153 := ⟨mj_tb 1549 rfl rfl, (mj_tb 16 (by decide +kernel) rfl), rfl, by decide, by decide +kernel, by decide⟩
set_option maxRecDepth 100000 in
theorem mk_154 : mj_mok 154 := ⟨mj_tb 1528 rfl rfl, (mj_tb 16 (by decide +kernel) rfl), rfl, by decide, by decide +kernel, by decide⟩
set_option maxRecDepth 100000 in
theorem mk_155 : mj_mok 155 := ⟨mj_tb 1582 rfl rfl, (mj_tb 16 (by decide +kernel) rfl), rfl, by decide, by decide +kernel, by decide⟩
set_option maxRecDepth 100000 in
theorem mk_156 : mj_mok 156 := ⟨mj_tb 1741 rfl rfl, (mj_tb 16 (by decide +kernel) rfl), rfl, by decide, by decide +kernel, by decide⟩
set_option maxRecDepth 100000 in
theorem mk_157 : mj_mok 157 := ⟨mj_tb 1297 rfl rfl, (mj_tb 15 (by decide +kernel) rfl), rfl, by decide, by decide +kernel, by decide⟩
set_option maxRecDepth 100000 in
theorem mk_158 : mj_mok 158 := ⟨mj_tb 1481 rfl rfl, (mj_tb 15 (by decide +kernel) rfl), rfl, by decide, by decide +kernel, by decide⟩
set_option maxRecDepth 100000 in
theorem mk_159 : mj_mok 159 := ⟨mj_tb 1507 rfl rfl, (mj_tb 15 (by decide +kernel) rfl), rfl, by decide, by decide +kernel, by decide⟩
set_option maxRecDepth 100000 in
theorem mk_160 : mj_mok 160 := ⟨mj_tb 1532 rfl rfl, (mj_tb 15 (by decide +kernel) rfl), rfl, by decide, by decide +kernel, by decide⟩
set_option maxRecDepth 100000 in
theorem mk_161 : mj_mok 161 := ⟨mj_tb 1151 rfl rfl, (mj_tb 10 (by decide +kernel) rfl), rfl, by decide, by decide +kernel, by decide⟩
set_option maxRecDepth 100000 in
theorem mk_162 : mj_mok 162 := ⟨mj_tb 1280 rfl rfl, (mj_tb 10 (by decide +kernel) rfl), rfl, by decide, by decide +kernel, by decide⟩
set_option maxRecDepth 100000 in
theorem mk_163 : mj_mok 163 := ⟨mj_tb 1292 rfl rfl, (mj_tb 10 (by decide +kernel) rfl), rfl, by decide, by decide +kernel, by decide⟩
set_option maxRecDepth 100000 in
theorem mk_164 : mj_mok 164 := ⟨mj_tb 1701 rfl rfl, (mj_tb 10 (by decide +kernel) rfl), rfl, by decide, by decide +kernel, by decide⟩
set_option maxRecDepth 100000 in
theorem mk_165 : mj_mok 165 := ⟨mj_tb 1586 rfl rfl, (mj_tb 10 (by decide +kernel) rfl), rfl, by decide, by decide +kernel, by decide⟩
set_option maxRecDepth 100000 in
theorem mk_166 : mj_mok 166 := ⟨mj_tb 1709 rfl rfl, (mj_tb 10 (by decide +kernel) rfl), rfl, by decide, by decide +kernel, by decide⟩
set_option maxRecDepth 100000 in
theorem mk_167 : mj_mok 167 := ⟨mj_tb 1452 rfl rfl, (mj_tb 10 (by decide +kernel) rfl), rfl, by decide, by decide +kernel, by decide⟩
set_option maxRecDepth 100000 in
theorem mk_168 : mj_mok 168 := ⟨mj_tb 1558 rfl rfl, (mj_tb 10 (by decide +kernel) rfl), rfl, by decide, by decide +kernel, by decide⟩
set_option maxRecDepth 100000 in
theorem mk_169 : mj_mok 169 := ⟨mj_tb 1562 rfl rfl, (mj_tb 10 (by decide +kernel) rfl), rfl, by decide, by decide +kernel, by decide⟩
set_option maxRecDepth 100000 in
theorem mk_170 : mj_mok 170 := ⟨mj_tb 1617 rfl rfl, (mj_tb 10 (by decide +kernel) rfl), rfl, by decide, by decide +kernel, by decide⟩
set_option maxRecDepth 100000 in
theorem mk_171 : mj_mok 171 := ⟨mj_tb 1578 rfl rfl, (mj_tb 10 (by decide +kernel) rfl), rfl, by decide, by decide +kernel, by decide⟩
set_option maxRecDepth 100000 in
theorem mk_172 : mj_mok 172 := ⟨mj_tb 1574 rfl rfl, (mj_tb 10 (by decide +kernel) rfl), rfl, by decide, by decide +kernel, by decide⟩
set_option maxRecDepth 100000 in
theorem mk_173 : mj_mok 173 := ⟨mj_tb 1570 rfl rfl, (mj_tb 10 (by decide +kernel) rfl), rfl, by decide, by decide +kernel, by decide⟩
set_option maxRecDepth 100000 in
theorem mk_174 : mj_mok 174 := ⟨mj_tb 1566 rfl rfl, (mj_tb 10 (by decide +kernel) rfl), rfl, by decide, by decide +kernel, by decide⟩
set_option maxRecDepth 100000 in
theorem mk_175 : mj_mok 175 := ⟨mj_tb 1553 rfl rfl, (mj_tb 10 (by decide +kernel) rfl), rfl, by decide, by decide +kernel, by decide⟩
set_option maxRecDepth 100000 in
theorem mk_176 : mj_mok 176 := ⟨mj_tb 1545 rfl rfl, (mj_tb 10 (by decide +kernel) rfl), rfl, by decide, by decide +kernel, by decide⟩
set_option maxRecDepth 100000 in
theorem mk_177 : mj_mok 177 := ⟨mj_tb 1541 rfl rfl, (mj_tb 10 (by decide +kernel) rfl), rfl, by decide, by decide +kernel, by decide⟩
set_option maxRecDepth 100000 in
theorem mk_178 : mj_mok 178 := ⟨mj_tb 1403 rfl rfl, (mj_tb 10 (by decide +kernel) rfl), rfl, by decide, by decide +kernel, by decide⟩
set_option maxRecDepth 100000 in
theorem mk_179 : mj_mok 179 := ⟨mj_tb 1406 rfl rfl, (mj_tb 10 (by decide +kernel) rfl), rfl, by decide, by decide +kernel, by decide⟩
set_option maxRecDepth 100000 in
theorem mk_180 : mj_mok 180 := ⟨mj_tb 1410 rfl rfl, (mj_tb 10 (by decide +kernel) rfl), rfl, by decide, by decide +kernel, by decide⟩
set_option maxRecDepth 100000 in
theorem mk_181 : mj_mok 181 := ⟨mj_tb 1426 rfl rfl, (mj_tb 10 (by decide +kernel) rfl), rfl, by decide, by decide +kernel, by decide⟩
set_option maxRecDepth 100000 in
theorem mk_182 : mj_mok 182 := ⟨mj_tb 1399 rfl rfl, (mj_tb 10 (by decide +kernel) rfl), rfl, by decide, by decide +kernel, by decide⟩
set_option maxRecDepth 100000 in
theorem mk_183 : mj_mok 183 := ⟨mj_tb 1436 rfl rfl, (mj_tb 10 (by decide +kernel) rfl), rfl, by decide, by decide +kernel, by decide⟩
set_option maxRecDepth 100000 in
theorem mk_184 : mj_mok 184 := ⟨mj_tb 1423 rfl rfl, (mj_tb 10 (by decide +kernel) rfl), rfl, by decide, by decide +kernel, by decide⟩
set_option maxRecDepth 100000 in
theorem mk_185 : mj_mok 185 := ⟨mj_tb 1486 rfl rfl, (mj_tb 10 (by decide +kernel) rfl), rfl, by decide, by decide +kernel, by decide⟩
set_option maxRecDepth 100000 in
theorem mk_186 : mj_mok 186 := ⟨mj_tb 1524 rfl rfl, (mj_tb 10 (by decide +kernel) rfl), rfl, by decide, by decide +kernel, by decide⟩
set_option maxRecDepth 100000 in
theorem mk_187 : mj_mok 187 := ⟨mj_tb 1445 rfl rfl, (mj_tb 10 (by decide +kernel) rfl), rfl, by decide, by decide +kernel, by decide⟩
set_option maxRecDepth 100000 in
theorem mk_188 : mj_mok 188 := ⟨mj_tb 1449 rfl rfl, (mj_tb 10 (by decide +kernel) rfl), rfl, by decide, by decide +kernel, by decide⟩
set_option maxRecDepth 100000 in
theorem mk_189 : mj_mok 189 := ⟨mj_tb 1441 rfl rfl, (mj_tb 10 (by decide +kernel) rfl), rfl, by decide, by decide +kernel, by decide⟩
set_option maxRecDepth 100000 in
theorem mk_190 : mj_mok 190 := ⟨mj_tb 1473 rfl rfl, (mj_tb 10 (by decide +kernel) rfl), rfl, by decide, by decide +kernel, by decide⟩
set_option maxRecDepth 100000 in
theorem mk_191 : mj_mok 191 := ⟨mj_tb 1465 rfl rfl, (mj_tb 10 (by decide +kernel) rfl), rfl, by decide, by decide +kernel, by decide⟩
set_option maxRecDepth 100000 in
theorem mk_192 : mj_mok 192 := ⟨mj_tb 1469 rfl rfl, (mj_tb 10 (by decide +kernel) rfl), rfl, by decide, by decide +kernel, by decide⟩
set_option maxRecDepth 100000 in
theorem mk_193 : mj_mok 193 := ⟨mj_tb 1494 rfl rfl, (mj_tb 10 (by decide +kernel) rfl), rfl, by decide, by decide +kernel, by decide⟩
set_option maxRecDepth 100000 in
theorem mk_194 : mj_mok 194 := ⟨mj_tb 1519 rfl rfl, (mj_tb 10 (by decide +kernel) rfl), rfl, by decide, by decide +kernel, by decide⟩
set_option maxRecDepth 100000 in
theorem mk_195 : mj_mok 195 := ⟨mj_tb 1414 rfl rfl, (mj_tb 10 (by decide +kernel) rfl), rfl, by decide, by decide +kernel, by decide⟩
set_option maxRecDepth 100000 in
theorem mk_196 : mj_mok 196 := ⟨mj_tb 1418 rfl rfl, (mj_tb 10 (by decide +kernel) rfl), rfl, by decide, by decide +kernel, by decide⟩
set_option maxRecDepth 100000 in
theorem mk_197 : mj_mok 197 := ⟨mj_tb 1432 rfl rfl, (mj_tb 10 (by decide +kernel) rfl), rfl, by decide, by decide +kernel, by decide⟩
set_option maxRecDepth 100000 in
theorem mk_198 : mj_mok 198 := ⟨mj_tb 1461 rfl rfl, (mj_tb 10 (by decide +kernel) rfl), rfl, by decide, by decide +kernel, by decide⟩
set_option maxRecDepth 100000 in
theorem mk_199 : mj_mok 199 := ⟨mj_tb 1498 rfl rfl, (mj_tb 10 (by decide +kernel) rfl), rfl, by decide, by decide +kernel, by decide⟩
set_option maxRecDepth 100000 in
theorem mk_200 : mj_mok 200 := ⟨mj_tb 1503 rfl rfl, (mj_tb 10 (by decide +kernel) rfl), rfl, by decide, by decide +kernel, by decide⟩
set_option maxRecDepth 100000 in
theorem mk_201 : mj_mok 201 := ⟨mj_tb 1515 rfl rfl, (mj_tb 10 (by decide +kernel) rfl), rfl, by decide, by decide +kernel, by decide⟩
set_option maxRecDepth 100000 in
theorem mk_202 : mj_mok 202 := ⟨mj_tb 1511 rfl rfl, (mj_tb 10 (by decide +kernel) rfl), rfl, by decide, by decide +kernel, by decide⟩
set_option maxRecDepth 100000 in
theorem mk_203 : mj_mok 203 := ⟨mj_tb 1536 rfl rfl, (mj_tb 10 (by decide +kernel) rfl), rfl, by decide, by decide +kernel, by decide⟩
set_option maxRecDepth 100000 in
theorem mk_204 : mj_mok 204 := ⟨mj_tb 1284 rfl rfl, (mj_tb 10 (by decide +kernel) rfl), rfl, by decide, by decide +kernel, by decide⟩
set_option maxRecDepth 100000 in
theorem mk_205 : mj_mok 205 := ⟨mj_tb 1288 rfl rfl, (mj_tb 10 (by decide +kernel) rfl), rfl, by decide, by decide +kernel, by decide⟩
set_option maxRecDepth 100000 in
theorem mk_206 : mj_mok 206 := ⟨mj_tb 1590 rfl rfl, (mj_tb 10 (by decide +kernel) rfl), rfl, by decide, by decide +kernel, by decide⟩
set_option maxRecDepth 100000 in
theorem mk_207 : mj_mok 207 := ⟨mj_tb 1594 rfl rfl, (mj_tb 10 (by decide +kernel) rfl), rfl, by decide, by decide +kernel, by decide⟩
set_option maxRecDepth 100000 in
theorem mk_208 : mj_mok 208 := ⟨mj_tb 1602 rfl rfl, (mj_tb 10 (by decide +kernel) rfl), rfl, by decide, by decide +kernel, by decide⟩
set_option maxRecDepth 100000 in
theorem mk_209 : mj_mok 209 := ⟨mj_tb 1697 rfl rfl, (mj_tb 10 (by decide +kernel) rfl), rfl, by decide, by decide +kernel, by decide⟩
set_option maxRecDepth 100000 in
theorem mk_210 : mj_mok 210 := ⟨mj_tb 1614 rfl rfl, (mj_tb 10 (by decide +kernel) rfl), rfl, by decide, by decide +kernel, by decide⟩
set_option maxRecDepth 100000 in
theorem mk_211 : mj_mok 211 := ⟨mj_tb 1625 rfl rfl, (mj_tb 10 (by decide +kernel) rfl), rfl, by decide, by decide +kernel, by decide⟩
set_option maxRecDepth 100000 in
theorem mk_212 : mj_mok 212 := ⟨mj_tb 1653 rfl rfl, (mj_tb 10 (by decide +kernel) rfl), rfl, by decide, by decide +kernel, by decide⟩
set_option maxRecDepth 100000 in
theorem mk_213 : mj_mok 213 := ⟨mj_tb 1673 rfl rfl, (mj_tb 10 (by decide +kernel) rfl), rfl, by decide, by decide +kernel, by decide⟩
set_option maxRecDepth 100000 in
theorem mk_214 : mj_mok 214 := ⟨mj_tb 1669 rfl rfl, (mj_tb 10 (by decide +kernel) rfl), rfl, by decide, by decide +kernel, by decide⟩
set_option maxRecDepth 100000 in
theorem mk_215 : mj_mok 215 := ⟨mj_tb 1665 rfl rfl, (mj_tb 10 (by decide +kernel) rfl), rfl, by decide, by decide +kernel, by decide⟩
set_option maxRecDepth 100000 in
theorem mk_216 : mj_mok 216 := ⟨mj_tb 1598 rfl rfl, (mj_tb 10 (by decide +kernel) rfl), rfl, by decide, by decide +kernel, by decide⟩
set_option maxRecDepth 100000 in
theorem mk_217 : mj_mok 217 := ⟨mj_tb 1606 rfl rfl, (mj_tb 10 (by decide +kernel) rfl), rfl, by decide, by decide +kernel, by decide⟩
set_option maxRecDepth 100000 in
theorem mk_218 : mj_mok 218 := ⟨mj_tb 1610 rfl rfl, (mj_tb 10 (by decide +kernel) rfl), rfl, by decide, by decide +kernel, by decide⟩
set_option maxRecDepth 100000 in
theorem mk_219 : mj_mok 219 := ⟨mj_tb 1621 rfl rfl, (mj_tb 10 (by decide +kernel) rfl), rfl, by decide, by decide +kernel, by decide⟩
set_option maxRecDepth 100000 in
theorem mk_220 : mj_mok 220 := ⟨mj_tb 1629 rfl rfl, (mj_tb 10 (by decide +kernel) rfl), rfl, by decide, by decide +kernel, by decide⟩
set_option maxRecDepth 100000 in
theorem mk_221 : mj_mok 221 := ⟨mj_tb 1633 rfl rfl, (mj_tb 10 (by decide +kernel) rfl), rfl, by decide, by decide +kernel, by decide⟩
set_option maxRecDepth 100000 in
theorem mk_222 : mj_mok 222 := ⟨mj_tb 1637 rfl rfl, (mj_tb 10 (by decide +kernel) rfl), rfl, by decide, by decide +kernel, by decide⟩
set_option maxRecDepth 100000 in
theorem mk_223 : mj_mok 223 := ⟨mj_tb 1641 rfl rfl, (mj_tb 10 (by decide +kernel) rfl), rfl, by decide, by decide +kernel, by decide⟩
set_option maxRecDepth 100000 in
theorem mk_224 : mj_mok 224 := ⟨mj_tb 1649 rfl rfl, (mj_tb 10 (by decide +kernel) rfl), rfl, by decide, by decide +kernel, by decide⟩
set_option maxRecDepth 100000 in
theorem mk_225 : mj_mok 225 := ⟨mj_tb 1645 rfl rfl, (mj_tb 10 (by decide +kernel) rfl), rfl, by decide, by decide +kernel, by decide⟩
set_option maxRecDepth 100000 in
theorem mk_226 : mj_mok 226 := ⟨mj_tb 1657 rfl rfl, (mj_tb 10 (by decide +kernel) rfl), rfl, by decide, by decide +kernel, by decide⟩
set_option maxRecDepth 100000 in
theorem mk_227 : mj_mok 227 := ⟨mj_tb 1661 rfl rfl, (mj_tb 10 (by decide +kernel) rfl), rfl, by decide, by decide +kernel, by decide⟩
set_option maxRecDepth 100000 in
theorem mk_228 : mj_mok 228 := ⟨mj_tb 1677 rfl rfl, (mj_tb 10 (by decide +kernel) rfl), rfl, by decide, by decide +kernel, by decide⟩
set_option maxRecDepth 100000 in
theorem mk_229 : mj_mok 229 := ⟨mj_tb 1685 rfl rfl, (mj_tb 10 (by decide +kernel) rfl), rfl, by decide, by decide +kernel, by decide⟩
set_option maxRecDepth 100000 in
theorem mk_230 : mj_mok 230 := ⟨mj_tb 1681 rfl rfl, (mj_tb 10 (by decide +kernel) rfl), rfl, by decide, by decide +kernel, by decide⟩
set_option maxRecDepth 100000 in
theorem mk_231 : mj_mok 231 := ⟨mj_tb 1689 rfl rfl, (mj_tb 10 (by decide +kernel) rfl), rfl, by decide, by decide +kernel, by decide⟩
set_option maxRecDepth 100000 in
theorem mk_232 : mj_mok 232 := ⟨mj_tb 1705 rfl rfl, (mj_tb 10 (by decide +kernel) rfl), rfl, by decide, by decide +kernel, by decide⟩
set_option maxRecDepth 100000 in
theorem mk_233 : mj_mok 233 := ⟨mj_tb 1693 rfl rfl, (mj_tb 10 (by decide +kernel) rfl), rfl, by decide, by decide +kernel, by decide⟩
set_option maxRecDepth 100000 in
theorem mk_234 : mj_mok 234 := ⟨mj_tb 1713 rfl rfl, (mj_tb 10 (by decide +kernel) rfl), rfl, by decide, by decide +kernel, by decide⟩
set_option maxRecDepth 100000 in
theorem mk_235 : mj_mok 235 := ⟨mj_tb 1717 rfl rfl, (mj_tb 10 (by decide +kernel) rfl), rfl, by decide, by decide +kernel, by decide⟩
set_option maxRecDepth 100000 in
theorem mk_236 : mj_mok 236 := ⟨mj_tb 1721 rfl rfl, (mj_tb 10 (by decide +kernel) rfl), rfl, by decide, by decide +kernel, by decide⟩
set_option maxRecDepth 100000 in
theorem mk_237 : mj_mok 237 := ⟨mj_tb 1729 rfl rfl, (mj_tb 10 (by decide +kernel) rfl), rfl, by decide, by decide +kernel, by decide⟩
set_option maxRecDepth 100000 in
theorem mk_238 : mj_mok 238 := ⟨mj_tb 1725 rfl rfl, (mj_tb 10 (by decide +kernel) rfl), rfl, by decide, by decide +kernel, by decide⟩
set_option maxRecDepth 100000 in
theorem mk_239 : mj_mok 239 := ⟨mj_tb 1733 rfl rfl, (mj_tb 10 (by decide +kernel) rfl), rfl, by decide, by decide +kernel, by decide⟩
set_option maxRecDepth 100000 in
theorem mk_240 : mj_mok 240 := ⟨mj_tb 1737 rfl rfl, (mj_tb 10 (by decide +kernel) rfl), rfl, by decide, by decide +kernel, by decide⟩
set_option maxRecDepth 100000 in
theorem mk_241 : mj_mok 241 := ⟨mj_tb 1749 rfl rfl, (mj_tb 10 (by decide +kernel) rfl), rfl, by decide, by decide +kernel, by decide⟩
set_option maxRecDepth 100000 in
theorem mk_242 : mj_mok 242 := ⟨mj_tb 1745 rfl rfl, (mj_tb 10 (by decide +kernel) rfl), rfl, by decide, by decide +kernel, by decide⟩
set_option maxRecDepth 100000 in
theorem mk_243 : mj_mok 243 := ⟨mj_tb 1757 rfl rfl, (mj_tb 10 (by decide +kernel) rfl), rfl, by decide, by decide +kernel, by decide⟩
set_option maxRecDepth 100000 in
theorem mk_244 : mj_mok 244 := ⟨mj_tb 1753 rfl rfl, (mj_tb 10 (by decide +kernel) rfl), rfl, by decide, by decide +kernel, by decide⟩
set_option maxRecDepth 100000 in
theorem mk_245 : mj_mok 245 := ⟨mj_tb 1761 rfl rfl, (mj_tb 10 (by decide +kernel) rfl), rfl, by decide, by decide +kernel, by decide⟩
set_option maxRecDepth 100000 in
theorem mk_246 : mj_mok 246 := ⟨mj_tb 1765 rfl rfl, (mj_tb 10 (by decide +kernel) rfl), rfl, by decide, by decide +kernel, by decide⟩
set_option maxRecDepth 100000 in
theorem mk_247 : mj_mok 247 := ⟨mj_tb 1777 rfl rfl, (mj_tb 10 (by decide +kernel) rfl), rfl, by decide, by decide +kernel, by decide⟩
set_option maxRecDepth 100000 in
theorem mk_248 : mj_mok 248 := ⟨mj_tb 1781 rfl rfl, (mj_tb 10 (by decide +kernel) rfl), rfl, by decide, by decide +kernel, by decide⟩
set_option maxRecDepth 100000 in
theorem mk_249 : mj_mok 249 := ⟨mj_tb 1773 rfl rfl, (mj_tb 10 (by decide +kernel) rfl), rfl, by decide, by decide +kernel, by decide⟩
set_option maxRecDepth 100000 in
theorem mk_250 : mj_mok 250 := ⟨mj_tb 1769 rfl rfl, (mj_tb 10 (by decide +kernel) rfl), rfl, by decide, by decide +kernel, by decide⟩
set_option maxRecDepth 100000 in
theorem mk_251 : mj_mok 251 := ⟨mj_tb 1785 rfl rfl, (mj_tb 10 (by decide +kernel) rfl), rfl, by decide, by decide +kernel, by decide⟩
set_option maxRecDepth 100000 in
theorem mk_252 : mj_mok 252 := ⟨mj_tb 1801 rfl rfl, (mj_tb 10 (by decide +kernel) rfl), rfl, by decide, by decide +kernel, by decide⟩
set_option maxRecDepth 100000 in
theorem mk_253 : mj_mok 253 := ⟨mj_tb 1797 rfl rfl, (mj_tb 10 (by decide +kernel) rfl), rfl, by decide, by decide +kernel, by decide⟩
set_option maxRecDepth 100000 in
theorem mk_254 : mj_mok 254 := ⟨mj_tb 1793 rfl rfl, (mj_tb 10 (by decide +kernel) rfl), rfl, by decide, by decide +kernel, by decide⟩
set_option maxRecDepth 100000 in
theorem mk_255 : mj_mok 255 := ⟨mj_tb 1789 rfl rfl, (mj_tb 10 (by decide +kernel) rfl), rfl, by decide, by decide +kernel, by decide⟩
set_option maxRecDepth 100000 in
theorem mk_256 : mj_mok 256 := ⟨mj_tb 1805 rfl rfl, (mj_tb 10 (by decide +kernel) rfl), rfl, by decide, by decide +kernel, by decide⟩
set_option maxRecDepth 100000 in
theorem mk_257 : mj_mok 257 := ⟨mj_tb 1813 rfl rfl, (mj_tb 10 (by decide +kernel) rfl), rfl, by decide, by decide +kernel, by decide⟩
set_option maxRecDepth 100000 in
theorem mk_258 : mj_mok 258 := ⟨mj_tb 1817 rfl rfl, (mj_tb 10 (by decide +kernel) rfl), rfl, by decide, by decide +kernel, by decide⟩
set_option maxRecDepth 100000 in
theorem mk_259 : mj_mok 259 := ⟨mj_tb 1809 rfl rfl, (mj_tb 10 (by decide +kernel) rfl), rfl, by decide, by decide +kernel, by decide⟩
set_option maxRecDepth 100000 in
theorem mk_260 : mj_mok 260 := ⟨mj_tb 1829 rfl rfl, (mj_tb 10 (by decide +kernel) rfl), rfl, by decide, by decide +kernel, by decide⟩
set_option maxRecDepth 100000 in
theorem mk_261 : mj_mok 261 := ⟨mj_tb 1825 rfl rfl, (mj_tb 10 (by decide +kernel) rfl), rfl, by decide, by decide +kernel, by decide⟩
set_option maxRecDepth 100000 in
theorem mk_262 : mj_mok 262 := ⟨mj_tb 1821 rfl rfl, (mj_tb 10 (by decide +kernel) rfl), rfl, by decide, by decide +kernel, by decide⟩
set_option maxRecDepth 100000 in
theorem mk_263 : mj_mok 263 := ⟨mj_tb 1837 rfl rfl, (mj_tb 10 (by decide +kernel) rfl), rfl, by decide, by decide +kernel, by decide⟩
set_option maxRecDepth 100000 in
theorem mk_264 : mj_mok 264 := ⟨mj_tb 1833 rfl rfl, (mj_tb 10 (by decide +kernel) rfl), rfl, by decide, by decide +kernel, by decide⟩
set_option maxRecDepth 100000 in
theorem mk_265 : mj_mok 265 := ⟨mj_tb 1845 rfl rfl, (mj_tb 10 (by decide +kernel) rfl), rfl, by decide, by decide +kernel, by decide⟩
set_option maxRecDepth 100000 in
theorem mk_266 : mj_mok 266 := ⟨mj_tb 1849 rfl rfl, (mj_tb 10 (by decide +kernel) rfl), rfl, by decide, by decide +kernel, by decide⟩
set_option maxRecDepth 100000 in
theorem mk_267 : mj_mok 267 := ⟨mj_tb 1853 rfl rfl, (mj_tb 10 (by decide +kernel) rfl), rfl, by decide, by decide +kernel, by decide⟩
set_option maxRecDepth 100000 in
theorem mk_268 : mj_mok 268 := ⟨mj_tb 1841 rfl rfl, (mj_tb 10 (by decide +kernel) rfl), rfl, by decide, by decide +kernel, by decide⟩
set_option maxRecDepth 100000 in
theorem mk_269 : mj_mok 269 := ⟨mj_tb 1857 rfl rfl, (mj_tb 10 (by decide +kernel) rfl), rfl, by decide, by decide +kernel, by decide⟩
set_option maxRecDepth 100000 in
theorem mk_270 : mj_mok 270 := ⟨mj_tb 1861 rfl rfl, (mj_tb 10 (by decide +kernel) rfl), rfl, by decide, by decide +kernel, by decide⟩
set_option maxRecDepth 100000 in
theorem mk_271 : mj_mok 271 := ⟨mj_tb 1865 rfl rfl, (mj_tb 10 (by decide +kernel) rfl), rfl, by decide, by decide +kernel, by decide⟩
set_option maxRecDepth 100000 in
theorem mk_272 : mj_mok 272 := ⟨mj_tb 1869 rfl rfl, (mj_tb 10 (by decide +kernel) rfl), rfl, by decide, by decide +kernel, by decide⟩
set_option maxRecDepth 100000 in
theorem mk_273 : mj_mok 273 := ⟨mj_tb 1873 rfl rfl, (mj_tb 10 (by decide +kernel) rfl), rfl, by decide, by decide +kernel, by decide⟩
set_option maxRecDepth 100000 in
theorem mk_274 : mj_mok 274 := ⟨mj_tb 1877 rfl rfl, (mj_tb 10 (by decide +kernel) rfl), rfl, by decide, by decide +kernel, by decide⟩
set_option maxRecDepth 100000 in
theorem mk_275 : mj_mok 275 := ⟨mj_tb 713 rfl rfl, (mj_tb 17 (by decide +kernel) rfl), rfl, by decide, by decide +kernel, by decide⟩
set_option maxRecDepth 100000 in
theorem mk_276 : mj_mok 276 := ⟨mj_tb 457 rfl rfl, (mj_tb 11 (by decide +kernel) rfl), rfl, by decide, by decide +kernel, by decide⟩
set_option maxRecDepth 100000 in
theorem mk_277 : mj_mok 277 := ⟨mj_tb 470 rfl rfl, (mj_tb 11 (by decide +kernel) rfl), rfl, by decide, by decide +kernel, by decide⟩
theorem mj_mok_0 (i : Nat) (h1 : 0 ≤ i) (h2 : i < 16) : mj_mok i := by
  rcases (show i = 0 ∨ i = 1 ∨ i = 2 ∨ i = 3 ∨ i = 4 ∨ i = 5 ∨ i = 6 ∨ i = 7 ∨ i = 8 ∨ i = 9 ∨ i = 10 ∨ i = 11 ∨ i = 12 ∨ i = 13 ∨ i = 14 ∨ i = 15 by omega) with rfl | rfl | rfl | rfl | rfl | rfl | rfl | rfl | rfl | rfl | rfl | rfl | rfl | rfl | rfl | rfl
  · exact mk_0
  · exact mk_1
  · exact mk_2
  · exact mk_3
  · exact mk_4
  · exact mk_5
  · exact mk_6
  · exact mk_7
  · exact mk_8
  · exact mk_9
  · exact mk_10
  · exact mk_11
  · exact mk_12
  · exact mk_13
  · exact mk_14
  · exact mk_15
theorem mj_mok_1 (i : Nat) (h1 : 16 ≤ i) (h2 : i < 32) : mj_mok i := by
  rcases (show i = 16 ∨ i = 17 ∨ i = 18 ∨ i = 19 ∨ i = 20 ∨ i = 21 ∨ i = 22 ∨ i = 23 ∨ i = 24 ∨ i = 25 ∨ i = 26 ∨ i = 27 ∨ i = 28 ∨ i = 29 ∨ i = 30 ∨ i = 31 by omega) with rfl | rfl | rfl | rfl | rfl | rfl | rfl | rfl | rfl | rfl | rfl | rfl | rfl | rfl | rfl | rfl
  · exact mk_16
  · exact mk_17
  · exact mk_18
  · exact mk_19
  · exact mk_20
  · exact mk_21
  · exact mk_22
  · exact mk_23
  · exact mk_24
  · exact mk_25
  · exact mk_26
  · exact mk_27
  · exact mk_28
  · exact mk_29
  · exact mk_30
  · exact mk_31
theorem mj_mok_2 (i : Nat) (h1 : 32 ≤ i) (h2 : i < 48) : mj_mok i := by
  rcases (show i = 32 ∨ i = 33 ∨ i = 34 ∨ i = 35 ∨ i = 36 ∨ i = 37 ∨ i = 38 ∨ i = 39 ∨ i = 40 ∨ i = 41 ∨ i = 42 ∨ i = 43 ∨ i = 44 ∨ i = 45 ∨ i = 46 ∨ i = 47 by omega) with rfl | rfl | rfl | rfl | rfl | rfl | rfl | rfl | rfl | rfl | rfl | rfl | rfl | rfl | rfl | rfl
  · exact mk_32
  · exact mk_33
  · exact mk_34
  · exact mk_35
  · exact mk_36
  · exact mk_37
  · exact mk_38
  · exact mk_39
  · exact mk_40
  · exact mk_41
  · exact mk_42
  · exact mk_43
  · exact mk_44
  · exact mk_45
  · exact mk_46
  · exact mk_47
theorem mj_mok_3 (i : Nat) (h1 : 48 ≤ i) (h2 : i < 64) : mj_mok i := by
  rcases (show i = 48 ∨ i = 49 ∨ i = 50 ∨ i = 51 ∨ i = 52 ∨ i = 53 ∨ i = 54 ∨ i = 55 ∨ i = 56 ∨ i = 57 ∨ i = 58 ∨ i = 59 ∨ i = 60 ∨ i = 61 ∨ i = 62 ∨ i = 63 by omega) with rfl | rfl | rfl | rfl | rfl | rfl | rfl | rfl | rfl | rfl | rfl | rfl | rfl | rfl | rfl | rfl
  · exact mk_48
  · exact mk_49
  · exact mk_50
  · exact mk_51
  · exact mk_52
  · exact mk_53
  · exact mk_54
  · exact mk_55
  · exact mk_56
  · exact mk_57
  · exact mk_58
  · exact mk_59
  · exact mk_60
  · exact mk_61
  · exact mk_62
  · exact mk_63
theorem mj_mok_4 (i : Nat) (h1 : 64 ≤ i) (h2 : i < 80) : mj_mok i := by
  rcases (show i = 64 ∨ i = 65 ∨ i = 66 ∨ i = 67 ∨ i = 68 ∨ i = 69 ∨ i = 70 ∨ i = 71 ∨ i = 72 ∨ i = 73 ∨ i = 74 ∨ i = 75 ∨ i = 76 ∨ i = 77 ∨ i = 78 ∨ i = 79 by omega) with rfl | rfl | rfl | rfl | rfl | rfl | rfl | rfl | rfl | rfl | rfl | rfl | rfl | rfl | rfl | rfl
  · exact mk_64
  · exact mk_65
  · exact mk_66
  · exact mk_67
  · exact mk_68
  · exact mk_69
  · exact mk_70
  · exact mk_71
  · exact mk_72
  · exact mk_73
  · exact mk_74
  · exact mk_75
  · exact mk_76
  · exact mk_77
  · exact mk_78
  · exact mk_79
theorem mj_mok_5 (i : Nat) (h1 : 80 ≤ i) (h2 : i < 96) : mj_mok i := by
  rcases (show i = 80 ∨ i = 81 ∨ i = 82 ∨ i = 83 ∨ i = 84 ∨ i = 85 ∨ i = 86 ∨ i = 87 ∨ i = 88 ∨ i = 89 ∨ i = 90 ∨ i = 91 ∨ i = 92 ∨ i = 93 ∨ i = 94 ∨ i = 95 by omega) with rfl | rfl | rfl | rfl | rfl | rfl | rfl | rfl | rfl | rfl | rfl | rfl | rfl | rfl | rfl | rfl
  · exact mk_80
  · exact mk_81
  · exact mk_82
  · exact mk_83
  · exact mk_84
  · exact mk_85
  · exact mk_86
  · exact mk_87
  · exact mk_88
  · exact mk_89
  · exact mk_90
  · exact mk_91
  · exact mk_92
  · exact mk_93
  · exact mk_94
  · exact mk_95
theorem mj_mok_6 (i : Nat) (h1 : 96 ≤ i) (h2 : i < 112) : mj_mok i := by
  rcases (show i = 96 ∨ i = 97 ∨ i = 98 ∨ i = 99 ∨ i = 100 ∨ i = 101 ∨ i = 102 ∨ i = 103 ∨ i = 104 ∨ i = 105 ∨ i = 106 ∨ i = 107 ∨ i = 108 ∨ i = 109 ∨ i = 110 ∨ i = 111 by omega) with rfl | rfl | rfl | rfl | rfl | rfl | rfl | rfl | rfl | rfl | rfl | rfl | rfl | rfl | rfl | rfl
  · exact mk_96
  · exact mk_97
  · exact mk_98
  · exact mk_99
  · exact mk_100
  · exact mk_101
  · exact mk_102
  · exact mk_103
  · exact mk_104
  · exact mk_105
  · exact mk_106
  · exact mk_107
  · exact mk_108
  · exact mk_109
  · exact mk_110
  · exact mk_111
theorem mj_mok_7 (i : Nat) (h1 : 112 ≤ i) (h2 : i < 128) : mj_mok i := by
  rcases (show i = 112 ∨ i = 113 ∨ i = 114 ∨ i = 115 ∨ i = 116 ∨ i = 117 ∨ i = 118 ∨ i = 119 ∨ i = 120 ∨ i = 121 ∨ i = 122 ∨ i = 123 ∨ i = 124 ∨ i = 125 ∨ i = 126 ∨ i = 127 by omega) with rfl | rfl | rfl | rfl | rfl | rfl | rfl | rfl | rfl | rfl | rfl | rfl | rfl | rfl | rfl | rfl
  · exact mk_112
  · exact mk_113
  · exact mk_114
  · exact mk_115
  · exact mk_116
  · exact mk_117
  · exact mk_118
  · exact mk_119
  · exact mk_120
  · exact mk_121
  · exact mk_122
  · exact mk_123
  · exact mk_124
  · exact mk_125
  · exact mk_126
  · exact mk_127
theorem mj_mok_8 (i : Nat) (h1 : 128 ≤ i) (h2 : i < 144) : mj_mok i := by
  rcases (show i = 128 ∨ i = 129 ∨ i = 130 ∨ i = 131 ∨ i = 132 ∨ i = 133 ∨ i = 134 ∨ i = 135 ∨ i = 136 ∨ i = 137 ∨ i = 138 ∨ i = 139 ∨ i = 140 ∨ i = 141 ∨ i = 142 ∨ i = 143 by omega) with rfl | rfl | rfl | rfl | rfl | rfl | rfl | rfl | rfl | rfl | rfl | rfl | rfl | rfl | rfl | rfl
  · exact mk_128
  · exact mk_129
  · exact mk_130
  · exact mk_131
  · exact mk_132
  · exact mk_133
  · exact mk_134
  · exact mk_135
  · exact mk_136
  · exact mk_137
  · exact mk_138
  · exact mk_139
  · exact mk_140
  · exact mk_141
  · exact mk_142
  · exact mk_143
theorem mj_mok_9 (i : Nat) (h1 : 144 ≤ i) (h2 : i < 160) : mj_mok i := by
  rcases (show i = 144 ∨ i = 145 ∨ i = 146 ∨ i = 147 ∨ i = 148 ∨ i = 149 ∨ i = 150 ∨ i = 151 ∨ i = 152 ∨ i = 153 ∨ i = 154 ∨ i = 155 ∨ i = 156 ∨ i = 157 ∨ i = 158 ∨ i = 159 by omega) with rfl | rfl | rfl | rfl | rfl | rfl | rfl | rfl | rfl | rfl | rfl | rfl | rfl | rfl | rfl | rfl
  · exact mk_144
  · exact mk_145
  · exact mk_146
  · exact mk_147
  · exact mk_148
  · exact mk_149
  · exact mk_150
  · exact mk_151
  · exact mk_152
  · exact mk_153
  · exact mk_154
  · exact mk_155
  · exact mk_156
  · exact mk_157
  · exact mk_158
  · exact mk_159
theorem mj_mok_10 (i : Nat) (h1 : 160 ≤ i) (h2 : i < 176) : mj_mok i := by
  rcases (show i = 160 ∨ i = 161 ∨ i = 162 ∨ i = 163 ∨ i = 164 ∨ i = 165 ∨ i = 166 ∨ i = 167 ∨ i = 168 ∨ i = 169 ∨ i = 170 ∨ i = 171 ∨ i = 172 ∨ i = 173 ∨ i = 174 ∨ i = 175 by omega) with rfl | rfl | rfl | rfl | rfl | rfl | rfl | rfl | rfl | rfl | rfl | rfl | rfl | rfl | rfl | rfl
  · exact mk_160
  · exact mk_161
  · exact mk_162
  · exact mk_163
  · exact mk_164
  · exact mk_165
  · exact mk_166
  · exact mk_167
  · exact mk_168
  · exact mk_169
  · exact mk_170
  · exact mk_171
  · exact mk_172
  · exact mk_173
  · exact mk_174
  · exact mk_175
theorem mj_mok_11 (i : Nat) (h1 : 176 ≤ i) (h2 : i < 192) : mj_mok i := by
  rcases (show i = 176 ∨ i = 177 ∨ i = 178 ∨ i = 179 ∨ i = 180 ∨ i = 181 ∨ i = 182 ∨ i = 183 ∨ i = 184 ∨ i = 185 ∨ i = 186 ∨ i = 187 ∨ i = 188 ∨ i = 189 ∨ i = 190 ∨ i = 191 by omega) with rfl | rfl | rfl | rfl | rfl | rfl | rfl | rfl | rfl | rfl | rfl | rfl | rfl | rfl | rfl | rfl
  · exact mk_176
  · exact mk_177
  · exact mk_178
  · exact mk_179
  · exact mk_180
  · exact mk_181
  · exact mk_182
  · exact mk_183
  · exact mk_184
  · exact mk_185
  · exact mk_186
  · exact mk_187
  · exact mk_188
  · exact mk_189
  · exact mk_190
  · exact mk_191
theorem mj_mok_12 (i : Nat) (h1 : 192 ≤ i) (h2 : i < 208) : mj_mok i := by
  rcases (show i = 192 ∨ i = 193 ∨ i = 194 ∨ i = 195 ∨ i = 196 ∨ i = 197 ∨ i = 198 ∨ i = 199 ∨ i = 200 ∨ i = 201 ∨ i = 202 ∨ i = 203 ∨ i = 204 ∨ i = 205 ∨ i = 206 ∨ i = 207 by omega) with rfl | rfl | rfl | rfl | rfl | rfl | rfl | rfl | rfl | rfl | rfl | rfl | rfl | rfl | rfl | rfl
  · exact mk_192
  · exact mk_193
  · exact mk_194
  · exact mk_195
  · exact mk_196
  · exact mk_197
  · exact mk_198
  · exact mk_199
  · exact mk_200
  · exact mk_201
  · exact mk_202
  · exact mk_203
  · exact mk_204
  · exact mk_205
  · exact mk_206
  · exact mk_207
theorem mj_mok_13 (i : Nat) (h1 : 208 ≤ i) (h2 : i < 224) : mj_mok i := by
  rcases (show i = 208 ∨ i = 209 ∨ i = 210 ∨ i = 211 ∨ i = 212 ∨ i = 213 ∨ i = 214 ∨ i = 215 ∨ i = 216 ∨ i = 217 ∨ i = 218 ∨ i = 219 ∨ i = 220 ∨ i = 221 ∨ i = 222 ∨ i = 223 by omega) with rfl | rfl | rfl | rfl | rfl | rfl | rfl | rfl | rfl | rfl | rfl | rfl | rfl | rfl | rfl | rfl
  · exact mk_208
  · exact mk_209
  · exact mk_210
  · exact mk_211
  · exact mk_212
  · exact mk_213
  · exact mk_214
  · exact mk_215
  · exact mk_216
  · exact mk_217
  · exact mk_218
  · exact mk_219
  · exact mk_220
  · exact mk_221
  · exact mk_222
  · exact mk_223
theorem mj_mok_14 (i : Nat) (h1 : 224 ≤ i) (h2 : i < 240) : mj_mok i := by
  rcases (show i = 224 ∨ i = 225 ∨ i = 226 ∨ i = 227 ∨ i = 228 ∨ i = 229 ∨ i = 230 ∨ i = 231 ∨ i = 232 ∨ i = 233 ∨ i = 234 ∨ i = 235 ∨ i = 236 ∨ i = 237 ∨ i = 238 ∨ i = 239 by omega) with rfl | rfl | rfl | rfl | rfl | rfl | rfl | rfl | rfl | rfl | rfl | rfl | rfl | rfl | rfl | rfl
  · exact mk_224
  · exact mk_225
  · exact mk_226
  · exact mk_227
  · exact mk_228
  · exact mk_229
  · exact mk_230
  · exact mk_231
  · exact mk_232
  · exact mk_233
  · exact mk_234
  · exact mk_235
  · exact mk_236
  · exact mk_237
  · exact mk_238
  · exact mk_239
theorem mj_mok_15 (i : Nat) (h1 : 240 ≤ i) (h2 : i < 256) : mj_mok i := by
  rcases (show i = 240 ∨ i = 241 ∨ i = 242 ∨ i = 243 ∨ i = 244 ∨ i = 245 ∨ i = 246 ∨ i = 247 ∨ i = 248 ∨ i = 249 ∨ i = 250 ∨ i = 251 ∨ i = 252 ∨ i = 253 ∨ i = 254 ∨ i = 255 by omega) with rfl | rfl | rfl | rfl | rfl | rfl | rfl | rfl | rfl | rfl | rfl | rfl | rfl | rfl | rfl | rfl
  · exact mk_240
  · exact mk_241
  · exact mk_242
  · exact mk_243
  · exact mk_244
  · exact mk_245
  · exact mk_246
  · exact mk_247
  · exact mk_248
  · exact mk_249
  · exact mk_250
  · exact mk_251
  · exact mk_252
  · exact mk_253
  · exact mk_254
  · exact mk_255
theorem mj_mok_16 (i : Nat) (h1 : 256 ≤ i) (h2 : i < 272) : mj_mok i := by
  rcases (show i = 256 ∨ i = 257 ∨ i = 258 ∨ i = 259 ∨ i = 260 ∨ i = 261 ∨ i = 262 ∨ i = 263 ∨ i = 264 ∨ i = 265 ∨ i = 266 ∨ i = 267 ∨ i = 268 ∨ i = 269 ∨ i = 270 ∨ i = 271 by omega) with rfl | rfl | rfl | rfl | rfl | rfl | rfl | rfl | rfl | rfl | rfl | rfl | rfl | rfl | rfl | rfl
  · exact mk_256
  · exact mk_257
  · exact mk_258
  · exact mk_259
  · exact mk_260
  · exact mk_261
  · exact mk_262
  · exact mk_263
  · exact mk_264
  · exact mk_265
  · exact mk_266
  · exact mk_267
  · exact mk_268
  · exact mk_269
  · exact mk_270
  · exact mk_271
theorem mj_mok_17 (i : Nat) (h1 : 272 ≤ i) (h2 : i < 278) : mj_mok i := by
  rcases (show i = 272 ∨ i = 273 ∨ i = 274 ∨ i = 275 ∨ i = 276 ∨ i = 277 by omega) with rfl | rfl | rfl | rfl | rfl | rfl
  · exact mk_272
  · exact mk_273
  · exact mk_274
  · exact mk_275
  · exact mk_276
  · exact mk_277
theorem mj_mok_all (i : Nat) (h : i < mj_n) : mj_mok i := by
  unfold mj_n at h
  rcases Nat.lt_or_ge i 16 with q0 | q0
  · exact mj_mok_0 i (by omega) q0
  rcases Nat.lt_or_ge i 32 with q16 | q16
  · exact mj_mok_1 i (by omega) q16
  rcases Nat.lt_or_ge i 48 with q32 | q32
  · exact mj_mok_2 i (by omega) q32
  rcases Nat.lt_or_ge i 64 with q48 | q48
  · exact mj_mok_3 i (by omega) q48
  rcases Nat.lt_or_ge i 80 with q64 | q64
  · exact mj_mok_4 i (by omega) q64
  rcases Nat.lt_or_ge i 96 with q80 | q80
  · exact mj_mok_5 i (by omega) q80
  rcases Nat.lt_or_ge i 112 with q96 | q96
  · exact mj_mok_6 i (by omega) q96
  rcases Nat.lt_or_ge i 128 with q112 | q112
  · exact mj_mok_7 i (by omega) q112
  rcases Nat.lt_or_ge i 144 with q128 | q128
  · exact mj_mok_8 i (by omega) q128
  rcases Nat.lt_or_ge i 160 with q144 | q144
  · exact mj_mok_9 i (by omega) q144
  rcases Nat.lt_or_ge i 176 with q160 | q160
  · exact mj_mok_10 i (by omega) q160
  rcases Nat.lt_or_ge i 192 with q176 | q176
  · exact mj_mok_11 i (by omega) q176
  rcases Nat.lt_or_ge i 208 with q192 | q192
  · exact mj_mok_12 i (by omega) q192
  rcases Nat.lt_or_ge i 224 with q208 | q208
  · exact mj_mok_13 i (by omega) q208
  rcases Nat.lt_or_ge i 240 with q224 | q224
  · exact mj_mok_14 i (by omega) q224
  rcases Nat.lt_or_ge i 256 with q240 | q240
  · exact mj_mok_15 i (by omega) q240
  rcases Nat.lt_or_ge i 272 with q256 | q256
  · exact mj_mok_16 i (by omega) q256
  rcases Nat.lt_or_ge i 278 with q272 | q272
  · exact mj_mok_17 i (by omega) q272
  omega
def mj_nF : List (String × Nat × String × String × String × String) := [("CoverTwoModel", 70, "CoverTwoModel$Hung", "cells", "[J", "CoverTwoModel"), ("CoverTwoModel", 74, "CoverTwoModel$Hung", "w", "[I", "CoverTwoModel"), ("CoverTwoModel", 77, "CoverTwoModel$Wall", "wide", "I", "CoverTwoModel"), ("CoverTwoModel", 82, "CoverTwoModel$Wall", "billWide", "[I", "CoverTwoModel"), ("CoverTwoModel", 85, "CoverTwoModel$Wall", "text", "[I", "CoverTwoModel"), ("CoverTwoModel", 88, "CoverTwoModel$Wall", "textSize", "[I", "CoverTwoModel"), ("CoverTwoModel", 91, "CoverTwoModel$Wall", "wordSize", "[I", "CoverTwoModel"), ("CoverTwoModel", 98, "CoverTwoModel$Wall", "word", "[I", "CoverTwoModel"), ("CoverTwoModel", 101, "CoverTwoModel$Wall", "high", "I", "CoverTwoModel"), ("CoverTwoModel", 112, "CoverTwoModel$Wall", "words", "I", "CoverTwoModel"), ("CoverTwoModel", 132, "CoverTwoModel$Wall", "kind", "[I", "CoverTwoModel"), ("CoverTwoModel", 143, "CoverTwoModel$Wall", "law", "I", "CoverTwoModel"), ("CoverTwoModel", 146, "CoverTwoModel$Wall", "byHang", "Z", "CoverTwoModel"), ("CoverTwoModel", 255, "CoverTwoModel$Wall", "name", "[J", "CoverTwoModel"), ("CoverTwoModel", 258, "CoverTwoModel$Wall", "names", "I", "CoverTwoModel"), ("CoverTwoModel", 261, "CoverTwoModel$Wall", "nameSort", "[I", "CoverTwoModel"), ("CoverTwoModel", 264, "CoverTwoModel$Wall", "nameNumber", "[I", "CoverTwoModel"), ("CoverTwoModel", 273, "CoverTwoModel$Wall", "bills", "I", "CoverTwoModel"), ("CoverTwoModel", 325, "CoverTwoModel$Wall", "billHigh", "[I", "CoverTwoModel"), ("CoverTwoModel", 331, "CoverTwoModel$Wall", "rivals", "I", "CoverTwoModel"), ("CoverTwoModel", 336, "CoverTwoModel$Wall", "sheets", "[I", "CoverTwoModel"), ("CoverTwoModel", 341, "CoverTwoModel$Wall", "wordAs", "[J", "CoverTwoModel"), ("CoverTwoModel", 355, "CoverTwoModel$Wall", "founders", "I", "CoverTwoModel"), ("CoverTwoModel", 358, "CoverTwoModel$Wall", "pastes", "I", "CoverTwoModel")]
def mj_nM : List (String × Nat × MethodName × String) := [("CoverTwo$Hung", 11, yX6_init, "CoverTwo"), ("CoverTwo$Orders", 11, yX0_init, "CoverTwo"), ("CoverTwo$Rows", 11, yX0_init, "CoverTwo"), ("CoverTwo$Telling", 11, yX5_init, "CoverTwo"), ("CoverTwo$Telling", 27, yX0_init, "CoverTwo"), ("CoverTwo", 15, yX0_init, "CoverTwo"), ("CoverTwo", 22, yX4_init, "CoverTwo"), ("CoverTwo", 41, yX2_init, "CoverTwo"), ("CoverTwo", 48, yX1_init, "CoverTwo"), ("CoverTwoModel", 376, yX9_init, "CoverTwoModel"), ("CoverTwoModel", 377, yX8_init, "CoverTwoModel")]
def mj_fq (q : String × Nat × String × String × String × String) : Cond := .fieldLinkNest q.1 q.2.1 q.2.2.1 q.2.2.2.1 q.2.2.2.2.1 q.2.2.2.2.2
def mj_mq (q : String × Nat × MethodName × String) : Cond := .methodLinkNest q.1 q.2.1 q.2.2.1 q.2.2.2
theorem mj_nF_ok : ∀ q ∈ mj_nF, mj_fq q ∈ lw_tbl := by
  unfold mj_nF
  exact List.forall_mem_cons.mpr ⟨List.mem_append_right _ (List.mem_of_getElem? (i := 1390) (by decide +kernel)), List.forall_mem_cons.mpr ⟨List.mem_append_right _ (List.mem_of_getElem? (i := 1388) (by decide +kernel)), List.forall_mem_cons.mpr ⟨List.mem_append_right _ (List.mem_of_getElem? (i := 1300) (by decide +kernel)), List.forall_mem_cons.mpr ⟨List.mem_append_right _ (List.mem_of_getElem? (i := 1315) (by decide +kernel)), List.forall_mem_cons.mpr ⟨List.mem_append_right _ (List.mem_of_getElem? (i := 1321) (by decide +kernel)), List.forall_mem_cons.mpr ⟨List.mem_append_right _ (List.mem_of_getElem? (i := 1319) (by decide +kernel)), List.forall_mem_cons.mpr ⟨List.mem_append_right _ (List.mem_of_getElem? (i := 1323) (by decide +kernel)), List.forall_mem_cons.mpr ⟨List.mem_append_right _ (List.mem_of_getElem? (i := 1325) (by decide +kernel)), List.forall_mem_cons.mpr ⟨List.mem_append_right _ (List.mem_of_getElem? (i := 1301) (by decide +kernel)), List.forall_mem_cons.mpr ⟨List.mem_append_right _ (List.mem_of_getElem? (i := 1306) (by decide +kernel)), List.forall_mem_cons.mpr ⟨List.mem_append_right _ (List.mem_of_getElem? (i := 1313) (by decide +kernel)), List.forall_mem_cons.mpr ⟨List.mem_append_right _ (List.mem_of_getElem? (i := 1302) (by decide +kernel)), List.forall_mem_cons.mpr ⟨List.mem_append_right _ (List.mem_of_getElem? (i := 1311) (by decide +kernel)), List.forall_mem_cons.mpr ⟨List.mem_append_right _ (List.mem_of_getElem? (i := 1331) (by decide +kernel)), List.forall_mem_cons.mpr ⟨List.mem_append_right _ (List.mem_of_getElem? (i := 1310) (by decide +kernel)), List.forall_mem_cons.mpr ⟨List.mem_append_right _ (List.mem_of_getElem? (i := 1333) (by decide +kernel)), List.forall_mem_cons.mpr ⟨List.mem_append_right _ (List.mem_of_getElem? (i := 1335) (by decide +kernel)), List.forall_mem_cons.mpr ⟨List.mem_append_right _ (List.mem_of_getElem? (i := 1303) (by decide +kernel)), List.forall_mem_cons.mpr ⟨List.mem_append_right _ (List.mem_of_getElem? (i := 1317) (by decide +kernel)), List.forall_mem_cons.mpr ⟨List.mem_append_right _ (List.mem_of_getElem? (i := 1304) (by decide +kernel)), List.forall_mem_cons.mpr ⟨List.mem_append_right _ (List.mem_of_getElem? (i := 1327) (by decide +kernel)), List.forall_mem_cons.mpr ⟨List.mem_append_right _ (List.mem_of_getElem? (i := 1329) (by decide +kernel)), List.forall_mem_cons.mpr ⟨List.mem_append_right _ (List.mem_of_getElem? (i := 1307) (by decide +kernel)), List.forall_mem_cons.mpr ⟨List.mem_append_right _ (List.mem_of_getElem? (i := 1308) (by decide +kernel)), fun _ h => absurd h List.not_mem_nil⟩⟩⟩⟩⟩⟩⟩⟩⟩⟩⟩⟩⟩⟩⟩⟩⟩⟩⟩⟩⟩⟩⟩⟩
theorem mj_nM_ok : ∀ q ∈ mj_nM, mj_mq q ∈ lw_tbl := by
  unfold mj_nM
  exact List.forall_mem_cons.mpr ⟨List.mem_append_right _ (List.mem_of_getElem? (i := 39) (by decide +kernel)), List.forall_mem_cons.mpr ⟨List.mem_append_right _ (List.mem_of_getElem? (i := 330) (by decide +kernel)), List.forall_mem_cons.mpr ⟨List.mem_append_right _ (List.mem_of_getElem? (i := 311) (by decide +kernel)), List.forall_mem_cons.mpr ⟨List.mem_append_right _ (List.mem_of_getElem? (i := 211) (by decide +kernel)), List.forall_mem_cons.mpr ⟨List.mem_append_right _ (List.mem_of_getElem? (i := 246) (by decide +kernel)), List.forall_mem_cons.mpr ⟨List.mem_append_right _ (List.mem_of_getElem? (i := 33) (by decide +kernel)), List.forall_mem_cons.mpr ⟨List.mem_append_right _ (List.mem_of_getElem? (i := 205) (by decide +kernel)), List.forall_mem_cons.mpr ⟨List.mem_append_right _ (List.mem_of_getElem? (i := 306) (by decide +kernel)), List.forall_mem_cons.mpr ⟨List.mem_append_right _ (List.mem_of_getElem? (i := 325) (by decide +kernel)), List.forall_mem_cons.mpr ⟨List.mem_append_right _ (List.mem_of_getElem? (i := 1295) (by decide +kernel)), List.forall_mem_cons.mpr ⟨List.mem_append_right _ (List.mem_of_getElem? (i := 1383) (by decide +kernel)), fun _ h => absurd h List.not_mem_nil⟩⟩⟩⟩⟩⟩⟩⟩⟩⟩⟩
def mj_tx : List String := ["wall", "bill", "rival", "word", "founder", "paste", "wide", "high", "law", "hang", "seen", "text", "sheets", "by", "plain", "torn", "wording", "last", "at", "there is none such"]
def mj_pok (o idx tag x y : Nat) : Prop := match tag with
  | 1 => y < mj_N x ∧ Cond.fieldLink (mj_R o) idx (mj_T x y).1 (mj_T x y).2.1 (mj_T x y).2.2.1 ∈ mj_gw
  | 2 => y < mj_N x ∧ ∃ host, (mj_R o, idx, (mj_T x y).1, (mj_T x y).2.1, (mj_T x y).2.2.1, host) ∈ mj_nF
  | 3 => x < 11 ∧ Cond.classLink (mj_R o) idx (mj_R x) ∈ mj_gw ∧ Cond.instantiable (mj_R x) (mj_N x) ∈ mj_gw ∧ Cond.initialized (mj_R x) ∈ mj_gw
  | 4 => x < mj_n ∧ Cond.methodLink (mj_R o) idx (mj_y x) ∈ mj_gw ∧ Cond.instanceMethod (mj_y x) ∈ mj_gw ∧ Cond.selects (mj_y x).cls (mj_y x) (mj_y x) ∈ mj_gw
  | 5 => x < mj_n ∧ Cond.methodLink (mj_R o) idx (mj_y x) ∈ mj_gw ∧ Cond.static (mj_y x) ∈ mj_gw
  | 6 => x < mj_n ∧ Cond.methodLink (mj_R o) idx (mj_y x) ∈ mj_gw ∧ Cond.instanceMethod (mj_y x) ∈ mj_gw ∧ (mj_y x).name = "<init>"
  | 7 => x < mj_n ∧ ∃ host, (mj_R o, idx, mj_y x, host) ∈ mj_nM ∧ Cond.instanceMethod (mj_y x) ∈ mj_gw ∧ (mj_y x).name = "<init>"
  | 8 => Cond.methodLink (mj_R o) idx objectInit ∈ mj_gw
  | 9 => Cond.methodLink (mj_R o) idx arraycopyName ∈ mj_gw
  | 10 => Cond.constant (mj_R o) idx (Int32.ofNat x) ∈ mj_gw
  | 11 => Cond.constantLong (mj_R o) idx (if y = 0 then Int64.ofNat x else - Int64.ofNat x) ∈ mj_gw
  | 12 => True
  | 14 => Cond.methodLink (mj_R o) idx Lib.Math.max.name ∈ mj_gw
  | 15 => Cond.methodLink (mj_R o) idx Lib.Math.min.name ∈ mj_gw
  | _ => False
def pl_0 : List ((Nat × Nat) × (Nat × Nat × Nat)) := [((0, 3), (8, 0, 0)), ((0, 9), (3, 6, 0)), ((0, 11), (7, 81, 0)), ((0, 12), (1, 0, 0)), ((0, 18), (1, 0, 4)), ((0, 22), (1, 0, 5)), ((0, 25), (1, 0, 6)), ((0, 28), (1, 0, 7)), ((0, 31), (1, 0, 8)), ((0, 34), (1, 0, 9)), ((0, 37), (1, 0, 10)), ((0, 40), (1, 0, 11)), ((0, 44), (4, 82, 0)), ((0, 47), (1, 0, 1)), ((0, 51), (1, 0, 2)), ((0, 54), (4, 6, 0))]
def pl_1 : List ((Nat × Nat) × (Nat × Nat × Nat)) := [((0, 57), (1, 0, 3)), ((0, 60), (1, 0, 12)), ((0, 64), (9, 0, 0)), ((0, 70), (4, 91, 0)), ((0, 74), (1, 6, 7)), ((0, 77), (14, 0, 0)), ((0, 82), (4, 4, 0)), ((0, 86), (15, 0, 0)), ((0, 89), (4, 10, 0)), ((0, 92), (4, 13, 0)), ((0, 96), (5, 275, 0)), ((0, 101), (4, 92, 0)), ((0, 104), (4, 93, 0)), ((0, 107), (1, 6, 3)), ((0, 110), (4, 17, 0)), ((0, 114), (4, 90, 0))]
def pl_2 : List ((Nat × Nat) × (Nat × Nat × Nat)) := [((0, 118), (4, 15, 0)), ((0, 122), (4, 26, 0)), ((0, 125), (4, 16, 0)), ((0, 128), (1, 6, 4)), ((0, 131), (1, 6, 19)), ((0, 134), (1, 6, 18)), ((0, 137), (1, 6, 9)), ((0, 140), (1, 6, 14)), ((0, 143), (11, 1, 1)), ((0, 145), (1, 6, 13)), ((0, 148), (4, 22, 0)), ((0, 151), (5, 97, 0)), ((0, 155), (1, 6, 1)), ((0, 158), (4, 94, 0)), ((0, 161), (4, 95, 0)), ((0, 164), (1, 6, 0))]
def pl_3 : List ((Nat × Nat) × (Nat × Nat × Nat)) := [((0, 167), (1, 6, 6)), ((1, 3), (8, 0, 0)), ((1, 9), (3, 0, 0)), ((1, 11), (7, 0, 0)), ((1, 12), (1, 1, 0)), ((1, 18), (1, 1, 1)), ((1, 21), (1, 1, 2)), ((1, 25), (1, 1, 3)), ((1, 28), (1, 1, 4)), ((1, 31), (1, 1, 5)), ((1, 34), (4, 2, 0)), ((1, 38), (1, 0, 2)), ((1, 41), (4, 4, 0)), ((1, 45), (4, 29, 0)), ((1, 49), (1, 0, 1)), ((1, 52), (1, 0, 7))]
def pl_4 : List ((Nat × Nat) × (Nat × Nat × Nat)) := [((1, 56), (1, 0, 4)), ((1, 59), (1, 0, 5)), ((1, 62), (4, 16, 0)), ((1, 66), (1, 0, 6)), ((1, 69), (4, 3, 0)), ((1, 73), (1, 0, 8)), ((2, 3), (8, 0, 0)), ((2, 9), (3, 0, 0)), ((2, 11), (7, 0, 0)), ((2, 12), (1, 2, 0)), ((2, 18), (1, 0, 0)), ((2, 22), (1, 6, 0)), ((2, 28), (4, 2, 0)), ((2, 32), (1, 2, 1)), ((2, 35), (1, 2, 2)), ((2, 38), (4, 32, 0))]
def pl_5 : List ((Nat × Nat) × (Nat × Nat × Nat)) := [((2, 42), (4, 40, 0)), ((2, 46), (5, 41, 0)), ((2, 50), (5, 42, 0)), ((2, 53), (4, 16, 0)), ((2, 56), (14, 0, 0)), ((2, 62), (4, 43, 0)), ((2, 66), (4, 44, 0)), ((2, 69), (4, 34, 0)), ((2, 73), (4, 21, 0)), ((2, 77), (4, 14, 0)), ((2, 81), (4, 36, 0)), ((2, 85), (4, 3, 0)), ((2, 89), (4, 91, 0)), ((2, 92), (5, 275, 0)), ((2, 97), (15, 0, 0)), ((2, 100), (4, 92, 0))]
def pl_6 : List ((Nat × Nat) × (Nat × Nat × Nat)) := [((2, 103), (4, 37, 0)), ((2, 107), (1, 6, 4)), ((2, 110), (4, 20, 0)), ((2, 114), (1, 0, 1)), ((2, 117), (4, 4, 0)), ((3, 3), (8, 0, 0)), ((3, 9), (14, 0, 0)), ((3, 17), (1, 3, 0)), ((3, 22), (1, 3, 1)), ((3, 26), (1, 3, 2)), ((3, 29), (4, 50, 0)), ((3, 33), (4, 7, 0)), ((3, 39), (4, 49, 0)), ((3, 43), (4, 8, 0)), ((4, 3), (8, 0, 0)), ((4, 9), (3, 5, 0))]
def pl_7 : List ((Nat × Nat) × (Nat × Nat × Nat)) := [((4, 11), (7, 71, 0)), ((4, 12), (1, 4, 0)), ((4, 18), (1, 4, 1)), ((4, 22), (1, 4, 2)), ((4, 25), (3, 0, 0)), ((4, 27), (7, 0, 0)), ((4, 28), (1, 4, 3)), ((4, 32), (1, 0, 0)), ((4, 36), (1, 4, 4)), ((4, 37), (4, 1, 0)), ((4, 40), (1, 4, 5)), ((4, 44), (1, 4, 6)), ((4, 47), (4, 72, 0)), ((4, 51), (12, 0, 0)), ((4, 53), (4, 79, 0)), ((4, 57), (4, 56, 0))]
def pl_8 : List ((Nat × Nat) × (Nat × Nat × Nat)) := [((4, 61), (12, 1, 0)), ((4, 63), (4, 57, 0)), ((4, 66), (12, 2, 0)), ((4, 68), (4, 58, 0)), ((4, 71), (12, 3, 0)), ((4, 73), (4, 59, 0)), ((4, 76), (12, 4, 0)), ((4, 78), (4, 60, 0)), ((4, 81), (12, 5, 0)), ((4, 83), (4, 61, 0)), ((4, 86), (4, 54, 0)), ((4, 90), (4, 55, 0)), ((4, 93), (1, 5, 4)), ((4, 96), (1, 4, 7)), ((4, 99), (1, 5, 3)), ((4, 102), (4, 73, 0))]
def pl_9 : List ((Nat × Nat) × (Nat × Nat × Nat)) := [((4, 105), (1, 6, 4)), ((4, 110), (1, 6, 0)), ((4, 113), (12, 6, 0)), ((4, 114), (4, 63, 0)), ((4, 117), (4, 64, 0)), ((4, 121), (1, 4, 8)), ((4, 124), (12, 7, 0)), ((4, 126), (12, 8, 0)), ((4, 128), (12, 9, 0)), ((4, 130), (12, 10, 0)), ((4, 132), (4, 83, 0)), ((4, 136), (4, 62, 0)), ((4, 140), (4, 67, 0)), ((4, 143), (1, 4, 9)), ((4, 147), (4, 66, 0)), ((4, 150), (1, 6, 1))]
def pl_10 : List ((Nat × Nat) × (Nat × Nat × Nat)) := [((4, 152), (12, 11, 0)), ((4, 154), (4, 65, 0)), ((4, 157), (1, 4, 10)), ((4, 160), (4, 84, 0)), ((4, 164), (1, 6, 5)), ((4, 167), (12, 12, 0)), ((4, 169), (1, 0, 9)), ((4, 172), (1, 6, 6)), ((4, 175), (1, 6, 15)), ((4, 177), (4, 70, 0)), ((4, 181), (4, 87, 0)), ((4, 185), (1, 0, 2)), ((4, 188), (4, 68, 0)), ((4, 192), (4, 69, 0)), ((4, 195), (4, 3, 0)), ((4, 199), (12, 13, 0))]
def pl_11 : List ((Nat × Nat) × (Nat × Nat × Nat)) := [((4, 201), (4, 16, 0)), ((4, 204), (1, 5, 7)), ((4, 207), (1, 5, 6)), ((4, 210), (1, 5, 5)), ((4, 213), (12, 14, 0)), ((4, 215), (12, 15, 0)), ((4, 217), (12, 16, 0)), ((4, 219), (12, 17, 0)), ((4, 221), (4, 80, 0)), ((4, 224), (12, 18, 0)), ((4, 226), (1, 6, 8)), ((4, 229), (1, 6, 9)), ((5, 3), (8, 0, 0)), ((5, 9), (1, 5, 0)), ((5, 15), (15, 0, 0)), ((5, 21), (1, 5, 1))]
def pl_12 : List ((Nat × Nat) × (Nat × Nat × Nat)) := [((5, 25), (1, 5, 2)), ((5, 28), (4, 73, 0)), ((5, 31), (1, 5, 4)), ((5, 34), (1, 5, 5)), ((5, 37), (1, 5, 3)), ((5, 40), (4, 74, 0)), ((5, 44), (4, 76, 0)), ((5, 47), (4, 75, 0)), ((5, 50), (4, 77, 0)), ((5, 53), (4, 78, 0)), ((5, 56), (1, 5, 6)), ((5, 60), (1, 5, 7)), ((5, 63), (4, 276, 0)), ((5, 68), (5, 97, 0)), ((5, 74), (4, 277, 0)), ((5, 78), (12, 0, 0))]
def pl_13 : List ((Nat × Nat) × (Nat × Nat × Nat)) := [((5, 80), (4, 79, 0)), ((5, 84), (12, 1, 0)), ((5, 86), (12, 2, 0)), ((5, 88), (12, 4, 0)), ((5, 90), (12, 3, 0)), ((5, 92), (12, 5, 0)), ((6, 3), (8, 0, 0)), ((6, 9), (1, 6, 7)), ((6, 15), (1, 6, 8)), ((6, 18), (1, 6, 9)), ((6, 21), (1, 6, 10)), ((6, 24), (1, 6, 11)), ((6, 27), (1, 6, 12)), ((6, 30), (1, 6, 13)), ((6, 34), (1, 6, 14)), ((6, 37), (1, 6, 15))]
def pl_14 : List ((Nat × Nat) × (Nat × Nat × Nat)) := [((6, 40), (1, 6, 16)), ((6, 43), (1, 6, 17)), ((6, 46), (1, 6, 18)), ((6, 49), (1, 6, 19)), ((6, 52), (1, 6, 0)), ((6, 56), (1, 6, 1)), ((6, 59), (1, 6, 2)), ((6, 62), (1, 6, 3)), ((6, 66), (1, 6, 4)), ((6, 69), (1, 6, 5)), ((6, 72), (1, 6, 6)), ((6, 75), (4, 85, 0)), ((6, 79), (5, 96, 0)), ((6, 83), (5, 86, 0)), ((6, 87), (5, 97, 0)), ((6, 91), (4, 88, 0))]
def pl_15 : List ((Nat × Nat) × (Nat × Nat × Nat)) := [((6, 94), (4, 90, 0)), ((7, 3), (8, 0, 0)), ((7, 9), (1, 7, 0)), ((7, 13), (3, 0, 0)), ((7, 15), (7, 0, 0)), ((7, 16), (1, 7, 2)), ((7, 20), (3, 4, 0)), ((7, 22), (7, 51, 0)), ((7, 23), (1, 7, 3)), ((7, 27), (3, 3, 0)), ((7, 29), (6, 45, 0)), ((7, 32), (1, 7, 4)), ((7, 36), (1, 7, 5)), ((7, 39), (3, 2, 0)), ((7, 41), (7, 30, 0)), ((7, 42), (1, 7, 6))]
def pl_16 : List ((Nat × Nat) × (Nat × Nat × Nat)) := [((7, 46), (3, 1, 0)), ((7, 48), (7, 27, 0)), ((7, 49), (1, 7, 7)), ((7, 53), (1, 7, 1)), ((7, 57), (4, 146, 0)), ((7, 60), (4, 143, 0)), ((7, 64), (4, 52, 0)), ((7, 68), (1, 7, 9)), ((7, 71), (1, 4, 7)), ((7, 74), (1, 7, 10)), ((7, 77), (4, 53, 0)), ((7, 81), (4, 46, 0)), ((7, 84), (1, 0, 0)), ((7, 88), (1, 6, 4)), ((7, 93), (4, 142, 0)), ((7, 96), (1, 7, 8))]
def pl_17 : List ((Nat × Nat) × (Nat × Nat × Nat)) := [((7, 99), (4, 148, 0)), ((7, 103), (1, 6, 7)), ((7, 107), (1, 6, 8)), ((7, 110), (1, 6, 9)), ((7, 113), (1, 6, 10)), ((7, 116), (4, 147, 0)), ((7, 120), (1, 0, 1)), ((7, 123), (4, 151, 0)), ((7, 126), (1, 0, 4)), ((7, 129), (1, 6, 18)), ((7, 132), (1, 0, 5)), ((7, 135), (1, 6, 19)), ((7, 138), (1, 0, 6)), ((7, 141), (1, 0, 8)), ((7, 144), (5, 275, 0)), ((7, 149), (4, 88, 0))]
def pl_18 : List ((Nat × Nat) × (Nat × Nat × Nat)) := [((7, 153), (4, 9, 0)), ((7, 156), (4, 23, 0)), ((7, 159), (4, 11, 0)), ((7, 163), (4, 10, 0)), ((7, 165), (4, 89, 0)), ((7, 168), (4, 91, 0)), ((7, 171), (1, 6, 3)), ((7, 175), (4, 15, 0)), ((7, 179), (4, 16, 0)), ((7, 183), (4, 93, 0)), ((7, 186), (4, 18, 0)), ((7, 190), (4, 20, 0)), ((7, 194), (4, 21, 0)), ((7, 197), (4, 149, 0)), ((7, 200), (4, 145, 0)), ((7, 203), (1, 0, 9))]
def pl_19 : List ((Nat × Nat) × (Nat × Nat × Nat)) := [((7, 206), (4, 47, 0)), ((7, 210), (4, 3, 0)), ((7, 214), (4, 144, 0)), ((7, 217), (1, 0, 2)), ((7, 220), (4, 4, 0)), ((7, 223), (4, 5, 0)), ((7, 226), (1, 6, 5)), ((7, 229), (4, 13, 0)), ((7, 232), (1, 0, 10)), ((7, 235), (4, 48, 0)), ((7, 239), (4, 150, 0)), ((7, 242), (4, 24, 0)), ((7, 245), (4, 25, 0)), ((7, 248), (1, 6, 17)), ((7, 251), (4, 19, 0)), ((7, 254), (4, 37, 0))]
def pl_20 : List ((Nat × Nat) × (Nat × Nat × Nat)) := [((7, 258), (4, 38, 0)), ((7, 262), (4, 31, 0)), ((7, 265), (1, 2, 2)), ((7, 268), (4, 33, 0)), ((7, 271), (4, 35, 0)), ((7, 275), (15, 0, 0)), ((7, 280), (4, 39, 0)), ((7, 284), (4, 28, 0)), ((7, 288), (1, 1, 4)), ((7, 291), (1, 1, 5)), ((7, 294), (1, 3, 2)), ((7, 295), (4, 49, 0)), ((7, 299), (4, 12, 0)), ((7, 304), (12, 19, 0)), ((7, 309), (1, 6, 0)), ((7, 312), (1, 6, 1))]
def pl_21 : List ((Nat × Nat) × (Nat × Nat × Nat)) := [((7, 315), (1, 6, 2)), ((7, 318), (1, 6, 6)), ((8, 3), (8, 0, 0)), ((8, 9), (1, 8, 0)), ((8, 15), (1, 8, 1)), ((8, 19), (4, 160, 0)), ((9, 3), (8, 0, 0)), ((9, 9), (1, 9, 10)), ((9, 15), (1, 9, 11)), ((9, 18), (1, 9, 12)), ((9, 21), (1, 9, 13)), ((9, 24), (1, 9, 14)), ((9, 27), (1, 9, 15)), ((9, 30), (1, 9, 16)), ((9, 33), (1, 9, 17)), ((9, 36), (1, 9, 18))]
def pl_22 : List ((Nat × Nat) × (Nat × Nat × Nat)) := [((9, 40), (1, 9, 19)), ((9, 43), (1, 9, 20)), ((9, 46), (1, 9, 21)), ((9, 49), (1, 9, 8)), ((9, 53), (1, 9, 5)), ((9, 56), (1, 9, 0)), ((10, 3), (8, 0, 0)), ((10, 9), (1, 10, 2)), ((10, 13), (1, 10, 7)), ((10, 17), (1, 10, 8)), ((10, 20), (1, 10, 9)), ((10, 24), (1, 10, 20)), ((10, 27), (1, 10, 24)), ((10, 30), (1, 10, 25)), ((10, 33), (1, 10, 32)), ((10, 36), (1, 10, 33))]
def pl_23 : List ((Nat × Nat) × (Nat × Nat × Nat)) := [((10, 39), (1, 10, 34)), ((10, 42), (1, 10, 35)), ((10, 45), (1, 10, 36)), ((10, 48), (1, 10, 40)), ((10, 51), (1, 10, 0)), ((10, 54), (1, 10, 1)), ((10, 57), (4, 163, 0)), ((10, 61), (4, 165, 0)), ((10, 64), (4, 153, 0)), ((10, 65), (3, 8, 0)), ((10, 70), (2, 8, 1)), ((10, 74), (2, 8, 0)), ((10, 77), (2, 9, 0)), ((10, 78), (3, 9, 0)), ((10, 82), (2, 9, 11)), ((10, 85), (2, 9, 14))]
def pl_24 : List ((Nat × Nat) × (Nat × Nat × Nat)) := [((10, 88), (2, 9, 13)), ((10, 91), (2, 9, 15)), ((10, 94), (4, 171, 0)), ((10, 98), (2, 9, 16)), ((10, 101), (2, 9, 1)), ((10, 104), (4, 172, 0)), ((10, 108), (4, 168, 0)), ((10, 112), (2, 9, 5)), ((10, 115), (4, 173, 0)), ((10, 118), (4, 154, 0)), ((10, 122), (4, 155, 0)), ((10, 125), (4, 160, 0)), ((10, 128), (4, 169, 0)), ((10, 132), (2, 9, 10)), ((10, 135), (4, 175, 0)), ((10, 139), (4, 174, 0))]
def pl_25 : List ((Nat × Nat) × (Nat × Nat × Nat)) := [((10, 143), (2, 9, 2)), ((10, 146), (2, 9, 9)), ((10, 150), (4, 176, 0)), ((10, 154), (1, 10, 11)), ((10, 157), (4, 276, 0)), ((10, 162), (11, 32, 0)), ((10, 164), (4, 277, 0)), ((10, 168), (1, 10, 13)), ((10, 171), (1, 10, 12)), ((10, 174), (4, 178, 0)), ((10, 177), (1, 10, 14)), ((10, 180), (1, 10, 15)), ((10, 183), (5, 179, 0)), ((10, 187), (1, 10, 21)), ((10, 190), (1, 10, 17)), ((10, 193), (5, 180, 0))]
def pl_26 : List ((Nat × Nat) × (Nat × Nat × Nat)) := [((10, 196), (1, 10, 16)), ((10, 199), (1, 10, 18)), ((10, 202), (1, 10, 19)), ((10, 205), (5, 181, 0)), ((10, 209), (4, 184, 0)), ((10, 213), (4, 182, 0)), ((10, 216), (4, 183, 0)), ((10, 220), (5, 167, 0)), ((10, 224), (4, 187, 0)), ((10, 228), (4, 188, 0)), ((10, 232), (12, 0, 0)), ((10, 234), (12, 1, 0)), ((10, 236), (12, 2, 0)), ((10, 238), (12, 4, 0)), ((10, 240), (12, 3, 0)), ((10, 241), (12, 5, 0))]
def pl_27 : List ((Nat × Nat) × (Nat × Nat × Nat)) := [((10, 243), (1, 10, 4)), ((10, 247), (4, 190, 0)), ((10, 251), (4, 158, 0)), ((10, 255), (2, 9, 19)), ((10, 258), (2, 9, 8)), ((10, 261), (2, 9, 20)), ((10, 264), (2, 9, 21)), ((10, 267), (4, 196, 0)), ((10, 270), (4, 186, 0)), ((10, 273), (2, 9, 3)), ((10, 276), (4, 197, 0)), ((10, 279), (4, 198, 0)), ((10, 282), (4, 199, 0)), ((10, 285), (4, 200, 0)), ((10, 288), (4, 202, 0)), ((10, 291), (4, 203, 0))]
def pl_28 : List ((Nat × Nat) × (Nat × Nat × Nat)) := [((10, 294), (12, 6, 0)), ((10, 295), (4, 189, 0)), ((10, 299), (12, 7, 0)), ((10, 300), (12, 8, 0)), ((10, 301), (12, 9, 0)), ((10, 303), (12, 10, 0)), ((10, 305), (4, 191, 0)), ((10, 309), (4, 192, 0)), ((10, 313), (12, 14, 0)), ((10, 315), (4, 185, 0)), ((10, 318), (12, 15, 0)), ((10, 320), (12, 16, 0)), ((10, 322), (12, 17, 0)), ((10, 324), (12, 11, 0)), ((10, 325), (2, 9, 12)), ((10, 328), (4, 193, 0))]
def pl_29 : List ((Nat × Nat) × (Nat × Nat × Nat)) := [((10, 331), (2, 9, 4)), ((10, 334), (12, 12, 0)), ((10, 336), (2, 9, 17)), ((10, 338), (4, 159, 0)), ((10, 341), (2, 9, 18)), ((10, 344), (4, 194, 0)), ((10, 347), (12, 18, 0)), ((10, 349), (1, 10, 22)), ((10, 352), (1, 10, 23)), ((10, 355), (2, 9, 6)), ((10, 358), (2, 9, 7)), ((10, 361), (4, 201, 0)), ((10, 364), (1, 10, 6)), ((10, 368), (12, 13, 0)), ((10, 370), (4, 177, 0)), ((10, 373), (1, 10, 10))]
def pl_30 : List ((Nat × Nat) × (Nat × Nat × Nat)) := [((10, 376), (7, 157, 0)), ((10, 377), (7, 152, 0)), ((10, 378), (4, 195, 0)), ((10, 381), (1, 10, 3)), ((10, 383), (1, 10, 5)), ((10, 386), (1, 10, 26)), ((10, 389), (1, 10, 27)), ((10, 392), (4, 212, 0)), ((10, 395), (4, 208, 0)), ((10, 398), (4, 210, 0)), ((10, 401), (5, 170, 0)), ((10, 404), (4, 211, 0)), ((10, 408), (4, 224, 0)), ((10, 412), (4, 215, 0)), ((10, 414), (4, 214, 0)), ((10, 417), (4, 213, 0))]
def pl_31 : List ((Nat × Nat) × (Nat × Nat × Nat)) := [((10, 420), (4, 229, 0)), ((10, 423), (4, 209, 0)), ((10, 426), (4, 164, 0)), ((10, 429), (4, 232, 0)), ((10, 432), (4, 166, 0)), ((10, 435), (4, 237, 0)), ((10, 438), (4, 156, 0)), ((10, 442), (4, 241, 0)), ((10, 445), (4, 243, 0)), ((10, 448), (4, 247, 0)), ((10, 452), (4, 248, 0)), ((10, 455), (4, 249, 0)), ((10, 458), (1, 10, 28)), ((10, 461), (1, 10, 29)), ((10, 464), (4, 252, 0)), ((10, 467), (1, 10, 30))]
def pl_32 : List ((Nat × Nat) × (Nat × Nat × Nat)) := [((10, 470), (4, 253, 0)), ((10, 473), (4, 254, 0)), ((10, 476), (4, 258, 0)), ((10, 479), (4, 257, 0)), ((10, 482), (1, 10, 31)), ((10, 485), (4, 260, 0)), ((10, 488), (4, 261, 0)), ((10, 491), (4, 263, 0)), ((10, 495), (1, 10, 37)), ((10, 498), (1, 10, 38)), ((10, 501), (1, 10, 39)), ((10, 504), (4, 266, 0)), ((10, 507), (4, 267, 0)), ((10, 510), (4, 265, 0)), ((11, 7), (4, 139, 0)), ((11, 8), (3, 7, 0))]
def pl_33 : List ((Nat × Nat) × (Nat × Nat × Nat)) := [((11, 15), (6, 98, 0)), ((11, 16), (3, 10, 0)), ((11, 18), (6, 161, 0)), ((11, 19), (4, 99, 0)), ((11, 23), (4, 204, 0)), ((11, 24), (4, 100, 0)), ((11, 27), (4, 205, 0)), ((11, 28), (4, 101, 0)), ((11, 32), (4, 206, 0)), ((11, 33), (4, 102, 0)), ((11, 36), (4, 207, 0)), ((11, 37), (4, 103, 0)), ((11, 41), (4, 216, 0)), ((11, 42), (4, 104, 0)), ((11, 45), (4, 217, 0)), ((11, 46), (4, 105, 0))]
def pl_34 : List ((Nat × Nat) × (Nat × Nat × Nat)) := [((11, 49), (4, 218, 0)), ((11, 50), (4, 106, 0)), ((11, 53), (4, 219, 0)), ((11, 54), (4, 107, 0)), ((11, 57), (4, 220, 0)), ((11, 58), (4, 108, 0)), ((11, 61), (4, 222, 0)), ((11, 62), (4, 109, 0)), ((11, 65), (4, 223, 0)), ((11, 66), (4, 110, 0)), ((11, 70), (4, 221, 0)), ((11, 71), (4, 111, 0)), ((11, 74), (4, 225, 0)), ((11, 75), (4, 112, 0)), ((11, 78), (4, 226, 0)), ((11, 79), (4, 113, 0))]
def pl_35 : List ((Nat × Nat) × (Nat × Nat × Nat)) := [((11, 82), (4, 227, 0)), ((11, 83), (4, 114, 0)), ((11, 86), (4, 228, 0)), ((11, 87), (4, 115, 0)), ((11, 90), (4, 230, 0)), ((11, 91), (4, 116, 0)), ((11, 95), (4, 231, 0)), ((11, 96), (4, 117, 0)), ((11, 100), (4, 233, 0)), ((11, 101), (4, 118, 0)), ((11, 105), (4, 234, 0)), ((11, 106), (4, 119, 0)), ((11, 110), (4, 235, 0)), ((11, 111), (4, 120, 0)), ((11, 114), (4, 236, 0)), ((11, 115), (4, 121, 0))]
def pl_36 : List ((Nat × Nat) × (Nat × Nat × Nat)) := [((11, 118), (4, 238, 0)), ((11, 119), (4, 122, 0)), ((11, 122), (4, 239, 0)), ((11, 123), (4, 123, 0)), ((11, 126), (4, 240, 0)), ((11, 127), (4, 124, 0)), ((11, 130), (4, 242, 0)), ((11, 131), (4, 125, 0)), ((11, 134), (4, 244, 0)), ((11, 135), (4, 126, 0)), ((11, 138), (4, 245, 0)), ((11, 139), (4, 127, 0)), ((11, 142), (4, 246, 0)), ((11, 143), (4, 128, 0)), ((11, 146), (4, 250, 0)), ((11, 147), (4, 129, 0))]
def pl_37 : List ((Nat × Nat) × (Nat × Nat × Nat)) := [((11, 150), (4, 251, 0)), ((11, 151), (4, 130, 0)), ((11, 154), (4, 255, 0)), ((11, 155), (4, 131, 0)), ((11, 158), (4, 256, 0)), ((11, 159), (4, 132, 0)), ((11, 162), (4, 259, 0)), ((11, 163), (4, 133, 0)), ((11, 166), (4, 262, 0)), ((11, 167), (4, 134, 0)), ((11, 171), (4, 264, 0)), ((11, 172), (4, 135, 0)), ((11, 175), (4, 268, 0)), ((11, 176), (4, 136, 0)), ((11, 179), (4, 269, 0)), ((11, 180), (4, 137, 0))]
def pl_38 : List ((Nat × Nat) × (Nat × Nat × Nat)) := [((11, 183), (4, 270, 0)), ((11, 184), (4, 138, 0)), ((11, 187), (4, 271, 0)), ((11, 193), (4, 272, 0)), ((11, 194), (4, 162, 0)), ((11, 197), (4, 140, 0)), ((11, 200), (4, 273, 0)), ((11, 201), (4, 141, 0)), ((11, 204), (4, 274, 0)), ((12, 265), (10, 1431655765, 0)), ((12, 266), (10, 858993459, 0)), ((12, 267), (10, 252645135, 0))]
def mj_poolL : List ((Nat × Nat) × (Nat × Nat × Nat)) := pl_0 ++ (pl_1 ++ (pl_2 ++ (pl_3 ++ (pl_4 ++ (pl_5 ++ (pl_6 ++ (pl_7 ++ (pl_8 ++ (pl_9 ++ (pl_10 ++ (pl_11 ++ (pl_12 ++ (pl_13 ++ (pl_14 ++ (pl_15 ++ (pl_16 ++ (pl_17 ++ (pl_18 ++ (pl_19 ++ (pl_20 ++ (pl_21 ++ (pl_22 ++ (pl_23 ++ (pl_24 ++ (pl_25 ++ (pl_26 ++ (pl_27 ++ (pl_28 ++ (pl_29 ++ (pl_30 ++ (pl_31 ++ (pl_32 ++ (pl_33 ++ (pl_34 ++ (pl_35 ++ (pl_36 ++ (pl_37 ++ (pl_38))))))))))))))))))))))))))))))))))))))
set_option maxRecDepth 100000 in
theorem pk_0 : mj_pok 0 3 8 0 0 := (mj_tb 36 (by decide +kernel) rfl)
set_option maxRecDepth 100000 in
theorem pk_1 : mj_pok 0 9 3 6 0 := ⟨by decide, (mj_tb 37 (by decide +kernel) rfl), (mj_tb 38 (by decide +kernel) rfl), (mj_tb 3 (by decide +kernel) rfl)⟩
set_option maxRecDepth 100000 in
theorem pk_2 : mj_pok 0 11 7 81 0 := ⟨by decide, "CoverTwo", List.mem_of_getElem? (i := 0) rfl, (mj_tb 40 (by decide +kernel) rfl), rfl⟩
set_option maxRecDepth 100000 in
theorem pk_3 : mj_pok 0 12 1 0 0 := ⟨by decide, (mj_tb 142 (by decide +kernel) rfl)⟩
set_option maxRecDepth 100000 in
theorem pk_4 : mj_pok 0 18 1 0 4 := ⟨by decide, (mj_tb 155 (by decide +kernel) rfl)⟩
set_option maxRecDepth 100000 in
theorem pk_5 : mj_pok 0 22 1 0 5 := ⟨by decide, (mj_tb 158 (by decide +kernel) rfl)⟩
set_option maxRecDepth 100000 in
theorem pk_6 : mj_pok 0 25 1 0 6 := ⟨by decide, (mj_tb 161 (by decide +kernel) rfl)⟩
set_option maxRecDepth 100000 in
theorem pk_7 : mj_pok 0 28 1 0 7 := ⟨by decide, (mj_tb 164 (by decide +kernel) rfl)⟩
set_option maxRecDepth 100000 in
theorem pk_8 : mj_pok 0 31 1 0 8 := ⟨by decide, (mj_tb 166 (by decide +kernel) rfl)⟩
set_option maxRecDepth 100000 in
theorem pk_9 : mj_pok 0 34 1 0 9 := ⟨by decide, (mj_tb 169 (by decide +kernel) rfl)⟩
set_option maxRecDepth 100000 in
theorem pk_10 : mj_pok 0 37 1 0 10 := ⟨by decide, (mj_tb 172 (by decide +kernel) rfl)⟩
set_option maxRecDepth 100000 in
theorem pk_11 : mj_pok 0 40 1 0 11 := ⟨by decide, (mj_tb 174 (by decide +kernel) rfl)⟩
set_option maxRecDepth 100000 in
theorem pk_12 : mj_pok 0 44 4 82 0 := ⟨by decide, (mj_tb 410 (by decide +kernel) rfl), (mj_tb 411 (by decide +kernel) rfl), (mj_tb 412 (by decide +kernel) rfl)⟩
set_option maxRecDepth 100000 in
theorem pk_13 : mj_pok 0 47 1 0 1 := ⟨by decide, (mj_tb 146 (by decide +kernel) rfl)⟩
set_option maxRecDepth 100000 in
theorem pk_14 : mj_pok 0 51 1 0 2 := ⟨by decide, (mj_tb 150 (by decide +kernel) rfl)⟩
set_option maxRecDepth 100000 in
theorem pk_15 : mj_pok 0 54 4 6 0 := ⟨by decide, (mj_tb 414 (by decide +kernel) rfl), (mj_tb 416 (by decide +kernel) rfl), (mj_sb 2 (by decide +kernel) rfl)⟩
set_option maxRecDepth 100000 in
theorem pk_16 : mj_pok 0 57 1 0 3 := ⟨by decide, (mj_tb 154 (by decide +kernel) rfl)⟩
set_option maxRecDepth 100000 in
theorem pk_17 : mj_pok 0 60 1 0 12 := ⟨by decide, (mj_tb 175 (by decide +kernel) rfl)⟩
set_option maxRecDepth 100000 in
theorem pk_18 : mj_pok 0 64 9 0 0 := (mj_tb 834 (by decide +kernel) rfl)
set_option maxRecDepth 100000 in
theorem pk_19 : mj_pok 0 70 4 91 0 := ⟨by decide, (mj_tb 620 (by decide +kernel) rfl), (mj_tb 621 (by decide +kernel) rfl), (mj_tb 622 (by decide +kernel) rfl)⟩
set_option maxRecDepth 100000 in
theorem pk_20 : mj_pok 0 74 1 6 7 := ⟨by decide, (mj_tb 70 (by decide +kernel) rfl)⟩
set_option maxRecDepth 100000 in
theorem pk_21 : mj_pok 0 77 14 0 0 := (mj_tb 858 (by decide +kernel) rfl)
set_option maxRecDepth 100000 in
theorem pk_22 : mj_pok 0 82 4 4 0 := ⟨by decide, (mj_tb 859 (by decide +kernel) rfl), (mj_tb 847 (by decide +kernel) rfl), (mj_tb 848 (by decide +kernel) rfl)⟩
set_option maxRecDepth 100000 in
theorem pk_23 : mj_pok 0 86 15 0 0 := (mj_tb 892 (by decide +kernel) rfl)
set_option maxRecDepth 100000 in
theorem pk_24 : mj_pok 0 89 4 10 0 := ⟨by decide, (mj_tb 729 (by decide +kernel) rfl), (mj_tb 730 (by decide +kernel) rfl), (mj_tb 731 (by decide +kernel) rfl)⟩
set_option maxRecDepth 100000 in
theorem pk_25 : mj_pok 0 92 4 13 0 := ⟨by decide, (mj_tb 1005 (by decide +kernel) rfl), (mj_tb 869 (by decide +kernel) rfl), (mj_tb 870 (by decide +kernel) rfl)⟩
set_option maxRecDepth 100000 in
theorem pk_26 : mj_pok 0 96 5 275 0 := ⟨by decide, (mj_tb 1006 (by decide +kernel) rfl), (mj_tb 712 (by decide +kernel) rfl)⟩
set_option maxRecDepth 100000 in
theorem pk_27 : mj_pok 0 101 4 92 0 := ⟨by decide, (mj_tb 785 (by decide +kernel) rfl), (mj_tb 786 (by decide +kernel) rfl), (mj_tb 787 (by decide +kernel) rfl)⟩
set_option maxRecDepth 100000 in
theorem pk_28 : mj_pok 0 104 4 93 0 := ⟨by decide, (mj_tb 634 (by decide +kernel) rfl), (mj_tb 635 (by decide +kernel) rfl), (mj_tb 636 (by decide +kernel) rfl)⟩
set_option maxRecDepth 100000 in
theorem pk_29 : mj_pok 0 107 1 6 3 := ⟨by decide, (mj_tb 56 (by decide +kernel) rfl)⟩
set_option maxRecDepth 100000 in
theorem pk_30 : mj_pok 0 110 4 17 0 := ⟨by decide, (mj_tb 638 (by decide +kernel) rfl), (mj_tb 639 (by decide +kernel) rfl), (mj_tb 640 (by decide +kernel) rfl)⟩
set_option maxRecDepth 100000 in
theorem pk_31 : mj_pok 0 114 4 90 0 := ⟨by decide, (mj_tb 642 (by decide +kernel) rfl), (mj_tb 643 (by decide +kernel) rfl), (mj_tb 644 (by decide +kernel) rfl)⟩
set_option maxRecDepth 100000 in
theorem pk_32 : mj_pok 0 118 4 15 0 := ⟨by decide, (mj_tb 646 (by decide +kernel) rfl), (mj_tb 647 (by decide +kernel) rfl), (mj_tb 648 (by decide +kernel) rfl)⟩
set_option maxRecDepth 100000 in
theorem pk_33 : mj_pok 0 122 4 26 0 := ⟨by decide, (mj_tb 650 (by decide +kernel) rfl), (mj_tb 651 (by decide +kernel) rfl), (mj_tb 652 (by decide +kernel) rfl)⟩
set_option maxRecDepth 100000 in
theorem pk_34 : mj_pok 0 125 4 16 0 := ⟨by decide, (mj_tb 805 (by decide +kernel) rfl), (mj_tb 631 (by decide +kernel) rfl), (mj_tb 632 (by decide +kernel) rfl)⟩
set_option maxRecDepth 100000 in
theorem pk_35 : mj_pok 0 128 1 6 4 := ⟨by decide, (mj_tb 61 (by decide +kernel) rfl)⟩
set_option maxRecDepth 100000 in
theorem pk_36 : mj_pok 0 131 1 6 19 := ⟨by decide, (mj_tb 97 (by decide +kernel) rfl)⟩
set_option maxRecDepth 100000 in
theorem pk_37 : mj_pok 0 134 1 6 18 := ⟨by decide, (mj_tb 94 (by decide +kernel) rfl)⟩
set_option maxRecDepth 100000 in
theorem pk_38 : mj_pok 0 137 1 6 9 := ⟨by decide, (mj_tb 78 (by decide +kernel) rfl)⟩
set_option maxRecDepth 100000 in
theorem pk_39 : mj_pok 0 140 1 6 14 := ⟨by decide, (mj_tb 86 (by decide +kernel) rfl)⟩
set_option maxRecDepth 100000 in
theorem pk_40 : mj_pok 0 143 11 1 1 := (mj_tb 658 (by decide +kernel) rfl)
set_option maxRecDepth 100000 in
theorem pk_41 : mj_pok 0 145 1 6 13 := ⟨by decide, (mj_tb 84 (by decide +kernel) rfl)⟩
set_option maxRecDepth 100000 in
theorem pk_42 : mj_pok 0 148 4 22 0 := ⟨by decide, (mj_tb 654 (by decide +kernel) rfl), (mj_tb 656 (by decide +kernel) rfl), (mj_sb 25 (by decide +kernel) rfl)⟩
set_option maxRecDepth 100000 in
theorem pk_43 : mj_pok 0 151 5 97 0 := ⟨by decide, (mj_tb 741 (by decide +kernel) rfl), (mj_tb 465 (by decide +kernel) rfl)⟩
set_option maxRecDepth 100000 in
theorem pk_44 : mj_pok 0 155 1 6 1 := ⟨by decide, (mj_tb 50 (by decide +kernel) rfl)⟩
set_option maxRecDepth 100000 in
theorem pk_45 : mj_pok 0 158 4 94 0 := ⟨by decide, (mj_tb 659 (by decide +kernel) rfl), (mj_tb 660 (by decide +kernel) rfl), (mj_tb 661 (by decide +kernel) rfl)⟩
set_option maxRecDepth 100000 in
theorem pk_46 : mj_pok 0 161 4 95 0 := ⟨by decide, (mj_tb 913 (by decide +kernel) rfl), (mj_tb 914 (by decide +kernel) rfl), (mj_tb 915 (by decide +kernel) rfl)⟩
set_option maxRecDepth 100000 in
theorem pk_47 : mj_pok 0 164 1 6 0 := ⟨by decide, (mj_tb 46 (by decide +kernel) rfl)⟩
set_option maxRecDepth 100000 in
theorem pk_48 : mj_pok 0 167 1 6 6 := ⟨by decide, (mj_tb 67 (by decide +kernel) rfl)⟩
set_option maxRecDepth 100000 in
theorem pk_49 : mj_pok 1 3 8 0 0 := (mj_tb 328 (by decide +kernel) rfl)
set_option maxRecDepth 100000 in
theorem pk_50 : mj_pok 1 9 3 0 0 := ⟨by decide, (mj_tb 329 (by decide +kernel) rfl), (mj_tb 32 (by decide +kernel) rfl), (mj_tb 2 (by decide +kernel) rfl)⟩
set_option maxRecDepth 100000 in
theorem pk_51 : mj_pok 1 11 7 0 0 := ⟨by decide, "CoverTwo", List.mem_of_getElem? (i := 1) rfl, (mj_tb 34 (by decide +kernel) rfl), rfl⟩
set_option maxRecDepth 100000 in
theorem pk_52 : mj_pok 1 12 1 1 0 := ⟨by decide, (mj_tb 331 (by decide +kernel) rfl)⟩
set_option maxRecDepth 100000 in
theorem pk_53 : mj_pok 1 18 1 1 1 := ⟨by decide, (mj_tb 332 (by decide +kernel) rfl)⟩
set_option maxRecDepth 100000 in
theorem pk_54 : mj_pok 1 21 1 1 2 := ⟨by decide, (mj_tb 333 (by decide +kernel) rfl)⟩
set_option maxRecDepth 100000 in
theorem pk_55 : mj_pok 1 25 1 1 3 := ⟨by decide, (mj_tb 334 (by decide +kernel) rfl)⟩
set_option maxRecDepth 100000 in
theorem pk_56 : mj_pok 1 28 1 1 4 := ⟨by decide, (mj_tb 335 (by decide +kernel) rfl)⟩
set_option maxRecDepth 100000 in
theorem pk_57 : mj_pok 1 31 1 1 5 := ⟨by decide, (mj_tb 337 (by decide +kernel) rfl)⟩
set_option maxRecDepth 100000 in
theorem pk_58 : mj_pok 1 34 4 2 0 := ⟨by decide, (mj_tb 1041 (by decide +kernel) rfl), (mj_tb 938 (by decide +kernel) rfl), (mj_tb 939 (by decide +kernel) rfl)⟩
set_option maxRecDepth 100000 in
theorem pk_59 : mj_pok 1 38 1 0 2 := ⟨by decide, (mj_tb 151 (by decide +kernel) rfl)⟩
set_option maxRecDepth 100000 in
theorem pk_60 : mj_pok 1 41 4 4 0 := ⟨by decide, (mj_tb 1042 (by decide +kernel) rfl), (mj_tb 847 (by decide +kernel) rfl), (mj_tb 848 (by decide +kernel) rfl)⟩
set_option maxRecDepth 100000 in
theorem pk_61 : mj_pok 1 45 4 29 0 := ⟨by decide, (mj_tb 1043 (by decide +kernel) rfl), (mj_tb 1045 (by decide +kernel) rfl), (mj_sb 42 (by decide +kernel) rfl)⟩
set_option maxRecDepth 100000 in
theorem pk_62 : mj_pok 1 49 1 0 1 := ⟨by decide, (mj_tb 147 (by decide +kernel) rfl)⟩
set_option maxRecDepth 100000 in
theorem pk_63 : mj_pok 1 52 1 0 7 := ⟨by decide, (mj_tb 165 (by decide +kernel) rfl)⟩
set_option maxRecDepth 100000 in
theorem pk_64 : mj_pok 1 56 1 0 4 := ⟨by decide, (mj_tb 156 (by decide +kernel) rfl)⟩
set_option maxRecDepth 100000 in
theorem pk_65 : mj_pok 1 59 1 0 5 := ⟨by decide, (mj_tb 159 (by decide +kernel) rfl)⟩
set_option maxRecDepth 100000 in
theorem pk_66 : mj_pok 1 62 4 16 0 := ⟨by decide, (mj_tb 1047 (by decide +kernel) rfl), (mj_tb 631 (by decide +kernel) rfl), (mj_tb 632 (by decide +kernel) rfl)⟩
set_option maxRecDepth 100000 in
theorem pk_67 : mj_pok 1 66 1 0 6 := ⟨by decide, (mj_tb 162 (by decide +kernel) rfl)⟩
set_option maxRecDepth 100000 in
theorem pk_68 : mj_pok 1 69 4 3 0 := ⟨by decide, (mj_tb 1048 (by decide +kernel) rfl), (mj_tb 617 (by decide +kernel) rfl), (mj_tb 618 (by decide +kernel) rfl)⟩
set_option maxRecDepth 100000 in
theorem pk_69 : mj_pok 1 73 1 0 8 := ⟨by decide, (mj_tb 167 (by decide +kernel) rfl)⟩
set_option maxRecDepth 100000 in
theorem pk_70 : mj_pok 2 3 8 0 0 := (mj_tb 309 (by decide +kernel) rfl)
set_option maxRecDepth 100000 in
theorem pk_71 : mj_pok 2 9 3 0 0 := ⟨by decide, (mj_tb 310 (by decide +kernel) rfl), (mj_tb 32 (by decide +kernel) rfl), (mj_tb 2 (by decide +kernel) rfl)⟩
set_option maxRecDepth 100000 in
theorem pk_72 : mj_pok 2 11 7 0 0 := ⟨by decide, "CoverTwo", List.mem_of_getElem? (i := 2) rfl, (mj_tb 34 (by decide +kernel) rfl), rfl⟩
set_option maxRecDepth 100000 in
theorem pk_73 : mj_pok 2 12 1 2 0 := ⟨by decide, (mj_tb 312 (by decide +kernel) rfl)⟩
set_option maxRecDepth 100000 in
theorem pk_74 : mj_pok 2 18 1 0 0 := ⟨by decide, (mj_tb 144 (by decide +kernel) rfl)⟩
set_option maxRecDepth 100000 in
theorem pk_75 : mj_pok 2 22 1 6 0 := ⟨by decide, (mj_tb 44 (by decide +kernel) rfl)⟩
set_option maxRecDepth 100000 in
theorem pk_76 : mj_pok 2 28 4 2 0 := ⟨by decide, (mj_tb 937 (by decide +kernel) rfl), (mj_tb 938 (by decide +kernel) rfl), (mj_tb 939 (by decide +kernel) rfl)⟩
set_option maxRecDepth 100000 in
theorem pk_77 : mj_pok 2 32 1 2 1 := ⟨by decide, (mj_tb 313 (by decide +kernel) rfl)⟩
set_option maxRecDepth 100000 in
theorem pk_78 : mj_pok 2 35 1 2 2 := ⟨by decide, (mj_tb 314 (by decide +kernel) rfl)⟩
set_option maxRecDepth 100000 in
theorem pk_79 : mj_pok 2 38 4 32 0 := ⟨by decide, (mj_tb 974 (by decide +kernel) rfl), (mj_tb 976 (by decide +kernel) rfl), (mj_sb 37 (by decide +kernel) rfl)⟩
set_option maxRecDepth 100000 in
theorem pk_80 : mj_pok 2 42 4 40 0 := ⟨by decide, (mj_tb 944 (by decide +kernel) rfl), (mj_tb 946 (by decide +kernel) rfl), (mj_sb 36 (by decide +kernel) rfl)⟩
set_option maxRecDepth 100000 in
theorem pk_81 : mj_pok 2 46 5 41 0 := ⟨by decide, (mj_tb 948 (by decide +kernel) rfl), (mj_tb 949 (by decide +kernel) rfl)⟩
set_option maxRecDepth 100000 in
theorem pk_82 : mj_pok 2 50 5 42 0 := ⟨by decide, (mj_tb 951 (by decide +kernel) rfl), (mj_tb 952 (by decide +kernel) rfl)⟩
set_option maxRecDepth 100000 in
theorem pk_83 : mj_pok 2 53 4 16 0 := ⟨by decide, (mj_tb 954 (by decide +kernel) rfl), (mj_tb 631 (by decide +kernel) rfl), (mj_tb 632 (by decide +kernel) rfl)⟩
set_option maxRecDepth 100000 in
theorem pk_84 : mj_pok 2 56 14 0 0 := (mj_tb 978 (by decide +kernel) rfl)
set_option maxRecDepth 100000 in
theorem pk_85 : mj_pok 2 62 4 43 0 := ⟨by decide, (mj_tb 979 (by decide +kernel) rfl), (mj_tb 981 (by decide +kernel) rfl), (mj_sb 38 (by decide +kernel) rfl)⟩
set_option maxRecDepth 100000 in
theorem pk_86 : mj_pok 2 66 4 44 0 := ⟨by decide, (mj_tb 983 (by decide +kernel) rfl), (mj_tb 985 (by decide +kernel) rfl), (mj_sb 39 (by decide +kernel) rfl)⟩
set_option maxRecDepth 100000 in
theorem pk_87 : mj_pok 2 69 4 34 0 := ⟨by decide, (mj_tb 996 (by decide +kernel) rfl), (mj_tb 998 (by decide +kernel) rfl), (mj_sb 40 (by decide +kernel) rfl)⟩
set_option maxRecDepth 100000 in
theorem pk_88 : mj_pok 2 73 4 21 0 := ⟨by decide, (mj_tb 1000 (by decide +kernel) rfl), (mj_tb 802 (by decide +kernel) rfl), (mj_tb 803 (by decide +kernel) rfl)⟩
set_option maxRecDepth 100000 in
theorem pk_89 : mj_pok 2 77 4 14 0 := ⟨by decide, (mj_tb 1001 (by decide +kernel) rfl), (mj_tb 1002 (by decide +kernel) rfl), (mj_tb 1003 (by decide +kernel) rfl)⟩
set_option maxRecDepth 100000 in
theorem pk_90 : mj_pok 2 81 4 36 0 := ⟨by decide, (mj_tb 1015 (by decide +kernel) rfl), (mj_tb 1017 (by decide +kernel) rfl), (mj_sb 41 (by decide +kernel) rfl)⟩
set_option maxRecDepth 100000 in
theorem pk_91 : mj_pok 2 85 4 3 0 := ⟨by decide, (mj_tb 941 (by decide +kernel) rfl), (mj_tb 617 (by decide +kernel) rfl), (mj_tb 618 (by decide +kernel) rfl)⟩
set_option maxRecDepth 100000 in
theorem pk_92 : mj_pok 2 89 4 91 0 := ⟨by decide, (mj_tb 942 (by decide +kernel) rfl), (mj_tb 621 (by decide +kernel) rfl), (mj_tb 622 (by decide +kernel) rfl)⟩
set_option maxRecDepth 100000 in
theorem pk_93 : mj_pok 2 92 5 275 0 := ⟨by decide, (mj_tb 943 (by decide +kernel) rfl), (mj_tb 712 (by decide +kernel) rfl)⟩
set_option maxRecDepth 100000 in
theorem pk_94 : mj_pok 2 97 15 0 0 := (mj_tb 955 (by decide +kernel) rfl)
set_option maxRecDepth 100000 in
theorem pk_95 : mj_pok 2 100 4 92 0 := ⟨by decide, (mj_tb 964 (by decide +kernel) rfl), (mj_tb 786 (by decide +kernel) rfl), (mj_tb 787 (by decide +kernel) rfl)⟩
set_option maxRecDepth 100000 in
theorem pk_96 : mj_pok 2 103 4 37 0 := ⟨by decide, (mj_tb 965 (by decide +kernel) rfl), (mj_tb 934 (by decide +kernel) rfl), (mj_tb 935 (by decide +kernel) rfl)⟩
set_option maxRecDepth 100000 in
theorem pk_97 : mj_pok 2 107 1 6 4 := ⟨by decide, (mj_tb 60 (by decide +kernel) rfl)⟩
set_option maxRecDepth 100000 in
theorem pk_98 : mj_pok 2 110 4 20 0 := ⟨by decide, (mj_tb 1032 (by decide +kernel) rfl), (mj_tb 794 (by decide +kernel) rfl), (mj_tb 795 (by decide +kernel) rfl)⟩
set_option maxRecDepth 100000 in
theorem pk_99 : mj_pok 2 114 1 0 1 := ⟨by decide, (mj_tb 149 (by decide +kernel) rfl)⟩
set_option maxRecDepth 100000 in
theorem pk_100 : mj_pok 2 117 4 4 0 := ⟨by decide, (mj_tb 987 (by decide +kernel) rfl), (mj_tb 847 (by decide +kernel) rfl), (mj_tb 848 (by decide +kernel) rfl)⟩
set_option maxRecDepth 100000 in
theorem pk_101 : mj_pok 3 3 8 0 0 := (mj_tb 287 (by decide +kernel) rfl)
set_option maxRecDepth 100000 in
theorem pk_102 : mj_pok 3 9 14 0 0 := (mj_tb 288 (by decide +kernel) rfl)
set_option maxRecDepth 100000 in
theorem pk_103 : mj_pok 3 17 1 3 0 := ⟨by decide, (mj_tb 293 (by decide +kernel) rfl)⟩
set_option maxRecDepth 100000 in
theorem pk_104 : mj_pok 3 22 1 3 1 := ⟨by decide, (mj_tb 294 (by decide +kernel) rfl)⟩
set_option maxRecDepth 100000 in
theorem pk_105 : mj_pok 3 26 1 3 2 := ⟨by decide, (mj_tb 295 (by decide +kernel) rfl)⟩
set_option maxRecDepth 100000 in
theorem pk_106 : mj_pok 3 29 4 50 0 := ⟨by decide, (mj_tb 826 (by decide +kernel) rfl), (mj_tb 828 (by decide +kernel) rfl), (mj_sb 33 (by decide +kernel) rfl)⟩
set_option maxRecDepth 100000 in
theorem pk_107 : mj_pok 3 33 4 7 0 := ⟨by decide, (mj_tb 830 (by decide +kernel) rfl), (mj_tb 831 (by decide +kernel) rfl), (mj_tb 832 (by decide +kernel) rfl)⟩
set_option maxRecDepth 100000 in
theorem pk_108 : mj_pok 3 39 4 49 0 := ⟨by decide, (mj_tb 884 (by decide +kernel) rfl), (mj_tb 885 (by decide +kernel) rfl), (mj_tb 886 (by decide +kernel) rfl)⟩
set_option maxRecDepth 100000 in
theorem pk_109 : mj_pok 3 43 4 8 0 := ⟨by decide, (mj_tb 888 (by decide +kernel) rfl), (mj_tb 889 (by decide +kernel) rfl), (mj_tb 890 (by decide +kernel) rfl)⟩
set_option maxRecDepth 100000 in
theorem pk_110 : mj_pok 4 3 8 0 0 := (mj_tb 208 (by decide +kernel) rfl)
set_option maxRecDepth 100000 in
theorem pk_111 : mj_pok 4 9 3 5 0 := ⟨by decide, (mj_tb 209 (by decide +kernel) rfl), (mj_tb 210 (by decide +kernel) rfl), (mj_tb 5 (by decide +kernel) rfl)⟩
set_option maxRecDepth 100000 in
theorem pk_112 : mj_pok 4 11 7 71 0 := ⟨by decide, "CoverTwo", List.mem_of_getElem? (i := 3) rfl, (mj_tb 212 (by decide +kernel) rfl), rfl⟩
set_option maxRecDepth 100000 in
theorem pk_113 : mj_pok 4 12 1 4 0 := ⟨by decide, (mj_tb 247 (by decide +kernel) rfl)⟩
set_option maxRecDepth 100000 in
theorem pk_114 : mj_pok 4 18 1 4 1 := ⟨by decide, (mj_tb 248 (by decide +kernel) rfl)⟩
set_option maxRecDepth 100000 in
theorem pk_115 : mj_pok 4 22 1 4 2 := ⟨by decide, (mj_tb 249 (by decide +kernel) rfl)⟩
set_option maxRecDepth 100000 in
theorem pk_116 : mj_pok 4 25 3 0 0 := ⟨by decide, (mj_tb 245 (by decide +kernel) rfl), (mj_tb 32 (by decide +kernel) rfl), (mj_tb 2 (by decide +kernel) rfl)⟩
set_option maxRecDepth 100000 in
theorem pk_117 : mj_pok 4 27 7 0 0 := ⟨by decide, "CoverTwo", List.mem_of_getElem? (i := 4) rfl, (mj_tb 34 (by decide +kernel) rfl), rfl⟩
set_option maxRecDepth 100000 in
theorem pk_118 : mj_pok 4 28 1 4 3 := ⟨by decide, (mj_tb 250 (by decide +kernel) rfl)⟩
set_option maxRecDepth 100000 in
theorem pk_119 : mj_pok 4 32 1 0 0 := ⟨by decide, (mj_tb 143 (by decide +kernel) rfl)⟩
set_option maxRecDepth 100000 in
theorem pk_120 : mj_pok 4 36 1 4 4 := ⟨by decide, (mj_tb 251 (by decide +kernel) rfl)⟩
set_option maxRecDepth 100000 in
theorem pk_121 : mj_pok 4 37 4 1 0 := ⟨by decide, (mj_tb 406 (by decide +kernel) rfl), (mj_tb 407 (by decide +kernel) rfl), (mj_tb 408 (by decide +kernel) rfl)⟩
set_option maxRecDepth 100000 in
theorem pk_122 : mj_pok 4 40 1 4 5 := ⟨by decide, (mj_tb 252 (by decide +kernel) rfl)⟩
set_option maxRecDepth 100000 in
theorem pk_123 : mj_pok 4 44 1 4 6 := ⟨by decide, (mj_tb 253 (by decide +kernel) rfl)⟩
set_option maxRecDepth 100000 in
theorem pk_124 : mj_pok 4 47 4 72 0 := ⟨by decide, (mj_tb 418 (by decide +kernel) rfl), (mj_tb 419 (by decide +kernel) rfl), (mj_tb 420 (by decide +kernel) rfl)⟩
set_option maxRecDepth 100000 in
theorem pk_125 : mj_pok 4 51 12 0 0 := trivial
set_option maxRecDepth 100000 in
theorem pk_126 : mj_pok 4 53 4 79 0 := ⟨by decide, (mj_tb 450 (by decide +kernel) rfl), (mj_tb 451 (by decide +kernel) rfl), (mj_tb 452 (by decide +kernel) rfl)⟩
set_option maxRecDepth 100000 in
theorem pk_127 : mj_pok 4 57 4 56 0 := ⟨by decide, (mj_tb 505 (by decide +kernel) rfl), (mj_tb 507 (by decide +kernel) rfl), (mj_sb 8 (by decide +kernel) rfl)⟩
set_option maxRecDepth 100000 in
theorem pk_128 : mj_pok 4 61 12 1 0 := trivial
set_option maxRecDepth 100000 in
theorem pk_129 : mj_pok 4 63 4 57 0 := ⟨by decide, (mj_tb 532 (by decide +kernel) rfl), (mj_tb 534 (by decide +kernel) rfl), (mj_sb 12 (by decide +kernel) rfl)⟩
set_option maxRecDepth 100000 in
theorem pk_130 : mj_pok 4 66 12 2 0 := trivial
set_option maxRecDepth 100000 in
theorem pk_131 : mj_pok 4 68 4 58 0 := ⟨by decide, (mj_tb 588 (by decide +kernel) rfl), (mj_tb 590 (by decide +kernel) rfl), (mj_sb 19 (by decide +kernel) rfl)⟩
set_option maxRecDepth 100000 in
theorem pk_132 : mj_pok 4 71 12 3 0 := trivial
set_option maxRecDepth 100000 in
theorem pk_133 : mj_pok 4 73 4 59 0 := ⟨by decide, (mj_tb 594 (by decide +kernel) rfl), (mj_tb 596 (by decide +kernel) rfl), (mj_sb 20 (by decide +kernel) rfl)⟩
set_option maxRecDepth 100000 in
theorem pk_134 : mj_pok 4 76 12 4 0 := trivial
set_option maxRecDepth 100000 in
theorem pk_135 : mj_pok 4 78 4 60 0 := ⟨by decide, (mj_tb 603 (by decide +kernel) rfl), (mj_tb 605 (by decide +kernel) rfl), (mj_sb 21 (by decide +kernel) rfl)⟩
set_option maxRecDepth 100000 in
theorem pk_136 : mj_pok 4 81 12 5 0 := trivial
set_option maxRecDepth 100000 in
theorem pk_137 : mj_pok 4 83 4 61 0 := ⟨by decide, (mj_tb 625 (by decide +kernel) rfl), (mj_tb 627 (by decide +kernel) rfl), (mj_sb 24 (by decide +kernel) rfl)⟩
set_option maxRecDepth 100000 in
theorem pk_138 : mj_pok 4 86 4 54 0 := ⟨by decide, (mj_tb 509 (by decide +kernel) rfl), (mj_tb 511 (by decide +kernel) rfl), (mj_sb 9 (by decide +kernel) rfl)⟩
set_option maxRecDepth 100000 in
theorem pk_139 : mj_pok 4 90 4 55 0 := ⟨by decide, (mj_tb 663 (by decide +kernel) rfl), (mj_tb 665 (by decide +kernel) rfl), (mj_sb 26 (by decide +kernel) rfl)⟩
set_option maxRecDepth 100000 in
theorem pk_140 : mj_pok 4 93 1 5 4 := ⟨by decide, (mj_tb 221 (by decide +kernel) rfl)⟩
set_option maxRecDepth 100000 in
theorem pk_141 : mj_pok 4 96 1 4 7 := ⟨by decide, (mj_tb 255 (by decide +kernel) rfl)⟩
set_option maxRecDepth 100000 in
theorem pk_142 : mj_pok 4 99 1 5 3 := ⟨by decide, (mj_tb 219 (by decide +kernel) rfl)⟩
set_option maxRecDepth 100000 in
theorem pk_143 : mj_pok 4 102 4 73 0 := ⟨by decide, (mj_tb 513 (by decide +kernel) rfl), (mj_tb 426 (by decide +kernel) rfl), (mj_tb 427 (by decide +kernel) rfl)⟩
set_option maxRecDepth 100000 in
theorem pk_144 : mj_pok 4 105 1 6 4 := ⟨by decide, (mj_tb 59 (by decide +kernel) rfl)⟩
set_option maxRecDepth 100000 in
theorem pk_145 : mj_pok 4 110 1 6 0 := ⟨by decide, (mj_tb 45 (by decide +kernel) rfl)⟩
set_option maxRecDepth 100000 in
theorem pk_146 : mj_pok 4 113 12 6 0 := trivial
set_option maxRecDepth 100000 in
theorem pk_147 : mj_pok 4 114 4 63 0 := ⟨by decide, (mj_tb 515 (by decide +kernel) rfl), (mj_tb 517 (by decide +kernel) rfl), (mj_sb 10 (by decide +kernel) rfl)⟩
set_option maxRecDepth 100000 in
theorem pk_148 : mj_pok 4 117 4 64 0 := ⟨by decide, (mj_tb 519 (by decide +kernel) rfl), (mj_tb 521 (by decide +kernel) rfl), (mj_sb 11 (by decide +kernel) rfl)⟩
set_option maxRecDepth 100000 in
theorem pk_149 : mj_pok 4 121 1 4 8 := ⟨by decide, (mj_tb 256 (by decide +kernel) rfl)⟩
set_option maxRecDepth 100000 in
theorem pk_150 : mj_pok 4 124 12 7 0 := trivial
set_option maxRecDepth 100000 in
theorem pk_151 : mj_pok 4 126 12 8 0 := trivial
set_option maxRecDepth 100000 in
theorem pk_152 : mj_pok 4 128 12 9 0 := trivial
set_option maxRecDepth 100000 in
theorem pk_153 : mj_pok 4 130 12 10 0 := trivial
set_option maxRecDepth 100000 in
theorem pk_154 : mj_pok 4 132 4 83 0 := ⟨by decide, (mj_tb 527 (by decide +kernel) rfl), (mj_tb 528 (by decide +kernel) rfl), (mj_tb 529 (by decide +kernel) rfl)⟩
set_option maxRecDepth 100000 in
theorem pk_155 : mj_pok 4 136 4 62 0 := ⟨by decide, (mj_tb 536 (by decide +kernel) rfl), (mj_tb 538 (by decide +kernel) rfl), (mj_sb 13 (by decide +kernel) rfl)⟩
set_option maxRecDepth 100000 in
theorem pk_156 : mj_pok 4 140 4 67 0 := ⟨by decide, (mj_tb 540 (by decide +kernel) rfl), (mj_tb 542 (by decide +kernel) rfl), (mj_sb 14 (by decide +kernel) rfl)⟩
set_option maxRecDepth 100000 in
theorem pk_157 : mj_pok 4 143 1 4 9 := ⟨by decide, (mj_tb 257 (by decide +kernel) rfl)⟩
set_option maxRecDepth 100000 in
theorem pk_158 : mj_pok 4 147 4 66 0 := ⟨by decide, (mj_tb 563 (by decide +kernel) rfl), (mj_tb 565 (by decide +kernel) rfl), (mj_sb 17 (by decide +kernel) rfl)⟩
set_option maxRecDepth 100000 in
theorem pk_159 : mj_pok 4 150 1 6 1 := ⟨by decide, (mj_tb 49 (by decide +kernel) rfl)⟩
set_option maxRecDepth 100000 in
theorem pk_160 : mj_pok 4 152 12 11 0 := trivial
set_option maxRecDepth 100000 in
theorem pk_161 : mj_pok 4 154 4 65 0 := ⟨by decide, (mj_tb 559 (by decide +kernel) rfl), (mj_tb 561 (by decide +kernel) rfl), (mj_sb 16 (by decide +kernel) rfl)⟩
set_option maxRecDepth 100000 in
theorem pk_162 : mj_pok 4 157 1 4 10 := ⟨by decide, (mj_tb 258 (by decide +kernel) rfl)⟩
set_option maxRecDepth 100000 in
theorem pk_163 : mj_pok 4 160 4 84 0 := ⟨by decide, (mj_tb 572 (by decide +kernel) rfl), (mj_tb 573 (by decide +kernel) rfl), (mj_tb 574 (by decide +kernel) rfl)⟩
set_option maxRecDepth 100000 in
theorem pk_164 : mj_pok 4 164 1 6 5 := ⟨by decide, (mj_tb 63 (by decide +kernel) rfl)⟩
set_option maxRecDepth 100000 in
theorem pk_165 : mj_pok 4 167 12 12 0 := trivial
set_option maxRecDepth 100000 in
theorem pk_166 : mj_pok 4 169 1 0 9 := ⟨by decide, (mj_tb 170 (by decide +kernel) rfl)⟩
set_option maxRecDepth 100000 in
theorem pk_167 : mj_pok 4 172 1 6 6 := ⟨by decide, (mj_tb 66 (by decide +kernel) rfl)⟩
set_option maxRecDepth 100000 in
theorem pk_168 : mj_pok 4 175 1 6 15 := ⟨by decide, (mj_tb 88 (by decide +kernel) rfl)⟩
set_option maxRecDepth 100000 in
theorem pk_169 : mj_pok 4 177 4 70 0 := ⟨by decide, (mj_tb 555 (by decide +kernel) rfl), (mj_tb 557 (by decide +kernel) rfl), (mj_sb 15 (by decide +kernel) rfl)⟩
set_option maxRecDepth 100000 in
theorem pk_170 : mj_pok 4 181 4 87 0 := ⟨by decide, (mj_tb 598 (by decide +kernel) rfl), (mj_tb 599 (by decide +kernel) rfl), (mj_tb 600 (by decide +kernel) rfl)⟩
set_option maxRecDepth 100000 in
theorem pk_171 : mj_pok 4 185 1 0 2 := ⟨by decide, (mj_tb 152 (by decide +kernel) rfl)⟩
set_option maxRecDepth 100000 in
theorem pk_172 : mj_pok 4 188 4 68 0 := ⟨by decide, (mj_tb 607 (by decide +kernel) rfl), (mj_tb 609 (by decide +kernel) rfl), (mj_sb 22 (by decide +kernel) rfl)⟩
set_option maxRecDepth 100000 in
theorem pk_173 : mj_pok 4 192 4 69 0 := ⟨by decide, (mj_tb 611 (by decide +kernel) rfl), (mj_tb 613 (by decide +kernel) rfl), (mj_sb 23 (by decide +kernel) rfl)⟩
set_option maxRecDepth 100000 in
theorem pk_174 : mj_pok 4 195 4 3 0 := ⟨by decide, (mj_tb 616 (by decide +kernel) rfl), (mj_tb 617 (by decide +kernel) rfl), (mj_tb 618 (by decide +kernel) rfl)⟩
set_option maxRecDepth 100000 in
theorem pk_175 : mj_pok 4 199 12 13 0 := trivial
set_option maxRecDepth 100000 in
theorem pk_176 : mj_pok 4 201 4 16 0 := ⟨by decide, (mj_tb 630 (by decide +kernel) rfl), (mj_tb 631 (by decide +kernel) rfl), (mj_tb 632 (by decide +kernel) rfl)⟩
set_option maxRecDepth 100000 in
theorem pk_177 : mj_pok 4 204 1 5 7 := ⟨by decide, (mj_tb 227 (by decide +kernel) rfl)⟩
set_option maxRecDepth 100000 in
theorem pk_178 : mj_pok 4 207 1 5 6 := ⟨by decide, (mj_tb 225 (by decide +kernel) rfl)⟩
set_option maxRecDepth 100000 in
theorem pk_179 : mj_pok 4 210 1 5 5 := ⟨by decide, (mj_tb 223 (by decide +kernel) rfl)⟩
set_option maxRecDepth 100000 in
theorem pk_180 : mj_pok 4 213 12 14 0 := trivial
set_option maxRecDepth 100000 in
theorem pk_181 : mj_pok 4 215 12 15 0 := trivial
set_option maxRecDepth 100000 in
theorem pk_182 : mj_pok 4 217 12 16 0 := trivial
set_option maxRecDepth 100000 in
theorem pk_183 : mj_pok 4 219 12 17 0 := trivial
set_option maxRecDepth 100000 in
theorem pk_184 : mj_pok 4 221 4 80 0 := ⟨by decide, (mj_tb 544 (by decide +kernel) rfl), (mj_tb 545 (by decide +kernel) rfl), (mj_tb 546 (by decide +kernel) rfl)⟩
set_option maxRecDepth 100000 in
theorem pk_185 : mj_pok 4 224 12 18 0 := trivial
set_option maxRecDepth 100000 in
theorem pk_186 : mj_pok 4 226 1 6 8 := ⟨by decide, (mj_tb 74 (by decide +kernel) rfl)⟩
set_option maxRecDepth 100000 in
theorem pk_187 : mj_pok 4 229 1 6 9 := ⟨by decide, (mj_tb 77 (by decide +kernel) rfl)⟩
set_option maxRecDepth 100000 in
theorem pk_188 : mj_pok 5 3 8 0 0 := (mj_tb 214 (by decide +kernel) rfl)
set_option maxRecDepth 100000 in
theorem pk_189 : mj_pok 5 9 1 5 0 := ⟨by decide, (mj_tb 215 (by decide +kernel) rfl)⟩
set_option maxRecDepth 100000 in
theorem pk_190 : mj_pok 5 15 15 0 0 := (mj_tb 422 (by decide +kernel) rfl)
set_option maxRecDepth 100000 in
theorem pk_191 : mj_pok 5 21 1 5 1 := ⟨by decide, (mj_tb 216 (by decide +kernel) rfl)⟩
set_option maxRecDepth 100000 in
theorem pk_192 : mj_pok 5 25 1 5 2 := ⟨by decide, (mj_tb 217 (by decide +kernel) rfl)⟩
set_option maxRecDepth 100000 in
theorem pk_193 : mj_pok 5 28 4 73 0 := ⟨by decide, (mj_tb 425 (by decide +kernel) rfl), (mj_tb 426 (by decide +kernel) rfl), (mj_tb 427 (by decide +kernel) rfl)⟩
set_option maxRecDepth 100000 in
theorem pk_194 : mj_pok 5 31 1 5 4 := ⟨by decide, (mj_tb 220 (by decide +kernel) rfl)⟩
set_option maxRecDepth 100000 in
theorem pk_195 : mj_pok 5 34 1 5 5 := ⟨by decide, (mj_tb 222 (by decide +kernel) rfl)⟩
set_option maxRecDepth 100000 in
theorem pk_196 : mj_pok 5 37 1 5 3 := ⟨by decide, (mj_tb 218 (by decide +kernel) rfl)⟩
set_option maxRecDepth 100000 in
theorem pk_197 : mj_pok 5 40 4 74 0 := ⟨by decide, (mj_tb 429 (by decide +kernel) rfl), (mj_tb 431 (by decide +kernel) rfl), (mj_sb 3 (by decide +kernel) rfl)⟩
set_option maxRecDepth 100000 in
theorem pk_198 : mj_pok 5 44 4 76 0 := ⟨by decide, (mj_tb 433 (by decide +kernel) rfl), (mj_tb 435 (by decide +kernel) rfl), (mj_sb 4 (by decide +kernel) rfl)⟩
set_option maxRecDepth 100000 in
theorem pk_199 : mj_pok 5 47 4 75 0 := ⟨by decide, (mj_tb 437 (by decide +kernel) rfl), (mj_tb 439 (by decide +kernel) rfl), (mj_sb 5 (by decide +kernel) rfl)⟩
set_option maxRecDepth 100000 in
theorem pk_200 : mj_pok 5 50 4 77 0 := ⟨by decide, (mj_tb 441 (by decide +kernel) rfl), (mj_tb 443 (by decide +kernel) rfl), (mj_sb 6 (by decide +kernel) rfl)⟩
set_option maxRecDepth 100000 in
theorem pk_201 : mj_pok 5 53 4 78 0 := ⟨by decide, (mj_tb 445 (by decide +kernel) rfl), (mj_tb 447 (by decide +kernel) rfl), (mj_sb 7 (by decide +kernel) rfl)⟩
set_option maxRecDepth 100000 in
theorem pk_202 : mj_pok 5 56 1 5 6 := ⟨by decide, (mj_tb 224 (by decide +kernel) rfl)⟩
set_option maxRecDepth 100000 in
theorem pk_203 : mj_pok 5 60 1 5 7 := ⟨by decide, (mj_tb 226 (by decide +kernel) rfl)⟩
set_option maxRecDepth 100000 in
theorem pk_204 : mj_pok 5 63 4 276 0 := ⟨by decide, (mj_tb 454 (by decide +kernel) rfl), (mj_tb 455 (by decide +kernel) rfl), (mj_tb 456 (by decide +kernel) rfl)⟩
set_option maxRecDepth 100000 in
theorem pk_205 : mj_pok 5 68 5 97 0 := ⟨by decide, (mj_tb 464 (by decide +kernel) rfl), (mj_tb 465 (by decide +kernel) rfl)⟩
set_option maxRecDepth 100000 in
theorem pk_206 : mj_pok 5 74 4 277 0 := ⟨by decide, (mj_tb 467 (by decide +kernel) rfl), (mj_tb 468 (by decide +kernel) rfl), (mj_tb 469 (by decide +kernel) rfl)⟩
set_option maxRecDepth 100000 in
theorem pk_207 : mj_pok 5 78 12 0 0 := trivial
set_option maxRecDepth 100000 in
theorem pk_208 : mj_pok 5 80 4 79 0 := ⟨by decide, (mj_tb 549 (by decide +kernel) rfl), (mj_tb 451 (by decide +kernel) rfl), (mj_tb 452 (by decide +kernel) rfl)⟩
set_option maxRecDepth 100000 in
theorem pk_209 : mj_pok 5 84 12 1 0 := trivial
set_option maxRecDepth 100000 in
theorem pk_210 : mj_pok 5 86 12 2 0 := trivial
set_option maxRecDepth 100000 in
theorem pk_211 : mj_pok 5 88 12 4 0 := trivial
set_option maxRecDepth 100000 in
theorem pk_212 : mj_pok 5 90 12 3 0 := trivial
set_option maxRecDepth 100000 in
theorem pk_213 : mj_pok 5 92 12 5 0 := trivial
set_option maxRecDepth 100000 in
theorem pk_214 : mj_pok 6 3 8 0 0 := (mj_tb 42 (by decide +kernel) rfl)
set_option maxRecDepth 100000 in
theorem pk_215 : mj_pok 6 9 1 6 7 := ⟨by decide, (mj_tb 69 (by decide +kernel) rfl)⟩
set_option maxRecDepth 100000 in
theorem pk_216 : mj_pok 6 15 1 6 8 := ⟨by decide, (mj_tb 72 (by decide +kernel) rfl)⟩
set_option maxRecDepth 100000 in
theorem pk_217 : mj_pok 6 18 1 6 9 := ⟨by decide, (mj_tb 75 (by decide +kernel) rfl)⟩
set_option maxRecDepth 100000 in
theorem pk_218 : mj_pok 6 21 1 6 10 := ⟨by decide, (mj_tb 79 (by decide +kernel) rfl)⟩
set_option maxRecDepth 100000 in
theorem pk_219 : mj_pok 6 24 1 6 11 := ⟨by decide, (mj_tb 81 (by decide +kernel) rfl)⟩
set_option maxRecDepth 100000 in
theorem pk_220 : mj_pok 6 27 1 6 12 := ⟨by decide, (mj_tb 82 (by decide +kernel) rfl)⟩
set_option maxRecDepth 100000 in
theorem pk_221 : mj_pok 6 30 1 6 13 := ⟨by decide, (mj_tb 83 (by decide +kernel) rfl)⟩
set_option maxRecDepth 100000 in
theorem pk_222 : mj_pok 6 34 1 6 14 := ⟨by decide, (mj_tb 85 (by decide +kernel) rfl)⟩
set_option maxRecDepth 100000 in
theorem pk_223 : mj_pok 6 37 1 6 15 := ⟨by decide, (mj_tb 87 (by decide +kernel) rfl)⟩
set_option maxRecDepth 100000 in
theorem pk_224 : mj_pok 6 40 1 6 16 := ⟨by decide, (mj_tb 89 (by decide +kernel) rfl)⟩
set_option maxRecDepth 100000 in
theorem pk_225 : mj_pok 6 43 1 6 17 := ⟨by decide, (mj_tb 90 (by decide +kernel) rfl)⟩
set_option maxRecDepth 100000 in
theorem pk_226 : mj_pok 6 46 1 6 18 := ⟨by decide, (mj_tb 92 (by decide +kernel) rfl)⟩
set_option maxRecDepth 100000 in
theorem pk_227 : mj_pok 6 49 1 6 19 := ⟨by decide, (mj_tb 95 (by decide +kernel) rfl)⟩
set_option maxRecDepth 100000 in
theorem pk_228 : mj_pok 6 52 1 6 0 := ⟨by decide, (mj_tb 43 (by decide +kernel) rfl)⟩
set_option maxRecDepth 100000 in
theorem pk_229 : mj_pok 6 56 1 6 1 := ⟨by decide, (mj_tb 48 (by decide +kernel) rfl)⟩
set_option maxRecDepth 100000 in
theorem pk_230 : mj_pok 6 59 1 6 2 := ⟨by decide, (mj_tb 52 (by decide +kernel) rfl)⟩
set_option maxRecDepth 100000 in
theorem pk_231 : mj_pok 6 62 1 6 3 := ⟨by decide, (mj_tb 54 (by decide +kernel) rfl)⟩
set_option maxRecDepth 100000 in
theorem pk_232 : mj_pok 6 66 1 6 4 := ⟨by decide, (mj_tb 57 (by decide +kernel) rfl)⟩
set_option maxRecDepth 100000 in
theorem pk_233 : mj_pok 6 69 1 6 5 := ⟨by decide, (mj_tb 62 (by decide +kernel) rfl)⟩
set_option maxRecDepth 100000 in
theorem pk_234 : mj_pok 6 72 1 6 6 := ⟨by decide, (mj_tb 65 (by decide +kernel) rfl)⟩
set_option maxRecDepth 100000 in
theorem pk_235 : mj_pok 6 75 4 85 0 := ⟨by decide, (mj_tb 576 (by decide +kernel) rfl), (mj_tb 578 (by decide +kernel) rfl), (mj_sb 18 (by decide +kernel) rfl)⟩
set_option maxRecDepth 100000 in
theorem pk_236 : mj_pok 6 79 5 96 0 := ⟨by decide, (mj_tb 580 (by decide +kernel) rfl), (mj_tb 581 (by decide +kernel) rfl)⟩
set_option maxRecDepth 100000 in
theorem pk_237 : mj_pok 6 83 5 86 0 := ⟨by decide, (mj_tb 583 (by decide +kernel) rfl), (mj_tb 584 (by decide +kernel) rfl)⟩
set_option maxRecDepth 100000 in
theorem pk_238 : mj_pok 6 87 5 97 0 := ⟨by decide, (mj_tb 586 (by decide +kernel) rfl), (mj_tb 465 (by decide +kernel) rfl)⟩
set_option maxRecDepth 100000 in
theorem pk_239 : mj_pok 6 91 4 88 0 := ⟨by decide, (mj_tb 767 (by decide +kernel) rfl), (mj_tb 722 (by decide +kernel) rfl), (mj_tb 723 (by decide +kernel) rfl)⟩
set_option maxRecDepth 100000 in
theorem pk_240 : mj_pok 6 94 4 90 0 := ⟨by decide, (mj_tb 768 (by decide +kernel) rfl), (mj_tb 643 (by decide +kernel) rfl), (mj_tb 644 (by decide +kernel) rfl)⟩
set_option maxRecDepth 100000 in
theorem pk_241 : mj_pok 7 3 8 0 0 := (mj_tb 28 (by decide +kernel) rfl)
set_option maxRecDepth 100000 in
theorem pk_242 : mj_pok 7 9 1 7 0 := ⟨by decide, (mj_tb 352 (by decide +kernel) rfl)⟩
set_option maxRecDepth 100000 in
theorem pk_243 : mj_pok 7 13 3 0 0 := ⟨by decide, (mj_tb 31 (by decide +kernel) rfl), (mj_tb 32 (by decide +kernel) rfl), (mj_tb 2 (by decide +kernel) rfl)⟩
set_option maxRecDepth 100000 in
theorem pk_244 : mj_pok 7 15 7 0 0 := ⟨by decide, "CoverTwo", List.mem_of_getElem? (i := 5) rfl, (mj_tb 34 (by decide +kernel) rfl), rfl⟩
set_option maxRecDepth 100000 in
theorem pk_245 : mj_pok 7 16 1 7 2 := ⟨by decide, (mj_tb 354 (by decide +kernel) rfl)⟩
set_option maxRecDepth 100000 in
theorem pk_246 : mj_pok 7 20 3 4 0 := ⟨by decide, (mj_tb 203 (by decide +kernel) rfl), (mj_tb 204 (by decide +kernel) rfl), (mj_tb 4 (by decide +kernel) rfl)⟩
set_option maxRecDepth 100000 in
theorem pk_247 : mj_pok 7 22 7 51 0 := ⟨by decide, "CoverTwo", List.mem_of_getElem? (i := 6) rfl, (mj_tb 206 (by decide +kernel) rfl), rfl⟩
set_option maxRecDepth 100000 in
theorem pk_248 : mj_pok 7 23 1 7 3 := ⟨by decide, (mj_tb 355 (by decide +kernel) rfl)⟩
set_option maxRecDepth 100000 in
theorem pk_249 : mj_pok 7 27 3 3 0 := ⟨by decide, (mj_tb 282 (by decide +kernel) rfl), (mj_tb 283 (by decide +kernel) rfl), (mj_tb 6 (by decide +kernel) rfl)⟩
set_option maxRecDepth 100000 in
theorem pk_250 : mj_pok 7 29 6 45 0 := ⟨by decide, (mj_tb 284 (by decide +kernel) rfl), (mj_tb 285 (by decide +kernel) rfl), rfl⟩
set_option maxRecDepth 100000 in
theorem pk_251 : mj_pok 7 32 1 7 4 := ⟨by decide, (mj_tb 356 (by decide +kernel) rfl)⟩
set_option maxRecDepth 100000 in
theorem pk_252 : mj_pok 7 36 1 7 5 := ⟨by decide, (mj_tb 357 (by decide +kernel) rfl)⟩
set_option maxRecDepth 100000 in
theorem pk_253 : mj_pok 7 39 3 2 0 := ⟨by decide, (mj_tb 304 (by decide +kernel) rfl), (mj_tb 305 (by decide +kernel) rfl), (mj_tb 8 (by decide +kernel) rfl)⟩
set_option maxRecDepth 100000 in
theorem pk_254 : mj_pok 7 41 7 30 0 := ⟨by decide, "CoverTwo", List.mem_of_getElem? (i := 7) rfl, (mj_tb 307 (by decide +kernel) rfl), rfl⟩
set_option maxRecDepth 100000 in
theorem pk_255 : mj_pok 7 42 1 7 6 := ⟨by decide, (mj_tb 358 (by decide +kernel) rfl)⟩
set_option maxRecDepth 100000 in
theorem pk_256 : mj_pok 7 46 3 1 0 := ⟨by decide, (mj_tb 323 (by decide +kernel) rfl), (mj_tb 324 (by decide +kernel) rfl), (mj_tb 9 (by decide +kernel) rfl)⟩
set_option maxRecDepth 100000 in
theorem pk_257 : mj_pok 7 48 7 27 0 := ⟨by decide, "CoverTwo", List.mem_of_getElem? (i := 8) rfl, (mj_tb 326 (by decide +kernel) rfl), rfl⟩
set_option maxRecDepth 100000 in
theorem pk_258 : mj_pok 7 49 1 7 7 := ⟨by decide, (mj_tb 359 (by decide +kernel) rfl)⟩
set_option maxRecDepth 100000 in
theorem pk_259 : mj_pok 7 53 1 7 1 := ⟨by decide, (mj_tb 353 (by decide +kernel) rfl)⟩
set_option maxRecDepth 100000 in
theorem pk_260 : mj_pok 7 57 4 146 0 := ⟨by decide, (mj_tb 390 (by decide +kernel) rfl), (mj_tb 392 (by decide +kernel) rfl), (mj_sb 0 (by decide +kernel) rfl)⟩
set_option maxRecDepth 100000 in
theorem pk_261 : mj_pok 7 60 4 143 0 := ⟨by decide, (mj_tb 398 (by decide +kernel) rfl), (mj_tb 400 (by decide +kernel) rfl), (mj_sb 1 (by decide +kernel) rfl)⟩
set_option maxRecDepth 100000 in
theorem pk_262 : mj_pok 7 64 4 52 0 := ⟨by decide, (mj_tb 402 (by decide +kernel) rfl), (mj_tb 403 (by decide +kernel) rfl), (mj_tb 404 (by decide +kernel) rfl)⟩
set_option maxRecDepth 100000 in
theorem pk_263 : mj_pok 7 68 1 7 9 := ⟨by decide, (mj_tb 361 (by decide +kernel) rfl)⟩
set_option maxRecDepth 100000 in
theorem pk_264 : mj_pok 7 71 1 4 7 := ⟨by decide, (mj_tb 254 (by decide +kernel) rfl)⟩
set_option maxRecDepth 100000 in
theorem pk_265 : mj_pok 7 74 1 7 10 := ⟨by decide, (mj_tb 362 (by decide +kernel) rfl)⟩
set_option maxRecDepth 100000 in
theorem pk_266 : mj_pok 7 77 4 53 0 := ⟨by decide, (mj_tb 667 (by decide +kernel) rfl), (mj_tb 668 (by decide +kernel) rfl), (mj_tb 669 (by decide +kernel) rfl)⟩
set_option maxRecDepth 100000 in
theorem pk_267 : mj_pok 7 81 4 46 0 := ⟨by decide, (mj_tb 671 (by decide +kernel) rfl), (mj_tb 672 (by decide +kernel) rfl), (mj_tb 673 (by decide +kernel) rfl)⟩
set_option maxRecDepth 100000 in
theorem pk_268 : mj_pok 7 84 1 0 0 := ⟨by decide, (mj_tb 145 (by decide +kernel) rfl)⟩
set_option maxRecDepth 100000 in
theorem pk_269 : mj_pok 7 88 1 6 4 := ⟨by decide, (mj_tb 58 (by decide +kernel) rfl)⟩
set_option maxRecDepth 100000 in
theorem pk_270 : mj_pok 7 93 4 142 0 := ⟨by decide, (mj_tb 675 (by decide +kernel) rfl), (mj_tb 677 (by decide +kernel) rfl), (mj_sb 27 (by decide +kernel) rfl)⟩
set_option maxRecDepth 100000 in
theorem pk_271 : mj_pok 7 96 1 7 8 := ⟨by decide, (mj_tb 360 (by decide +kernel) rfl)⟩
set_option maxRecDepth 100000 in
theorem pk_272 : mj_pok 7 99 4 148 0 := ⟨by decide, (mj_tb 691 (by decide +kernel) rfl), (mj_tb 693 (by decide +kernel) rfl), (mj_sb 28 (by decide +kernel) rfl)⟩
set_option maxRecDepth 100000 in
theorem pk_273 : mj_pok 7 103 1 6 7 := ⟨by decide, (mj_tb 71 (by decide +kernel) rfl)⟩
set_option maxRecDepth 100000 in
theorem pk_274 : mj_pok 7 107 1 6 8 := ⟨by decide, (mj_tb 73 (by decide +kernel) rfl)⟩
set_option maxRecDepth 100000 in
theorem pk_275 : mj_pok 7 110 1 6 9 := ⟨by decide, (mj_tb 76 (by decide +kernel) rfl)⟩
set_option maxRecDepth 100000 in
theorem pk_276 : mj_pok 7 113 1 6 10 := ⟨by decide, (mj_tb 80 (by decide +kernel) rfl)⟩
set_option maxRecDepth 100000 in
theorem pk_277 : mj_pok 7 116 4 147 0 := ⟨by decide, (mj_tb 699 (by decide +kernel) rfl), (mj_tb 701 (by decide +kernel) rfl), (mj_sb 29 (by decide +kernel) rfl)⟩
set_option maxRecDepth 100000 in
theorem pk_278 : mj_pok 7 120 1 0 1 := ⟨by decide, (mj_tb 148 (by decide +kernel) rfl)⟩
set_option maxRecDepth 100000 in
theorem pk_279 : mj_pok 7 123 4 151 0 := ⟨by decide, (mj_tb 707 (by decide +kernel) rfl), (mj_tb 709 (by decide +kernel) rfl), (mj_sb 30 (by decide +kernel) rfl)⟩
set_option maxRecDepth 100000 in
theorem pk_280 : mj_pok 7 126 1 0 4 := ⟨by decide, (mj_tb 157 (by decide +kernel) rfl)⟩
set_option maxRecDepth 100000 in
theorem pk_281 : mj_pok 7 129 1 6 18 := ⟨by decide, (mj_tb 93 (by decide +kernel) rfl)⟩
set_option maxRecDepth 100000 in
theorem pk_282 : mj_pok 7 132 1 0 5 := ⟨by decide, (mj_tb 160 (by decide +kernel) rfl)⟩
set_option maxRecDepth 100000 in
theorem pk_283 : mj_pok 7 135 1 6 19 := ⟨by decide, (mj_tb 96 (by decide +kernel) rfl)⟩
set_option maxRecDepth 100000 in
theorem pk_284 : mj_pok 7 138 1 0 6 := ⟨by decide, (mj_tb 163 (by decide +kernel) rfl)⟩
set_option maxRecDepth 100000 in
theorem pk_285 : mj_pok 7 141 1 0 8 := ⟨by decide, (mj_tb 168 (by decide +kernel) rfl)⟩
set_option maxRecDepth 100000 in
theorem pk_286 : mj_pok 7 144 5 275 0 := ⟨by decide, (mj_tb 711 (by decide +kernel) rfl), (mj_tb 712 (by decide +kernel) rfl)⟩
set_option maxRecDepth 100000 in
theorem pk_287 : mj_pok 7 149 4 88 0 := ⟨by decide, (mj_tb 721 (by decide +kernel) rfl), (mj_tb 722 (by decide +kernel) rfl), (mj_tb 723 (by decide +kernel) rfl)⟩
set_option maxRecDepth 100000 in
theorem pk_288 : mj_pok 7 153 4 9 0 := ⟨by decide, (mj_tb 725 (by decide +kernel) rfl), (mj_tb 726 (by decide +kernel) rfl), (mj_tb 727 (by decide +kernel) rfl)⟩
set_option maxRecDepth 100000 in
theorem pk_289 : mj_pok 7 156 4 23 0 := ⟨by decide, (mj_tb 737 (by decide +kernel) rfl), (mj_tb 738 (by decide +kernel) rfl), (mj_tb 739 (by decide +kernel) rfl)⟩
set_option maxRecDepth 100000 in
theorem pk_290 : mj_pok 7 159 4 11 0 := ⟨by decide, (mj_tb 746 (by decide +kernel) rfl), (mj_tb 747 (by decide +kernel) rfl), (mj_tb 748 (by decide +kernel) rfl)⟩
set_option maxRecDepth 100000 in
theorem pk_291 : mj_pok 7 163 4 10 0 := ⟨by decide, (mj_tb 758 (by decide +kernel) rfl), (mj_tb 730 (by decide +kernel) rfl), (mj_tb 731 (by decide +kernel) rfl)⟩
set_option maxRecDepth 100000 in
theorem pk_292 : mj_pok 7 165 4 89 0 := ⟨by decide, (mj_tb 763 (by decide +kernel) rfl), (mj_tb 764 (by decide +kernel) rfl), (mj_tb 765 (by decide +kernel) rfl)⟩
set_option maxRecDepth 100000 in
theorem pk_293 : mj_pok 7 168 4 91 0 := ⟨by decide, (mj_tb 769 (by decide +kernel) rfl), (mj_tb 621 (by decide +kernel) rfl), (mj_tb 622 (by decide +kernel) rfl)⟩
set_option maxRecDepth 100000 in
theorem pk_294 : mj_pok 7 171 1 6 3 := ⟨by decide, (mj_tb 55 (by decide +kernel) rfl)⟩
set_option maxRecDepth 100000 in
theorem pk_295 : mj_pok 7 175 4 15 0 := ⟨by decide, (mj_tb 770 (by decide +kernel) rfl), (mj_tb 647 (by decide +kernel) rfl), (mj_tb 648 (by decide +kernel) rfl)⟩
set_option maxRecDepth 100000 in
theorem pk_296 : mj_pok 7 179 4 16 0 := ⟨by decide, (mj_tb 775 (by decide +kernel) rfl), (mj_tb 631 (by decide +kernel) rfl), (mj_tb 632 (by decide +kernel) rfl)⟩
set_option maxRecDepth 100000 in
theorem pk_297 : mj_pok 7 183 4 93 0 := ⟨by decide, (mj_tb 780 (by decide +kernel) rfl), (mj_tb 635 (by decide +kernel) rfl), (mj_tb 636 (by decide +kernel) rfl)⟩
set_option maxRecDepth 100000 in
theorem pk_298 : mj_pok 7 186 4 18 0 := ⟨by decide, (mj_tb 781 (by decide +kernel) rfl), (mj_tb 782 (by decide +kernel) rfl), (mj_tb 783 (by decide +kernel) rfl)⟩
set_option maxRecDepth 100000 in
theorem pk_299 : mj_pok 7 190 4 20 0 := ⟨by decide, (mj_tb 793 (by decide +kernel) rfl), (mj_tb 794 (by decide +kernel) rfl), (mj_tb 795 (by decide +kernel) rfl)⟩
set_option maxRecDepth 100000 in
theorem pk_300 : mj_pok 7 194 4 21 0 := ⟨by decide, (mj_tb 801 (by decide +kernel) rfl), (mj_tb 802 (by decide +kernel) rfl), (mj_tb 803 (by decide +kernel) rfl)⟩
set_option maxRecDepth 100000 in
theorem pk_301 : mj_pok 7 197 4 149 0 := ⟨by decide, (mj_tb 814 (by decide +kernel) rfl), (mj_tb 816 (by decide +kernel) rfl), (mj_sb 31 (by decide +kernel) rfl)⟩
set_option maxRecDepth 100000 in
theorem pk_302 : mj_pok 7 200 4 145 0 := ⟨by decide, (mj_tb 818 (by decide +kernel) rfl), (mj_tb 820 (by decide +kernel) rfl), (mj_sb 32 (by decide +kernel) rfl)⟩
set_option maxRecDepth 100000 in
theorem pk_303 : mj_pok 7 203 1 0 9 := ⟨by decide, (mj_tb 171 (by decide +kernel) rfl)⟩
set_option maxRecDepth 100000 in
theorem pk_304 : mj_pok 7 206 4 47 0 := ⟨by decide, (mj_tb 822 (by decide +kernel) rfl), (mj_tb 823 (by decide +kernel) rfl), (mj_tb 824 (by decide +kernel) rfl)⟩
set_option maxRecDepth 100000 in
theorem pk_305 : mj_pok 7 210 4 3 0 := ⟨by decide, (mj_tb 837 (by decide +kernel) rfl), (mj_tb 617 (by decide +kernel) rfl), (mj_tb 618 (by decide +kernel) rfl)⟩
set_option maxRecDepth 100000 in
theorem pk_306 : mj_pok 7 214 4 144 0 := ⟨by decide, (mj_tb 838 (by decide +kernel) rfl), (mj_tb 840 (by decide +kernel) rfl), (mj_sb 34 (by decide +kernel) rfl)⟩
set_option maxRecDepth 100000 in
theorem pk_307 : mj_pok 7 217 1 0 2 := ⟨by decide, (mj_tb 153 (by decide +kernel) rfl)⟩
set_option maxRecDepth 100000 in
theorem pk_308 : mj_pok 7 220 4 4 0 := ⟨by decide, (mj_tb 846 (by decide +kernel) rfl), (mj_tb 847 (by decide +kernel) rfl), (mj_tb 848 (by decide +kernel) rfl)⟩
set_option maxRecDepth 100000 in
theorem pk_309 : mj_pok 7 223 4 5 0 := ⟨by decide, (mj_tb 854 (by decide +kernel) rfl), (mj_tb 855 (by decide +kernel) rfl), (mj_tb 856 (by decide +kernel) rfl)⟩
set_option maxRecDepth 100000 in
theorem pk_310 : mj_pok 7 226 1 6 5 := ⟨by decide, (mj_tb 64 (by decide +kernel) rfl)⟩
set_option maxRecDepth 100000 in
theorem pk_311 : mj_pok 7 229 4 13 0 := ⟨by decide, (mj_tb 868 (by decide +kernel) rfl), (mj_tb 869 (by decide +kernel) rfl), (mj_tb 870 (by decide +kernel) rfl)⟩
set_option maxRecDepth 100000 in
theorem pk_312 : mj_pok 7 232 1 0 10 := ⟨by decide, (mj_tb 173 (by decide +kernel) rfl)⟩
set_option maxRecDepth 100000 in
theorem pk_313 : mj_pok 7 235 4 48 0 := ⟨by decide, (mj_tb 880 (by decide +kernel) rfl), (mj_tb 881 (by decide +kernel) rfl), (mj_tb 882 (by decide +kernel) rfl)⟩
set_option maxRecDepth 100000 in
theorem pk_314 : mj_pok 7 239 4 150 0 := ⟨by decide, (mj_tb 897 (by decide +kernel) rfl), (mj_tb 899 (by decide +kernel) rfl), (mj_sb 35 (by decide +kernel) rfl)⟩
set_option maxRecDepth 100000 in
theorem pk_315 : mj_pok 7 242 4 24 0 := ⟨by decide, (mj_tb 901 (by decide +kernel) rfl), (mj_tb 902 (by decide +kernel) rfl), (mj_tb 903 (by decide +kernel) rfl)⟩
set_option maxRecDepth 100000 in
theorem pk_316 : mj_pok 7 245 4 25 0 := ⟨by decide, (mj_tb 909 (by decide +kernel) rfl), (mj_tb 910 (by decide +kernel) rfl), (mj_tb 911 (by decide +kernel) rfl)⟩
set_option maxRecDepth 100000 in
theorem pk_317 : mj_pok 7 248 1 6 17 := ⟨by decide, (mj_tb 91 (by decide +kernel) rfl)⟩
set_option maxRecDepth 100000 in
theorem pk_318 : mj_pok 7 251 4 19 0 := ⟨by decide, (mj_tb 925 (by decide +kernel) rfl), (mj_tb 926 (by decide +kernel) rfl), (mj_tb 927 (by decide +kernel) rfl)⟩
set_option maxRecDepth 100000 in
theorem pk_319 : mj_pok 7 254 4 37 0 := ⟨by decide, (mj_tb 933 (by decide +kernel) rfl), (mj_tb 934 (by decide +kernel) rfl), (mj_tb 935 (by decide +kernel) rfl)⟩
set_option maxRecDepth 100000 in
theorem pk_320 : mj_pok 7 258 4 38 0 := ⟨by decide, (mj_tb 960 (by decide +kernel) rfl), (mj_tb 961 (by decide +kernel) rfl), (mj_tb 962 (by decide +kernel) rfl)⟩
set_option maxRecDepth 100000 in
theorem pk_321 : mj_pok 7 262 4 31 0 := ⟨by decide, (mj_tb 970 (by decide +kernel) rfl), (mj_tb 971 (by decide +kernel) rfl), (mj_tb 972 (by decide +kernel) rfl)⟩
set_option maxRecDepth 100000 in
theorem pk_322 : mj_pok 7 265 1 2 2 := ⟨by decide, (mj_tb 315 (by decide +kernel) rfl)⟩
set_option maxRecDepth 100000 in
theorem pk_323 : mj_pok 7 268 4 33 0 := ⟨by decide, (mj_tb 992 (by decide +kernel) rfl), (mj_tb 993 (by decide +kernel) rfl), (mj_tb 994 (by decide +kernel) rfl)⟩
set_option maxRecDepth 100000 in
theorem pk_324 : mj_pok 7 271 4 35 0 := ⟨by decide, (mj_tb 1011 (by decide +kernel) rfl), (mj_tb 1012 (by decide +kernel) rfl), (mj_tb 1013 (by decide +kernel) rfl)⟩
set_option maxRecDepth 100000 in
theorem pk_325 : mj_pok 7 275 15 0 0 := (mj_tb 1023 (by decide +kernel) rfl)
set_option maxRecDepth 100000 in
theorem pk_326 : mj_pok 7 280 4 39 0 := ⟨by decide, (mj_tb 1028 (by decide +kernel) rfl), (mj_tb 1029 (by decide +kernel) rfl), (mj_tb 1030 (by decide +kernel) rfl)⟩
set_option maxRecDepth 100000 in
theorem pk_327 : mj_pok 7 284 4 28 0 := ⟨by decide, (mj_tb 1037 (by decide +kernel) rfl), (mj_tb 1038 (by decide +kernel) rfl), (mj_tb 1039 (by decide +kernel) rfl)⟩
set_option maxRecDepth 100000 in
theorem pk_328 : mj_pok 7 288 1 1 4 := ⟨by decide, (mj_tb 336 (by decide +kernel) rfl)⟩
set_option maxRecDepth 100000 in
theorem pk_329 : mj_pok 7 291 1 1 5 := ⟨by decide, (mj_tb 338 (by decide +kernel) rfl)⟩
set_option maxRecDepth 100000 in
theorem pk_330 : mj_pok 7 294 1 3 2 := ⟨by decide, (mj_tb 296 (by decide +kernel) rfl)⟩
set_option maxRecDepth 100000 in
theorem pk_331 : mj_pok 7 295 4 49 0 := ⟨by decide, (mj_tb 1061 (by decide +kernel) rfl), (mj_tb 885 (by decide +kernel) rfl), (mj_tb 886 (by decide +kernel) rfl)⟩
set_option maxRecDepth 100000 in
theorem pk_332 : mj_pok 7 299 4 12 0 := ⟨by decide, (mj_tb 1078 (by decide +kernel) rfl), (mj_tb 1079 (by decide +kernel) rfl), (mj_tb 1080 (by decide +kernel) rfl)⟩
set_option maxRecDepth 100000 in
theorem pk_333 : mj_pok 7 304 12 19 0 := trivial
set_option maxRecDepth 100000 in
theorem pk_334 : mj_pok 7 309 1 6 0 := ⟨by decide, (mj_tb 47 (by decide +kernel) rfl)⟩
set_option maxRecDepth 100000 in
theorem pk_335 : mj_pok 7 312 1 6 1 := ⟨by decide, (mj_tb 51 (by decide +kernel) rfl)⟩
set_option maxRecDepth 100000 in
theorem pk_336 : mj_pok 7 315 1 6 2 := ⟨by decide, (mj_tb 53 (by decide +kernel) rfl)⟩
set_option maxRecDepth 100000 in
theorem pk_337 : mj_pok 7 318 1 6 6 := ⟨by decide, (mj_tb 68 (by decide +kernel) rfl)⟩
set_option maxRecDepth 100000 in
theorem pk_338 : mj_pok 8 3 8 0 0 := (mj_tb 1386 (by decide +kernel) rfl)
set_option maxRecDepth 100000 in
theorem pk_339 : mj_pok 8 9 1 8 0 := ⟨by decide, (mj_tb 1387 (by decide +kernel) rfl)⟩
set_option maxRecDepth 100000 in
theorem pk_340 : mj_pok 8 15 1 8 1 := ⟨by decide, (mj_tb 1389 (by decide +kernel) rfl)⟩
set_option maxRecDepth 100000 in
theorem pk_341 : mj_pok 8 19 4 160 0 := ⟨by decide, (mj_tb 1529 (by decide +kernel) rfl), (mj_tb 1530 (by decide +kernel) rfl), (mj_tb 1531 (by decide +kernel) rfl)⟩
set_option maxRecDepth 100000 in
theorem pk_342 : mj_pok 9 3 8 0 0 := (mj_tb 1298 (by decide +kernel) rfl)
set_option maxRecDepth 100000 in
theorem pk_343 : mj_pok 9 9 1 9 10 := ⟨by decide, (mj_tb 1312 (by decide +kernel) rfl)⟩
set_option maxRecDepth 100000 in
theorem pk_344 : mj_pok 9 15 1 9 11 := ⟨by decide, (mj_tb 1314 (by decide +kernel) rfl)⟩
set_option maxRecDepth 100000 in
theorem pk_345 : mj_pok 9 18 1 9 12 := ⟨by decide, (mj_tb 1316 (by decide +kernel) rfl)⟩
set_option maxRecDepth 100000 in
theorem pk_346 : mj_pok 9 21 1 9 13 := ⟨by decide, (mj_tb 1318 (by decide +kernel) rfl)⟩
set_option maxRecDepth 100000 in
theorem pk_347 : mj_pok 9 24 1 9 14 := ⟨by decide, (mj_tb 1320 (by decide +kernel) rfl)⟩
set_option maxRecDepth 100000 in
theorem pk_348 : mj_pok 9 27 1 9 15 := ⟨by decide, (mj_tb 1322 (by decide +kernel) rfl)⟩
set_option maxRecDepth 100000 in
theorem pk_349 : mj_pok 9 30 1 9 16 := ⟨by decide, (mj_tb 1324 (by decide +kernel) rfl)⟩
set_option maxRecDepth 100000 in
theorem pk_350 : mj_pok 9 33 1 9 17 := ⟨by decide, (mj_tb 1326 (by decide +kernel) rfl)⟩
set_option maxRecDepth 100000 in
theorem pk_351 : mj_pok 9 36 1 9 18 := ⟨by decide, (mj_tb 1328 (by decide +kernel) rfl)⟩
set_option maxRecDepth 100000 in
theorem pk_352 : mj_pok 9 40 1 9 19 := ⟨by decide, (mj_tb 1330 (by decide +kernel) rfl)⟩
set_option maxRecDepth 100000 in
theorem pk_353 : mj_pok 9 43 1 9 20 := ⟨by decide, (mj_tb 1332 (by decide +kernel) rfl)⟩
set_option maxRecDepth 100000 in
theorem pk_354 : mj_pok 9 46 1 9 21 := ⟨by decide, (mj_tb 1334 (by decide +kernel) rfl)⟩
set_option maxRecDepth 100000 in
theorem pk_355 : mj_pok 9 49 1 9 8 := ⟨by decide, (mj_tb 1309 (by decide +kernel) rfl)⟩
set_option maxRecDepth 100000 in
theorem pk_356 : mj_pok 9 53 1 9 5 := ⟨by decide, (mj_tb 1305 (by decide +kernel) rfl)⟩
set_option maxRecDepth 100000 in
theorem pk_357 : mj_pok 9 56 1 9 0 := ⟨by decide, (mj_tb 1299 (by decide +kernel) rfl)⟩
set_option maxRecDepth 100000 in
theorem pk_358 : mj_pok 10 3 8 0 0 := (mj_tb 1152 (by decide +kernel) rfl)
set_option maxRecDepth 100000 in
theorem pk_359 : mj_pok 10 9 1 10 2 := ⟨by decide, (mj_tb 1155 (by decide +kernel) rfl)⟩
set_option maxRecDepth 100000 in
theorem pk_360 : mj_pok 10 13 1 10 7 := ⟨by decide, (mj_tb 1160 (by decide +kernel) rfl)⟩
set_option maxRecDepth 100000 in
theorem pk_361 : mj_pok 10 17 1 10 8 := ⟨by decide, (mj_tb 1161 (by decide +kernel) rfl)⟩
set_option maxRecDepth 100000 in
theorem pk_362 : mj_pok 10 20 1 10 9 := ⟨by decide, (mj_tb 1162 (by decide +kernel) rfl)⟩
set_option maxRecDepth 100000 in
theorem pk_363 : mj_pok 10 24 1 10 20 := ⟨by decide, (mj_tb 1173 (by decide +kernel) rfl)⟩
set_option maxRecDepth 100000 in
theorem pk_364 : mj_pok 10 27 1 10 24 := ⟨by decide, (mj_tb 1177 (by decide +kernel) rfl)⟩
set_option maxRecDepth 100000 in
theorem pk_365 : mj_pok 10 30 1 10 25 := ⟨by decide, (mj_tb 1178 (by decide +kernel) rfl)⟩
set_option maxRecDepth 100000 in
theorem pk_366 : mj_pok 10 33 1 10 32 := ⟨by decide, (mj_tb 1185 (by decide +kernel) rfl)⟩
set_option maxRecDepth 100000 in
theorem pk_367 : mj_pok 10 36 1 10 33 := ⟨by decide, (mj_tb 1186 (by decide +kernel) rfl)⟩
set_option maxRecDepth 100000 in
theorem pk_368 : mj_pok 10 39 1 10 34 := ⟨by decide, (mj_tb 1187 (by decide +kernel) rfl)⟩
set_option maxRecDepth 100000 in
theorem pk_369 : mj_pok 10 42 1 10 35 := ⟨by decide, (mj_tb 1188 (by decide +kernel) rfl)⟩
set_option maxRecDepth 100000 in
theorem pk_370 : mj_pok 10 45 1 10 36 := ⟨by decide, (mj_tb 1189 (by decide +kernel) rfl)⟩
set_option maxRecDepth 100000 in
theorem pk_371 : mj_pok 10 48 1 10 40 := ⟨by decide, (mj_tb 1193 (by decide +kernel) rfl)⟩
set_option maxRecDepth 100000 in
theorem pk_372 : mj_pok 10 51 1 10 0 := ⟨by decide, (mj_tb 1153 (by decide +kernel) rfl)⟩
set_option maxRecDepth 100000 in
theorem pk_373 : mj_pok 10 54 1 10 1 := ⟨by decide, (mj_tb 1154 (by decide +kernel) rfl)⟩
set_option maxRecDepth 100000 in
theorem pk_374 : mj_pok 10 57 4 163 0 := ⟨by decide, (mj_tb 1289 (by decide +kernel) rfl), (mj_tb 1291 (by decide +kernel) rfl), (mj_sb 44 (by decide +kernel) rfl)⟩
set_option maxRecDepth 100000 in
theorem pk_375 : mj_pok 10 61 4 165 0 := ⟨by decide, (mj_tb 1583 (by decide +kernel) rfl), (mj_tb 1585 (by decide +kernel) rfl), (mj_sb 77 (by decide +kernel) rfl)⟩
set_option maxRecDepth 100000 in
theorem pk_376 : mj_pok 10 64 4 153 0 := ⟨by decide, (mj_tb 1546 (by decide +kernel) rfl), (mj_tb 1547 (by decide +kernel) rfl), (mj_tb 1548 (by decide +kernel) rfl)⟩
set_option maxRecDepth 100000 in
theorem pk_377 : mj_pok 10 65 3 8 0 := ⟨by decide, (mj_tb 1381 (by decide +kernel) rfl), (mj_tb 1382 (by decide +kernel) rfl), (mj_tb 16 (by decide +kernel) rfl)⟩
set_option maxRecDepth 100000 in
theorem pk_378 : mj_pok 10 70 2 8 1 := ⟨by decide, "CoverTwoModel", List.mem_of_getElem? (i := 0) rfl⟩
set_option maxRecDepth 100000 in
theorem pk_379 : mj_pok 10 74 2 8 0 := ⟨by decide, "CoverTwoModel", List.mem_of_getElem? (i := 1) rfl⟩
set_option maxRecDepth 100000 in
theorem pk_380 : mj_pok 10 77 2 9 0 := ⟨by decide, "CoverTwoModel", List.mem_of_getElem? (i := 2) rfl⟩
set_option maxRecDepth 100000 in
theorem pk_381 : mj_pok 10 78 3 9 0 := ⟨by decide, (mj_tb 1293 (by decide +kernel) rfl), (mj_tb 1294 (by decide +kernel) rfl), (mj_tb 15 (by decide +kernel) rfl)⟩
set_option maxRecDepth 100000 in
theorem pk_382 : mj_pok 10 82 2 9 11 := ⟨by decide, "CoverTwoModel", List.mem_of_getElem? (i := 3) rfl⟩
set_option maxRecDepth 100000 in
theorem pk_383 : mj_pok 10 85 2 9 14 := ⟨by decide, "CoverTwoModel", List.mem_of_getElem? (i := 4) rfl⟩
set_option maxRecDepth 100000 in
theorem pk_384 : mj_pok 10 88 2 9 13 := ⟨by decide, "CoverTwoModel", List.mem_of_getElem? (i := 5) rfl⟩
set_option maxRecDepth 100000 in
theorem pk_385 : mj_pok 10 91 2 9 15 := ⟨by decide, "CoverTwoModel", List.mem_of_getElem? (i := 6) rfl⟩
set_option maxRecDepth 100000 in
theorem pk_386 : mj_pok 10 94 4 171 0 := ⟨by decide, (mj_tb 1575 (by decide +kernel) rfl), (mj_tb 1577 (by decide +kernel) rfl), (mj_sb 76 (by decide +kernel) rfl)⟩
set_option maxRecDepth 100000 in
theorem pk_387 : mj_pok 10 98 2 9 16 := ⟨by decide, "CoverTwoModel", List.mem_of_getElem? (i := 7) rfl⟩
set_option maxRecDepth 100000 in
theorem pk_388 : mj_pok 10 101 2 9 1 := ⟨by decide, "CoverTwoModel", List.mem_of_getElem? (i := 8) rfl⟩
set_option maxRecDepth 100000 in
theorem pk_389 : mj_pok 10 104 4 172 0 := ⟨by decide, (mj_tb 1571 (by decide +kernel) rfl), (mj_tb 1573 (by decide +kernel) rfl), (mj_sb 75 (by decide +kernel) rfl)⟩
set_option maxRecDepth 100000 in
theorem pk_390 : mj_pok 10 108 4 168 0 := ⟨by decide, (mj_tb 1555 (by decide +kernel) rfl), (mj_tb 1557 (by decide +kernel) rfl), (mj_sb 71 (by decide +kernel) rfl)⟩
set_option maxRecDepth 100000 in
theorem pk_391 : mj_pok 10 112 2 9 5 := ⟨by decide, "CoverTwoModel", List.mem_of_getElem? (i := 9) rfl⟩
set_option maxRecDepth 100000 in
theorem pk_392 : mj_pok 10 115 4 173 0 := ⟨by decide, (mj_tb 1567 (by decide +kernel) rfl), (mj_tb 1569 (by decide +kernel) rfl), (mj_sb 74 (by decide +kernel) rfl)⟩
set_option maxRecDepth 100000 in
theorem pk_393 : mj_pok 10 118 4 154 0 := ⟨by decide, (mj_tb 1525 (by decide +kernel) rfl), (mj_tb 1526 (by decide +kernel) rfl), (mj_tb 1527 (by decide +kernel) rfl)⟩
set_option maxRecDepth 100000 in
theorem pk_394 : mj_pok 10 122 4 155 0 := ⟨by decide, (mj_tb 1579 (by decide +kernel) rfl), (mj_tb 1580 (by decide +kernel) rfl), (mj_tb 1581 (by decide +kernel) rfl)⟩
set_option maxRecDepth 100000 in
theorem pk_395 : mj_pok 10 125 4 160 0 := ⟨by decide, (mj_tb 1554 (by decide +kernel) rfl), (mj_tb 1530 (by decide +kernel) rfl), (mj_tb 1531 (by decide +kernel) rfl)⟩
set_option maxRecDepth 100000 in
theorem pk_396 : mj_pok 10 128 4 169 0 := ⟨by decide, (mj_tb 1559 (by decide +kernel) rfl), (mj_tb 1561 (by decide +kernel) rfl), (mj_sb 72 (by decide +kernel) rfl)⟩
set_option maxRecDepth 100000 in
theorem pk_397 : mj_pok 10 132 2 9 10 := ⟨by decide, "CoverTwoModel", List.mem_of_getElem? (i := 10) rfl⟩
set_option maxRecDepth 100000 in
theorem pk_398 : mj_pok 10 135 4 175 0 := ⟨by decide, (mj_tb 1550 (by decide +kernel) rfl), (mj_tb 1552 (by decide +kernel) rfl), (mj_sb 70 (by decide +kernel) rfl)⟩
set_option maxRecDepth 100000 in
theorem pk_399 : mj_pok 10 139 4 174 0 := ⟨by decide, (mj_tb 1563 (by decide +kernel) rfl), (mj_tb 1565 (by decide +kernel) rfl), (mj_sb 73 (by decide +kernel) rfl)⟩
set_option maxRecDepth 100000 in
theorem pk_400 : mj_pok 10 143 2 9 2 := ⟨by decide, "CoverTwoModel", List.mem_of_getElem? (i := 11) rfl⟩
set_option maxRecDepth 100000 in
theorem pk_401 : mj_pok 10 146 2 9 9 := ⟨by decide, "CoverTwoModel", List.mem_of_getElem? (i := 12) rfl⟩
set_option maxRecDepth 100000 in
theorem pk_402 : mj_pok 10 150 4 176 0 := ⟨by decide, (mj_tb 1542 (by decide +kernel) rfl), (mj_tb 1544 (by decide +kernel) rfl), (mj_sb 69 (by decide +kernel) rfl)⟩
set_option maxRecDepth 100000 in
theorem pk_403 : mj_pok 10 154 1 10 11 := ⟨by decide, (mj_tb 1164 (by decide +kernel) rfl)⟩
set_option maxRecDepth 100000 in
theorem pk_404 : mj_pok 10 157 4 276 0 := ⟨by decide, (mj_tb 1427 (by decide +kernel) rfl), (mj_tb 455 (by decide +kernel) rfl), (mj_tb 456 (by decide +kernel) rfl)⟩
set_option maxRecDepth 100000 in
theorem pk_405 : mj_pok 10 162 11 32 0 := (mj_tb 1407 (by decide +kernel) rfl)
set_option maxRecDepth 100000 in
theorem pk_406 : mj_pok 10 164 4 277 0 := ⟨by decide, (mj_tb 1428 (by decide +kernel) rfl), (mj_tb 468 (by decide +kernel) rfl), (mj_tb 469 (by decide +kernel) rfl)⟩
set_option maxRecDepth 100000 in
theorem pk_407 : mj_pok 10 168 1 10 13 := ⟨by decide, (mj_tb 1166 (by decide +kernel) rfl)⟩
set_option maxRecDepth 100000 in
theorem pk_408 : mj_pok 10 171 1 10 12 := ⟨by decide, (mj_tb 1165 (by decide +kernel) rfl)⟩
set_option maxRecDepth 100000 in
theorem pk_409 : mj_pok 10 174 4 178 0 := ⟨by decide, (mj_tb 1400 (by decide +kernel) rfl), (mj_tb 1402 (by decide +kernel) rfl), (mj_sb 46 (by decide +kernel) rfl)⟩
set_option maxRecDepth 100000 in
theorem pk_410 : mj_pok 10 177 1 10 14 := ⟨by decide, (mj_tb 1167 (by decide +kernel) rfl)⟩
set_option maxRecDepth 100000 in
theorem pk_411 : mj_pok 10 180 1 10 15 := ⟨by decide, (mj_tb 1168 (by decide +kernel) rfl)⟩
set_option maxRecDepth 100000 in
theorem pk_412 : mj_pok 10 183 5 179 0 := ⟨by decide, (mj_tb 1404 (by decide +kernel) rfl), (mj_tb 1405 (by decide +kernel) rfl)⟩
set_option maxRecDepth 100000 in
theorem pk_413 : mj_pok 10 187 1 10 21 := ⟨by decide, (mj_tb 1174 (by decide +kernel) rfl)⟩
set_option maxRecDepth 100000 in
theorem pk_414 : mj_pok 10 190 1 10 17 := ⟨by decide, (mj_tb 1170 (by decide +kernel) rfl)⟩
set_option maxRecDepth 100000 in
theorem pk_415 : mj_pok 10 193 5 180 0 := ⟨by decide, (mj_tb 1408 (by decide +kernel) rfl), (mj_tb 1409 (by decide +kernel) rfl)⟩
set_option maxRecDepth 100000 in
theorem pk_416 : mj_pok 10 196 1 10 16 := ⟨by decide, (mj_tb 1169 (by decide +kernel) rfl)⟩
set_option maxRecDepth 100000 in
theorem pk_417 : mj_pok 10 199 1 10 18 := ⟨by decide, (mj_tb 1171 (by decide +kernel) rfl)⟩
set_option maxRecDepth 100000 in
theorem pk_418 : mj_pok 10 202 1 10 19 := ⟨by decide, (mj_tb 1172 (by decide +kernel) rfl)⟩
set_option maxRecDepth 100000 in
theorem pk_419 : mj_pok 10 205 5 181 0 := ⟨by decide, (mj_tb 1424 (by decide +kernel) rfl), (mj_tb 1425 (by decide +kernel) rfl)⟩
set_option maxRecDepth 100000 in
theorem pk_420 : mj_pok 10 209 4 184 0 := ⟨by decide, (mj_tb 1420 (by decide +kernel) rfl), (mj_tb 1422 (by decide +kernel) rfl), (mj_sb 49 (by decide +kernel) rfl)⟩
set_option maxRecDepth 100000 in
theorem pk_421 : mj_pok 10 213 4 182 0 := ⟨by decide, (mj_tb 1396 (by decide +kernel) rfl), (mj_tb 1398 (by decide +kernel) rfl), (mj_sb 45 (by decide +kernel) rfl)⟩
set_option maxRecDepth 100000 in
theorem pk_422 : mj_pok 10 216 4 183 0 := ⟨by decide, (mj_tb 1433 (by decide +kernel) rfl), (mj_tb 1435 (by decide +kernel) rfl), (mj_sb 51 (by decide +kernel) rfl)⟩
set_option maxRecDepth 100000 in
theorem pk_423 : mj_pok 10 220 5 167 0 := ⟨by decide, (mj_tb 1450 (by decide +kernel) rfl), (mj_tb 1451 (by decide +kernel) rfl)⟩
set_option maxRecDepth 100000 in
theorem pk_424 : mj_pok 10 224 4 187 0 := ⟨by decide, (mj_tb 1442 (by decide +kernel) rfl), (mj_tb 1444 (by decide +kernel) rfl), (mj_sb 53 (by decide +kernel) rfl)⟩
set_option maxRecDepth 100000 in
theorem pk_425 : mj_pok 10 228 4 188 0 := ⟨by decide, (mj_tb 1446 (by decide +kernel) rfl), (mj_tb 1448 (by decide +kernel) rfl), (mj_sb 54 (by decide +kernel) rfl)⟩
set_option maxRecDepth 100000 in
theorem pk_426 : mj_pok 10 232 12 0 0 := trivial
set_option maxRecDepth 100000 in
theorem pk_427 : mj_pok 10 234 12 1 0 := trivial
set_option maxRecDepth 100000 in
theorem pk_428 : mj_pok 10 236 12 2 0 := trivial
set_option maxRecDepth 100000 in
theorem pk_429 : mj_pok 10 238 12 4 0 := trivial
set_option maxRecDepth 100000 in
theorem pk_430 : mj_pok 10 240 12 3 0 := trivial
set_option maxRecDepth 100000 in
theorem pk_431 : mj_pok 10 241 12 5 0 := trivial
set_option maxRecDepth 100000 in
theorem pk_432 : mj_pok 10 243 1 10 4 := ⟨by decide, (mj_tb 1157 (by decide +kernel) rfl)⟩
set_option maxRecDepth 100000 in
theorem pk_433 : mj_pok 10 247 4 190 0 := ⟨by decide, (mj_tb 1470 (by decide +kernel) rfl), (mj_tb 1472 (by decide +kernel) rfl), (mj_sb 58 (by decide +kernel) rfl)⟩
set_option maxRecDepth 100000 in
theorem pk_434 : mj_pok 10 251 4 158 0 := ⟨by decide, (mj_tb 1478 (by decide +kernel) rfl), (mj_tb 1479 (by decide +kernel) rfl), (mj_tb 1480 (by decide +kernel) rfl)⟩
set_option maxRecDepth 100000 in
theorem pk_435 : mj_pok 10 255 2 9 19 := ⟨by decide, "CoverTwoModel", List.mem_of_getElem? (i := 13) rfl⟩
set_option maxRecDepth 100000 in
theorem pk_436 : mj_pok 10 258 2 9 8 := ⟨by decide, "CoverTwoModel", List.mem_of_getElem? (i := 14) rfl⟩
set_option maxRecDepth 100000 in
theorem pk_437 : mj_pok 10 261 2 9 20 := ⟨by decide, "CoverTwoModel", List.mem_of_getElem? (i := 15) rfl⟩
set_option maxRecDepth 100000 in
theorem pk_438 : mj_pok 10 264 2 9 21 := ⟨by decide, "CoverTwoModel", List.mem_of_getElem? (i := 16) rfl⟩
set_option maxRecDepth 100000 in
theorem pk_439 : mj_pok 10 267 4 196 0 := ⟨by decide, (mj_tb 1415 (by decide +kernel) rfl), (mj_tb 1417 (by decide +kernel) rfl), (mj_sb 48 (by decide +kernel) rfl)⟩
set_option maxRecDepth 100000 in
theorem pk_440 : mj_pok 10 270 4 186 0 := ⟨by decide, (mj_tb 1521 (by decide +kernel) rfl), (mj_tb 1523 (by decide +kernel) rfl), (mj_sb 66 (by decide +kernel) rfl)⟩
set_option maxRecDepth 100000 in
theorem pk_441 : mj_pok 10 273 2 9 3 := ⟨by decide, "CoverTwoModel", List.mem_of_getElem? (i := 17) rfl⟩
set_option maxRecDepth 100000 in
theorem pk_442 : mj_pok 10 276 4 197 0 := ⟨by decide, (mj_tb 1429 (by decide +kernel) rfl), (mj_tb 1431 (by decide +kernel) rfl), (mj_sb 50 (by decide +kernel) rfl)⟩
set_option maxRecDepth 100000 in
theorem pk_443 : mj_pok 10 279 4 198 0 := ⟨by decide, (mj_tb 1458 (by decide +kernel) rfl), (mj_tb 1460 (by decide +kernel) rfl), (mj_sb 55 (by decide +kernel) rfl)⟩
set_option maxRecDepth 100000 in
theorem pk_444 : mj_pok 10 282 4 199 0 := ⟨by decide, (mj_tb 1495 (by decide +kernel) rfl), (mj_tb 1497 (by decide +kernel) rfl), (mj_sb 61 (by decide +kernel) rfl)⟩
set_option maxRecDepth 100000 in
theorem pk_445 : mj_pok 10 285 4 200 0 := ⟨by decide, (mj_tb 1500 (by decide +kernel) rfl), (mj_tb 1502 (by decide +kernel) rfl), (mj_sb 62 (by decide +kernel) rfl)⟩
set_option maxRecDepth 100000 in
theorem pk_446 : mj_pok 10 288 4 202 0 := ⟨by decide, (mj_tb 1508 (by decide +kernel) rfl), (mj_tb 1510 (by decide +kernel) rfl), (mj_sb 63 (by decide +kernel) rfl)⟩
set_option maxRecDepth 100000 in
theorem pk_447 : mj_pok 10 291 4 203 0 := ⟨by decide, (mj_tb 1533 (by decide +kernel) rfl), (mj_tb 1535 (by decide +kernel) rfl), (mj_sb 67 (by decide +kernel) rfl)⟩
set_option maxRecDepth 100000 in
theorem pk_448 : mj_pok 10 294 12 6 0 := trivial
set_option maxRecDepth 100000 in
theorem pk_449 : mj_pok 10 295 4 189 0 := ⟨by decide, (mj_tb 1438 (by decide +kernel) rfl), (mj_tb 1440 (by decide +kernel) rfl), (mj_sb 52 (by decide +kernel) rfl)⟩
set_option maxRecDepth 100000 in
theorem pk_450 : mj_pok 10 299 12 7 0 := trivial
set_option maxRecDepth 100000 in
theorem pk_451 : mj_pok 10 300 12 8 0 := trivial
set_option maxRecDepth 100000 in
theorem pk_452 : mj_pok 10 301 12 9 0 := trivial
set_option maxRecDepth 100000 in
theorem pk_453 : mj_pok 10 303 12 10 0 := trivial
set_option maxRecDepth 100000 in
theorem pk_454 : mj_pok 10 305 4 191 0 := ⟨by decide, (mj_tb 1462 (by decide +kernel) rfl), (mj_tb 1464 (by decide +kernel) rfl), (mj_sb 56 (by decide +kernel) rfl)⟩
set_option maxRecDepth 100000 in
theorem pk_455 : mj_pok 10 309 4 192 0 := ⟨by decide, (mj_tb 1466 (by decide +kernel) rfl), (mj_tb 1468 (by decide +kernel) rfl), (mj_sb 57 (by decide +kernel) rfl)⟩
set_option maxRecDepth 100000 in
theorem pk_456 : mj_pok 10 313 12 14 0 := trivial
set_option maxRecDepth 100000 in
theorem pk_457 : mj_pok 10 315 4 185 0 := ⟨by decide, (mj_tb 1483 (by decide +kernel) rfl), (mj_tb 1485 (by decide +kernel) rfl), (mj_sb 59 (by decide +kernel) rfl)⟩
set_option maxRecDepth 100000 in
theorem pk_458 : mj_pok 10 318 12 15 0 := trivial
set_option maxRecDepth 100000 in
theorem pk_459 : mj_pok 10 320 12 16 0 := trivial
set_option maxRecDepth 100000 in
theorem pk_460 : mj_pok 10 322 12 17 0 := trivial
set_option maxRecDepth 100000 in
theorem pk_461 : mj_pok 10 324 12 11 0 := trivial
set_option maxRecDepth 100000 in
theorem pk_462 : mj_pok 10 325 2 9 12 := ⟨by decide, "CoverTwoModel", List.mem_of_getElem? (i := 18) rfl⟩
set_option maxRecDepth 100000 in
theorem pk_463 : mj_pok 10 328 4 193 0 := ⟨by decide, (mj_tb 1491 (by decide +kernel) rfl), (mj_tb 1493 (by decide +kernel) rfl), (mj_sb 60 (by decide +kernel) rfl)⟩
set_option maxRecDepth 100000 in
theorem pk_464 : mj_pok 10 331 2 9 4 := ⟨by decide, "CoverTwoModel", List.mem_of_getElem? (i := 19) rfl⟩
set_option maxRecDepth 100000 in
theorem pk_465 : mj_pok 10 334 12 12 0 := trivial
set_option maxRecDepth 100000 in
theorem pk_466 : mj_pok 10 336 2 9 17 := ⟨by decide, "CoverTwoModel", List.mem_of_getElem? (i := 20) rfl⟩
set_option maxRecDepth 100000 in
theorem pk_467 : mj_pok 10 338 4 159 0 := ⟨by decide, (mj_tb 1504 (by decide +kernel) rfl), (mj_tb 1505 (by decide +kernel) rfl), (mj_tb 1506 (by decide +kernel) rfl)⟩
set_option maxRecDepth 100000 in
theorem pk_468 : mj_pok 10 341 2 9 18 := ⟨by decide, "CoverTwoModel", List.mem_of_getElem? (i := 21) rfl⟩
set_option maxRecDepth 100000 in
theorem pk_469 : mj_pok 10 344 4 194 0 := ⟨by decide, (mj_tb 1516 (by decide +kernel) rfl), (mj_tb 1518 (by decide +kernel) rfl), (mj_sb 65 (by decide +kernel) rfl)⟩
set_option maxRecDepth 100000 in
theorem pk_470 : mj_pok 10 347 12 18 0 := trivial
set_option maxRecDepth 100000 in
theorem pk_471 : mj_pok 10 349 1 10 22 := ⟨by decide, (mj_tb 1175 (by decide +kernel) rfl)⟩
set_option maxRecDepth 100000 in
theorem pk_472 : mj_pok 10 352 1 10 23 := ⟨by decide, (mj_tb 1176 (by decide +kernel) rfl)⟩
set_option maxRecDepth 100000 in
theorem pk_473 : mj_pok 10 355 2 9 6 := ⟨by decide, "CoverTwoModel", List.mem_of_getElem? (i := 22) rfl⟩
set_option maxRecDepth 100000 in
theorem pk_474 : mj_pok 10 358 2 9 7 := ⟨by decide, "CoverTwoModel", List.mem_of_getElem? (i := 23) rfl⟩
set_option maxRecDepth 100000 in
theorem pk_475 : mj_pok 10 361 4 201 0 := ⟨by decide, (mj_tb 1512 (by decide +kernel) rfl), (mj_tb 1514 (by decide +kernel) rfl), (mj_sb 64 (by decide +kernel) rfl)⟩
set_option maxRecDepth 100000 in
theorem pk_476 : mj_pok 10 364 1 10 6 := ⟨by decide, (mj_tb 1159 (by decide +kernel) rfl)⟩
set_option maxRecDepth 100000 in
theorem pk_477 : mj_pok 10 368 12 13 0 := trivial
set_option maxRecDepth 100000 in
theorem pk_478 : mj_pok 10 370 4 177 0 := ⟨by decide, (mj_tb 1538 (by decide +kernel) rfl), (mj_tb 1540 (by decide +kernel) rfl), (mj_sb 68 (by decide +kernel) rfl)⟩
set_option maxRecDepth 100000 in
theorem pk_479 : mj_pok 10 373 1 10 10 := ⟨by decide, (mj_tb 1163 (by decide +kernel) rfl)⟩
set_option maxRecDepth 100000 in
theorem pk_480 : mj_pok 10 376 7 157 0 := ⟨by decide, "CoverTwoModel", List.mem_of_getElem? (i := 9) rfl, (mj_tb 1296 (by decide +kernel) rfl), rfl⟩
set_option maxRecDepth 100000 in
theorem pk_481 : mj_pok 10 377 7 152 0 := ⟨by decide, "CoverTwoModel", List.mem_of_getElem? (i := 10) rfl, (mj_tb 1384 (by decide +kernel) rfl), rfl⟩
set_option maxRecDepth 100000 in
theorem pk_482 : mj_pok 10 378 4 195 0 := ⟨by decide, (mj_tb 1411 (by decide +kernel) rfl), (mj_tb 1413 (by decide +kernel) rfl), (mj_sb 47 (by decide +kernel) rfl)⟩
set_option maxRecDepth 100000 in
theorem pk_483 : mj_pok 10 381 1 10 3 := ⟨by decide, (mj_tb 1156 (by decide +kernel) rfl)⟩
set_option maxRecDepth 100000 in
theorem pk_484 : mj_pok 10 383 1 10 5 := ⟨by decide, (mj_tb 1158 (by decide +kernel) rfl)⟩
set_option maxRecDepth 100000 in
theorem pk_485 : mj_pok 10 386 1 10 26 := ⟨by decide, (mj_tb 1179 (by decide +kernel) rfl)⟩
set_option maxRecDepth 100000 in
theorem pk_486 : mj_pok 10 389 1 10 27 := ⟨by decide, (mj_tb 1180 (by decide +kernel) rfl)⟩
set_option maxRecDepth 100000 in
theorem pk_487 : mj_pok 10 392 4 212 0 := ⟨by decide, (mj_tb 1650 (by decide +kernel) rfl), (mj_tb 1652 (by decide +kernel) rfl), (mj_sb 82 (by decide +kernel) rfl)⟩
set_option maxRecDepth 100000 in
theorem pk_488 : mj_pok 10 395 4 208 0 := ⟨by decide, (mj_tb 1599 (by decide +kernel) rfl), (mj_tb 1601 (by decide +kernel) rfl), (mj_sb 78 (by decide +kernel) rfl)⟩
set_option maxRecDepth 100000 in
theorem pk_489 : mj_pok 10 398 4 210 0 := ⟨by decide, (mj_tb 1611 (by decide +kernel) rfl), (mj_tb 1613 (by decide +kernel) rfl), (mj_sb 79 (by decide +kernel) rfl)⟩
set_option maxRecDepth 100000 in
theorem pk_490 : mj_pok 10 401 5 170 0 := ⟨by decide, (mj_tb 1615 (by decide +kernel) rfl), (mj_tb 1616 (by decide +kernel) rfl)⟩
set_option maxRecDepth 100000 in
theorem pk_491 : mj_pok 10 404 4 211 0 := ⟨by decide, (mj_tb 1622 (by decide +kernel) rfl), (mj_tb 1624 (by decide +kernel) rfl), (mj_sb 80 (by decide +kernel) rfl)⟩
set_option maxRecDepth 100000 in
theorem pk_492 : mj_pok 10 408 4 224 0 := ⟨by decide, (mj_tb 1646 (by decide +kernel) rfl), (mj_tb 1648 (by decide +kernel) rfl), (mj_sb 81 (by decide +kernel) rfl)⟩
set_option maxRecDepth 100000 in
theorem pk_493 : mj_pok 10 412 4 215 0 := ⟨by decide, (mj_tb 1662 (by decide +kernel) rfl), (mj_tb 1664 (by decide +kernel) rfl), (mj_sb 83 (by decide +kernel) rfl)⟩
set_option maxRecDepth 100000 in
theorem pk_494 : mj_pok 10 414 4 214 0 := ⟨by decide, (mj_tb 1666 (by decide +kernel) rfl), (mj_tb 1668 (by decide +kernel) rfl), (mj_sb 84 (by decide +kernel) rfl)⟩
set_option maxRecDepth 100000 in
theorem pk_495 : mj_pok 10 417 4 213 0 := ⟨by decide, (mj_tb 1670 (by decide +kernel) rfl), (mj_tb 1672 (by decide +kernel) rfl), (mj_sb 85 (by decide +kernel) rfl)⟩
set_option maxRecDepth 100000 in
theorem pk_496 : mj_pok 10 420 4 229 0 := ⟨by decide, (mj_tb 1682 (by decide +kernel) rfl), (mj_tb 1684 (by decide +kernel) rfl), (mj_sb 86 (by decide +kernel) rfl)⟩
set_option maxRecDepth 100000 in
theorem pk_497 : mj_pok 10 423 4 209 0 := ⟨by decide, (mj_tb 1694 (by decide +kernel) rfl), (mj_tb 1696 (by decide +kernel) rfl), (mj_sb 87 (by decide +kernel) rfl)⟩
set_option maxRecDepth 100000 in
theorem pk_498 : mj_pok 10 426 4 164 0 := ⟨by decide, (mj_tb 1698 (by decide +kernel) rfl), (mj_tb 1700 (by decide +kernel) rfl), (mj_sb 88 (by decide +kernel) rfl)⟩
set_option maxRecDepth 100000 in
theorem pk_499 : mj_pok 10 429 4 232 0 := ⟨by decide, (mj_tb 1702 (by decide +kernel) rfl), (mj_tb 1704 (by decide +kernel) rfl), (mj_sb 89 (by decide +kernel) rfl)⟩
set_option maxRecDepth 100000 in
theorem pk_500 : mj_pok 10 432 4 166 0 := ⟨by decide, (mj_tb 1706 (by decide +kernel) rfl), (mj_tb 1708 (by decide +kernel) rfl), (mj_sb 90 (by decide +kernel) rfl)⟩
set_option maxRecDepth 100000 in
theorem pk_501 : mj_pok 10 435 4 237 0 := ⟨by decide, (mj_tb 1726 (by decide +kernel) rfl), (mj_tb 1728 (by decide +kernel) rfl), (mj_sb 91 (by decide +kernel) rfl)⟩
set_option maxRecDepth 100000 in
theorem pk_502 : mj_pok 10 438 4 156 0 := ⟨by decide, (mj_tb 1738 (by decide +kernel) rfl), (mj_tb 1739 (by decide +kernel) rfl), (mj_tb 1740 (by decide +kernel) rfl)⟩
set_option maxRecDepth 100000 in
theorem pk_503 : mj_pok 10 442 4 241 0 := ⟨by decide, (mj_tb 1746 (by decide +kernel) rfl), (mj_tb 1748 (by decide +kernel) rfl), (mj_sb 92 (by decide +kernel) rfl)⟩
set_option maxRecDepth 100000 in
theorem pk_504 : mj_pok 10 445 4 243 0 := ⟨by decide, (mj_tb 1754 (by decide +kernel) rfl), (mj_tb 1756 (by decide +kernel) rfl), (mj_sb 93 (by decide +kernel) rfl)⟩
set_option maxRecDepth 100000 in
theorem pk_505 : mj_pok 10 448 4 247 0 := ⟨by decide, (mj_tb 1774 (by decide +kernel) rfl), (mj_tb 1776 (by decide +kernel) rfl), (mj_sb 95 (by decide +kernel) rfl)⟩
set_option maxRecDepth 100000 in
theorem pk_506 : mj_pok 10 452 4 248 0 := ⟨by decide, (mj_tb 1778 (by decide +kernel) rfl), (mj_tb 1780 (by decide +kernel) rfl), (mj_sb 96 (by decide +kernel) rfl)⟩
set_option maxRecDepth 100000 in
theorem pk_507 : mj_pok 10 455 4 249 0 := ⟨by decide, (mj_tb 1770 (by decide +kernel) rfl), (mj_tb 1772 (by decide +kernel) rfl), (mj_sb 94 (by decide +kernel) rfl)⟩
set_option maxRecDepth 100000 in
theorem pk_508 : mj_pok 10 458 1 10 28 := ⟨by decide, (mj_tb 1181 (by decide +kernel) rfl)⟩
set_option maxRecDepth 100000 in
theorem pk_509 : mj_pok 10 461 1 10 29 := ⟨by decide, (mj_tb 1182 (by decide +kernel) rfl)⟩
set_option maxRecDepth 100000 in
theorem pk_510 : mj_pok 10 464 4 252 0 := ⟨by decide, (mj_tb 1798 (by decide +kernel) rfl), (mj_tb 1800 (by decide +kernel) rfl), (mj_sb 99 (by decide +kernel) rfl)⟩
set_option maxRecDepth 100000 in
theorem pk_511 : mj_pok 10 467 1 10 30 := ⟨by decide, (mj_tb 1183 (by decide +kernel) rfl)⟩
set_option maxRecDepth 100000 in
theorem pk_512 : mj_pok 10 470 4 253 0 := ⟨by decide, (mj_tb 1794 (by decide +kernel) rfl), (mj_tb 1796 (by decide +kernel) rfl), (mj_sb 98 (by decide +kernel) rfl)⟩
set_option maxRecDepth 100000 in
theorem pk_513 : mj_pok 10 473 4 254 0 := ⟨by decide, (mj_tb 1790 (by decide +kernel) rfl), (mj_tb 1792 (by decide +kernel) rfl), (mj_sb 97 (by decide +kernel) rfl)⟩
set_option maxRecDepth 100000 in
theorem pk_514 : mj_pok 10 476 4 258 0 := ⟨by decide, (mj_tb 1814 (by decide +kernel) rfl), (mj_tb 1816 (by decide +kernel) rfl), (mj_sb 101 (by decide +kernel) rfl)⟩
set_option maxRecDepth 100000 in
theorem pk_515 : mj_pok 10 479 4 257 0 := ⟨by decide, (mj_tb 1810 (by decide +kernel) rfl), (mj_tb 1812 (by decide +kernel) rfl), (mj_sb 100 (by decide +kernel) rfl)⟩
set_option maxRecDepth 100000 in
theorem pk_516 : mj_pok 10 482 1 10 31 := ⟨by decide, (mj_tb 1184 (by decide +kernel) rfl)⟩
set_option maxRecDepth 100000 in
theorem pk_517 : mj_pok 10 485 4 260 0 := ⟨by decide, (mj_tb 1826 (by decide +kernel) rfl), (mj_tb 1828 (by decide +kernel) rfl), (mj_sb 103 (by decide +kernel) rfl)⟩
set_option maxRecDepth 100000 in
theorem pk_518 : mj_pok 10 488 4 261 0 := ⟨by decide, (mj_tb 1822 (by decide +kernel) rfl), (mj_tb 1824 (by decide +kernel) rfl), (mj_sb 102 (by decide +kernel) rfl)⟩
set_option maxRecDepth 100000 in
theorem pk_519 : mj_pok 10 491 4 263 0 := ⟨by decide, (mj_tb 1834 (by decide +kernel) rfl), (mj_tb 1836 (by decide +kernel) rfl), (mj_sb 104 (by decide +kernel) rfl)⟩
set_option maxRecDepth 100000 in
theorem pk_520 : mj_pok 10 495 1 10 37 := ⟨by decide, (mj_tb 1190 (by decide +kernel) rfl)⟩
set_option maxRecDepth 100000 in
theorem pk_521 : mj_pok 10 498 1 10 38 := ⟨by decide, (mj_tb 1191 (by decide +kernel) rfl)⟩
set_option maxRecDepth 100000 in
theorem pk_522 : mj_pok 10 501 1 10 39 := ⟨by decide, (mj_tb 1192 (by decide +kernel) rfl)⟩
set_option maxRecDepth 100000 in
theorem pk_523 : mj_pok 10 504 4 266 0 := ⟨by decide, (mj_tb 1846 (by decide +kernel) rfl), (mj_tb 1848 (by decide +kernel) rfl), (mj_sb 106 (by decide +kernel) rfl)⟩
set_option maxRecDepth 100000 in
theorem pk_524 : mj_pok 10 507 4 267 0 := ⟨by decide, (mj_tb 1850 (by decide +kernel) rfl), (mj_tb 1852 (by decide +kernel) rfl), (mj_sb 107 (by decide +kernel) rfl)⟩
set_option maxRecDepth 100000 in
theorem pk_525 : mj_pok 10 510 4 265 0 := ⟨by decide, (mj_tb 1842 (by decide +kernel) rfl), (mj_tb 1844 (by decide +kernel) rfl), (mj_sb 105 (by decide +kernel) rfl)⟩
set_option maxRecDepth 100000 in
theorem pk_526 : mj_pok 11 7 4 139 0 := ⟨by decide, (mj_tb 1074 (by decide +kernel) rfl), (mj_tb 1075 (by decide +kernel) rfl), (mj_tb 1076 (by decide +kernel) rfl)⟩
set_option maxRecDepth 100000 in
theorem pk_527 : mj_pok 11 8 3 7 0 := ⟨by decide, (mj_tb 23 (by decide +kernel) rfl), (mj_tb 24 (by decide +kernel) rfl), (mj_tb 1 (by decide +kernel) rfl)⟩
set_option maxRecDepth 100000 in
theorem pk_528 : mj_pok 11 15 6 98 0 := ⟨by decide, (mj_tb 25 (by decide +kernel) rfl), (mj_tb 26 (by decide +kernel) rfl), rfl⟩
set_option maxRecDepth 100000 in
theorem pk_529 : mj_pok 11 16 3 10 0 := ⟨by decide, (mj_tb 1147 (by decide +kernel) rfl), (mj_tb 1148 (by decide +kernel) rfl), (mj_tb 10 (by decide +kernel) rfl)⟩
set_option maxRecDepth 100000 in
theorem pk_530 : mj_pok 11 18 6 161 0 := ⟨by decide, (mj_tb 1149 (by decide +kernel) rfl), (mj_tb 1150 (by decide +kernel) rfl), rfl⟩
set_option maxRecDepth 100000 in
theorem pk_531 : mj_pok 11 19 4 99 0 := ⟨by decide, (mj_tb 386 (by decide +kernel) rfl), (mj_tb 387 (by decide +kernel) rfl), (mj_tb 388 (by decide +kernel) rfl)⟩
set_option maxRecDepth 100000 in
theorem pk_532 : mj_pok 11 23 4 204 0 := ⟨by decide, (mj_tb 1281 (by decide +kernel) rfl), (mj_tb 1282 (by decide +kernel) rfl), (mj_tb 1283 (by decide +kernel) rfl)⟩
set_option maxRecDepth 100000 in
theorem pk_533 : mj_pok 11 24 4 100 0 := ⟨by decide, (mj_tb 394 (by decide +kernel) rfl), (mj_tb 395 (by decide +kernel) rfl), (mj_tb 396 (by decide +kernel) rfl)⟩
set_option maxRecDepth 100000 in
theorem pk_534 : mj_pok 11 27 4 205 0 := ⟨by decide, (mj_tb 1285 (by decide +kernel) rfl), (mj_tb 1286 (by decide +kernel) rfl), (mj_tb 1287 (by decide +kernel) rfl)⟩
set_option maxRecDepth 100000 in
theorem pk_535 : mj_pok 11 28 4 101 0 := ⟨by decide, (mj_tb 679 (by decide +kernel) rfl), (mj_tb 680 (by decide +kernel) rfl), (mj_tb 681 (by decide +kernel) rfl)⟩
set_option maxRecDepth 100000 in
theorem pk_536 : mj_pok 11 32 4 206 0 := ⟨by decide, (mj_tb 1587 (by decide +kernel) rfl), (mj_tb 1588 (by decide +kernel) rfl), (mj_tb 1589 (by decide +kernel) rfl)⟩
set_option maxRecDepth 100000 in
theorem pk_537 : mj_pok 11 33 4 102 0 := ⟨by decide, (mj_tb 683 (by decide +kernel) rfl), (mj_tb 684 (by decide +kernel) rfl), (mj_tb 685 (by decide +kernel) rfl)⟩
set_option maxRecDepth 100000 in
theorem pk_538 : mj_pok 11 36 4 207 0 := ⟨by decide, (mj_tb 1591 (by decide +kernel) rfl), (mj_tb 1592 (by decide +kernel) rfl), (mj_tb 1593 (by decide +kernel) rfl)⟩
set_option maxRecDepth 100000 in
theorem pk_539 : mj_pok 11 37 4 103 0 := ⟨by decide, (mj_tb 687 (by decide +kernel) rfl), (mj_tb 688 (by decide +kernel) rfl), (mj_tb 689 (by decide +kernel) rfl)⟩
set_option maxRecDepth 100000 in
theorem pk_540 : mj_pok 11 41 4 216 0 := ⟨by decide, (mj_tb 1595 (by decide +kernel) rfl), (mj_tb 1596 (by decide +kernel) rfl), (mj_tb 1597 (by decide +kernel) rfl)⟩
set_option maxRecDepth 100000 in
theorem pk_541 : mj_pok 11 42 4 104 0 := ⟨by decide, (mj_tb 695 (by decide +kernel) rfl), (mj_tb 696 (by decide +kernel) rfl), (mj_tb 697 (by decide +kernel) rfl)⟩
set_option maxRecDepth 100000 in
theorem pk_542 : mj_pok 11 45 4 217 0 := ⟨by decide, (mj_tb 1603 (by decide +kernel) rfl), (mj_tb 1604 (by decide +kernel) rfl), (mj_tb 1605 (by decide +kernel) rfl)⟩
set_option maxRecDepth 100000 in
theorem pk_543 : mj_pok 11 46 4 105 0 := ⟨by decide, (mj_tb 703 (by decide +kernel) rfl), (mj_tb 704 (by decide +kernel) rfl), (mj_tb 705 (by decide +kernel) rfl)⟩
set_option maxRecDepth 100000 in
theorem pk_544 : mj_pok 11 49 4 218 0 := ⟨by decide, (mj_tb 1607 (by decide +kernel) rfl), (mj_tb 1608 (by decide +kernel) rfl), (mj_tb 1609 (by decide +kernel) rfl)⟩
set_option maxRecDepth 100000 in
theorem pk_545 : mj_pok 11 50 4 106 0 := ⟨by decide, (mj_tb 717 (by decide +kernel) rfl), (mj_tb 718 (by decide +kernel) rfl), (mj_tb 719 (by decide +kernel) rfl)⟩
set_option maxRecDepth 100000 in
theorem pk_546 : mj_pok 11 53 4 219 0 := ⟨by decide, (mj_tb 1618 (by decide +kernel) rfl), (mj_tb 1619 (by decide +kernel) rfl), (mj_tb 1620 (by decide +kernel) rfl)⟩
set_option maxRecDepth 100000 in
theorem pk_547 : mj_pok 11 54 4 107 0 := ⟨by decide, (mj_tb 733 (by decide +kernel) rfl), (mj_tb 734 (by decide +kernel) rfl), (mj_tb 735 (by decide +kernel) rfl)⟩
set_option maxRecDepth 100000 in
theorem pk_548 : mj_pok 11 57 4 220 0 := ⟨by decide, (mj_tb 1626 (by decide +kernel) rfl), (mj_tb 1627 (by decide +kernel) rfl), (mj_tb 1628 (by decide +kernel) rfl)⟩
set_option maxRecDepth 100000 in
theorem pk_549 : mj_pok 11 58 4 108 0 := ⟨by decide, (mj_tb 742 (by decide +kernel) rfl), (mj_tb 743 (by decide +kernel) rfl), (mj_tb 744 (by decide +kernel) rfl)⟩
set_option maxRecDepth 100000 in
theorem pk_550 : mj_pok 11 61 4 222 0 := ⟨by decide, (mj_tb 1634 (by decide +kernel) rfl), (mj_tb 1635 (by decide +kernel) rfl), (mj_tb 1636 (by decide +kernel) rfl)⟩
set_option maxRecDepth 100000 in
theorem pk_551 : mj_pok 11 62 4 109 0 := ⟨by decide, (mj_tb 750 (by decide +kernel) rfl), (mj_tb 751 (by decide +kernel) rfl), (mj_tb 752 (by decide +kernel) rfl)⟩
set_option maxRecDepth 100000 in
theorem pk_552 : mj_pok 11 65 4 223 0 := ⟨by decide, (mj_tb 1638 (by decide +kernel) rfl), (mj_tb 1639 (by decide +kernel) rfl), (mj_tb 1640 (by decide +kernel) rfl)⟩
set_option maxRecDepth 100000 in
theorem pk_553 : mj_pok 11 66 4 110 0 := ⟨by decide, (mj_tb 754 (by decide +kernel) rfl), (mj_tb 755 (by decide +kernel) rfl), (mj_tb 756 (by decide +kernel) rfl)⟩
set_option maxRecDepth 100000 in
theorem pk_554 : mj_pok 11 70 4 221 0 := ⟨by decide, (mj_tb 1630 (by decide +kernel) rfl), (mj_tb 1631 (by decide +kernel) rfl), (mj_tb 1632 (by decide +kernel) rfl)⟩
set_option maxRecDepth 100000 in
theorem pk_555 : mj_pok 11 71 4 111 0 := ⟨by decide, (mj_tb 759 (by decide +kernel) rfl), (mj_tb 760 (by decide +kernel) rfl), (mj_tb 761 (by decide +kernel) rfl)⟩
set_option maxRecDepth 100000 in
theorem pk_556 : mj_pok 11 74 4 225 0 := ⟨by decide, (mj_tb 1642 (by decide +kernel) rfl), (mj_tb 1643 (by decide +kernel) rfl), (mj_tb 1644 (by decide +kernel) rfl)⟩
set_option maxRecDepth 100000 in
theorem pk_557 : mj_pok 11 75 4 112 0 := ⟨by decide, (mj_tb 771 (by decide +kernel) rfl), (mj_tb 772 (by decide +kernel) rfl), (mj_tb 773 (by decide +kernel) rfl)⟩
set_option maxRecDepth 100000 in
theorem pk_558 : mj_pok 11 78 4 226 0 := ⟨by decide, (mj_tb 1654 (by decide +kernel) rfl), (mj_tb 1655 (by decide +kernel) rfl), (mj_tb 1656 (by decide +kernel) rfl)⟩
set_option maxRecDepth 100000 in
theorem pk_559 : mj_pok 11 79 4 113 0 := ⟨by decide, (mj_tb 776 (by decide +kernel) rfl), (mj_tb 777 (by decide +kernel) rfl), (mj_tb 778 (by decide +kernel) rfl)⟩
set_option maxRecDepth 100000 in
theorem pk_560 : mj_pok 11 82 4 227 0 := ⟨by decide, (mj_tb 1658 (by decide +kernel) rfl), (mj_tb 1659 (by decide +kernel) rfl), (mj_tb 1660 (by decide +kernel) rfl)⟩
set_option maxRecDepth 100000 in
theorem pk_561 : mj_pok 11 83 4 114 0 := ⟨by decide, (mj_tb 789 (by decide +kernel) rfl), (mj_tb 790 (by decide +kernel) rfl), (mj_tb 791 (by decide +kernel) rfl)⟩
set_option maxRecDepth 100000 in
theorem pk_562 : mj_pok 11 86 4 228 0 := ⟨by decide, (mj_tb 1674 (by decide +kernel) rfl), (mj_tb 1675 (by decide +kernel) rfl), (mj_tb 1676 (by decide +kernel) rfl)⟩
set_option maxRecDepth 100000 in
theorem pk_563 : mj_pok 11 87 4 115 0 := ⟨by decide, (mj_tb 797 (by decide +kernel) rfl), (mj_tb 798 (by decide +kernel) rfl), (mj_tb 799 (by decide +kernel) rfl)⟩
set_option maxRecDepth 100000 in
theorem pk_564 : mj_pok 11 90 4 230 0 := ⟨by decide, (mj_tb 1678 (by decide +kernel) rfl), (mj_tb 1679 (by decide +kernel) rfl), (mj_tb 1680 (by decide +kernel) rfl)⟩
set_option maxRecDepth 100000 in
theorem pk_565 : mj_pok 11 91 4 116 0 := ⟨by decide, (mj_tb 806 (by decide +kernel) rfl), (mj_tb 807 (by decide +kernel) rfl), (mj_tb 808 (by decide +kernel) rfl)⟩
set_option maxRecDepth 100000 in
theorem pk_566 : mj_pok 11 95 4 231 0 := ⟨by decide, (mj_tb 1686 (by decide +kernel) rfl), (mj_tb 1687 (by decide +kernel) rfl), (mj_tb 1688 (by decide +kernel) rfl)⟩
set_option maxRecDepth 100000 in
theorem pk_567 : mj_pok 11 96 4 117 0 := ⟨by decide, (mj_tb 810 (by decide +kernel) rfl), (mj_tb 811 (by decide +kernel) rfl), (mj_tb 812 (by decide +kernel) rfl)⟩
set_option maxRecDepth 100000 in
theorem pk_568 : mj_pok 11 100 4 233 0 := ⟨by decide, (mj_tb 1690 (by decide +kernel) rfl), (mj_tb 1691 (by decide +kernel) rfl), (mj_tb 1692 (by decide +kernel) rfl)⟩
set_option maxRecDepth 100000 in
theorem pk_569 : mj_pok 11 101 4 118 0 := ⟨by decide, (mj_tb 842 (by decide +kernel) rfl), (mj_tb 843 (by decide +kernel) rfl), (mj_tb 844 (by decide +kernel) rfl)⟩
set_option maxRecDepth 100000 in
theorem pk_570 : mj_pok 11 105 4 234 0 := ⟨by decide, (mj_tb 1710 (by decide +kernel) rfl), (mj_tb 1711 (by decide +kernel) rfl), (mj_tb 1712 (by decide +kernel) rfl)⟩
set_option maxRecDepth 100000 in
theorem pk_571 : mj_pok 11 106 4 119 0 := ⟨by decide, (mj_tb 850 (by decide +kernel) rfl), (mj_tb 851 (by decide +kernel) rfl), (mj_tb 852 (by decide +kernel) rfl)⟩
set_option maxRecDepth 100000 in
theorem pk_572 : mj_pok 11 110 4 235 0 := ⟨by decide, (mj_tb 1714 (by decide +kernel) rfl), (mj_tb 1715 (by decide +kernel) rfl), (mj_tb 1716 (by decide +kernel) rfl)⟩
set_option maxRecDepth 100000 in
theorem pk_573 : mj_pok 11 111 4 120 0 := ⟨by decide, (mj_tb 860 (by decide +kernel) rfl), (mj_tb 861 (by decide +kernel) rfl), (mj_tb 862 (by decide +kernel) rfl)⟩
set_option maxRecDepth 100000 in
theorem pk_574 : mj_pok 11 114 4 236 0 := ⟨by decide, (mj_tb 1718 (by decide +kernel) rfl), (mj_tb 1719 (by decide +kernel) rfl), (mj_tb 1720 (by decide +kernel) rfl)⟩
set_option maxRecDepth 100000 in
theorem pk_575 : mj_pok 11 115 4 121 0 := ⟨by decide, (mj_tb 864 (by decide +kernel) rfl), (mj_tb 865 (by decide +kernel) rfl), (mj_tb 866 (by decide +kernel) rfl)⟩
set_option maxRecDepth 100000 in
theorem pk_576 : mj_pok 11 118 4 238 0 := ⟨by decide, (mj_tb 1722 (by decide +kernel) rfl), (mj_tb 1723 (by decide +kernel) rfl), (mj_tb 1724 (by decide +kernel) rfl)⟩
set_option maxRecDepth 100000 in
theorem pk_577 : mj_pok 11 119 4 122 0 := ⟨by decide, (mj_tb 872 (by decide +kernel) rfl), (mj_tb 873 (by decide +kernel) rfl), (mj_tb 874 (by decide +kernel) rfl)⟩
set_option maxRecDepth 100000 in
theorem pk_578 : mj_pok 11 122 4 239 0 := ⟨by decide, (mj_tb 1730 (by decide +kernel) rfl), (mj_tb 1731 (by decide +kernel) rfl), (mj_tb 1732 (by decide +kernel) rfl)⟩
set_option maxRecDepth 100000 in
theorem pk_579 : mj_pok 11 123 4 123 0 := ⟨by decide, (mj_tb 876 (by decide +kernel) rfl), (mj_tb 877 (by decide +kernel) rfl), (mj_tb 878 (by decide +kernel) rfl)⟩
set_option maxRecDepth 100000 in
theorem pk_580 : mj_pok 11 126 4 240 0 := ⟨by decide, (mj_tb 1734 (by decide +kernel) rfl), (mj_tb 1735 (by decide +kernel) rfl), (mj_tb 1736 (by decide +kernel) rfl)⟩
set_option maxRecDepth 100000 in
theorem pk_581 : mj_pok 11 127 4 124 0 := ⟨by decide, (mj_tb 893 (by decide +kernel) rfl), (mj_tb 894 (by decide +kernel) rfl), (mj_tb 895 (by decide +kernel) rfl)⟩
set_option maxRecDepth 100000 in
theorem pk_582 : mj_pok 11 130 4 242 0 := ⟨by decide, (mj_tb 1742 (by decide +kernel) rfl), (mj_tb 1743 (by decide +kernel) rfl), (mj_tb 1744 (by decide +kernel) rfl)⟩
set_option maxRecDepth 100000 in
theorem pk_583 : mj_pok 11 131 4 125 0 := ⟨by decide, (mj_tb 905 (by decide +kernel) rfl), (mj_tb 906 (by decide +kernel) rfl), (mj_tb 907 (by decide +kernel) rfl)⟩
set_option maxRecDepth 100000 in
theorem pk_584 : mj_pok 11 134 4 244 0 := ⟨by decide, (mj_tb 1750 (by decide +kernel) rfl), (mj_tb 1751 (by decide +kernel) rfl), (mj_tb 1752 (by decide +kernel) rfl)⟩
set_option maxRecDepth 100000 in
theorem pk_585 : mj_pok 11 135 4 126 0 := ⟨by decide, (mj_tb 917 (by decide +kernel) rfl), (mj_tb 918 (by decide +kernel) rfl), (mj_tb 919 (by decide +kernel) rfl)⟩
set_option maxRecDepth 100000 in
theorem pk_586 : mj_pok 11 138 4 245 0 := ⟨by decide, (mj_tb 1758 (by decide +kernel) rfl), (mj_tb 1759 (by decide +kernel) rfl), (mj_tb 1760 (by decide +kernel) rfl)⟩
set_option maxRecDepth 100000 in
theorem pk_587 : mj_pok 11 139 4 127 0 := ⟨by decide, (mj_tb 921 (by decide +kernel) rfl), (mj_tb 922 (by decide +kernel) rfl), (mj_tb 923 (by decide +kernel) rfl)⟩
set_option maxRecDepth 100000 in
theorem pk_588 : mj_pok 11 142 4 246 0 := ⟨by decide, (mj_tb 1762 (by decide +kernel) rfl), (mj_tb 1763 (by decide +kernel) rfl), (mj_tb 1764 (by decide +kernel) rfl)⟩
set_option maxRecDepth 100000 in
theorem pk_589 : mj_pok 11 143 4 128 0 := ⟨by decide, (mj_tb 929 (by decide +kernel) rfl), (mj_tb 930 (by decide +kernel) rfl), (mj_tb 931 (by decide +kernel) rfl)⟩
set_option maxRecDepth 100000 in
theorem pk_590 : mj_pok 11 146 4 250 0 := ⟨by decide, (mj_tb 1766 (by decide +kernel) rfl), (mj_tb 1767 (by decide +kernel) rfl), (mj_tb 1768 (by decide +kernel) rfl)⟩
set_option maxRecDepth 100000 in
theorem pk_591 : mj_pok 11 147 4 129 0 := ⟨by decide, (mj_tb 956 (by decide +kernel) rfl), (mj_tb 957 (by decide +kernel) rfl), (mj_tb 958 (by decide +kernel) rfl)⟩
set_option maxRecDepth 100000 in
theorem pk_592 : mj_pok 11 150 4 251 0 := ⟨by decide, (mj_tb 1782 (by decide +kernel) rfl), (mj_tb 1783 (by decide +kernel) rfl), (mj_tb 1784 (by decide +kernel) rfl)⟩
set_option maxRecDepth 100000 in
theorem pk_593 : mj_pok 11 151 4 130 0 := ⟨by decide, (mj_tb 966 (by decide +kernel) rfl), (mj_tb 967 (by decide +kernel) rfl), (mj_tb 968 (by decide +kernel) rfl)⟩
set_option maxRecDepth 100000 in
theorem pk_594 : mj_pok 11 154 4 255 0 := ⟨by decide, (mj_tb 1786 (by decide +kernel) rfl), (mj_tb 1787 (by decide +kernel) rfl), (mj_tb 1788 (by decide +kernel) rfl)⟩
set_option maxRecDepth 100000 in
theorem pk_595 : mj_pok 11 155 4 131 0 := ⟨by decide, (mj_tb 988 (by decide +kernel) rfl), (mj_tb 989 (by decide +kernel) rfl), (mj_tb 990 (by decide +kernel) rfl)⟩
set_option maxRecDepth 100000 in
theorem pk_596 : mj_pok 11 158 4 256 0 := ⟨by decide, (mj_tb 1802 (by decide +kernel) rfl), (mj_tb 1803 (by decide +kernel) rfl), (mj_tb 1804 (by decide +kernel) rfl)⟩
set_option maxRecDepth 100000 in
theorem pk_597 : mj_pok 11 159 4 132 0 := ⟨by decide, (mj_tb 1007 (by decide +kernel) rfl), (mj_tb 1008 (by decide +kernel) rfl), (mj_tb 1009 (by decide +kernel) rfl)⟩
set_option maxRecDepth 100000 in
theorem pk_598 : mj_pok 11 162 4 259 0 := ⟨by decide, (mj_tb 1806 (by decide +kernel) rfl), (mj_tb 1807 (by decide +kernel) rfl), (mj_tb 1808 (by decide +kernel) rfl)⟩
set_option maxRecDepth 100000 in
theorem pk_599 : mj_pok 11 163 4 133 0 := ⟨by decide, (mj_tb 1019 (by decide +kernel) rfl), (mj_tb 1020 (by decide +kernel) rfl), (mj_tb 1021 (by decide +kernel) rfl)⟩
set_option maxRecDepth 100000 in
theorem pk_600 : mj_pok 11 166 4 262 0 := ⟨by decide, (mj_tb 1818 (by decide +kernel) rfl), (mj_tb 1819 (by decide +kernel) rfl), (mj_tb 1820 (by decide +kernel) rfl)⟩
set_option maxRecDepth 100000 in
theorem pk_601 : mj_pok 11 167 4 134 0 := ⟨by decide, (mj_tb 1024 (by decide +kernel) rfl), (mj_tb 1025 (by decide +kernel) rfl), (mj_tb 1026 (by decide +kernel) rfl)⟩
set_option maxRecDepth 100000 in
theorem pk_602 : mj_pok 11 171 4 264 0 := ⟨by decide, (mj_tb 1830 (by decide +kernel) rfl), (mj_tb 1831 (by decide +kernel) rfl), (mj_tb 1832 (by decide +kernel) rfl)⟩
set_option maxRecDepth 100000 in
theorem pk_603 : mj_pok 11 172 4 135 0 := ⟨by decide, (mj_tb 1033 (by decide +kernel) rfl), (mj_tb 1034 (by decide +kernel) rfl), (mj_tb 1035 (by decide +kernel) rfl)⟩
set_option maxRecDepth 100000 in
theorem pk_604 : mj_pok 11 175 4 268 0 := ⟨by decide, (mj_tb 1838 (by decide +kernel) rfl), (mj_tb 1839 (by decide +kernel) rfl), (mj_tb 1840 (by decide +kernel) rfl)⟩
set_option maxRecDepth 100000 in
theorem pk_605 : mj_pok 11 176 4 136 0 := ⟨by decide, (mj_tb 1049 (by decide +kernel) rfl), (mj_tb 1050 (by decide +kernel) rfl), (mj_tb 1051 (by decide +kernel) rfl)⟩
set_option maxRecDepth 100000 in
theorem pk_606 : mj_pok 11 179 4 269 0 := ⟨by decide, (mj_tb 1854 (by decide +kernel) rfl), (mj_tb 1855 (by decide +kernel) rfl), (mj_tb 1856 (by decide +kernel) rfl)⟩
set_option maxRecDepth 100000 in
theorem pk_607 : mj_pok 11 180 4 137 0 := ⟨by decide, (mj_tb 1053 (by decide +kernel) rfl), (mj_tb 1054 (by decide +kernel) rfl), (mj_tb 1055 (by decide +kernel) rfl)⟩
set_option maxRecDepth 100000 in
theorem pk_608 : mj_pok 11 183 4 270 0 := ⟨by decide, (mj_tb 1858 (by decide +kernel) rfl), (mj_tb 1859 (by decide +kernel) rfl), (mj_tb 1860 (by decide +kernel) rfl)⟩
set_option maxRecDepth 100000 in
theorem pk_609 : mj_pok 11 184 4 138 0 := ⟨by decide, (mj_tb 1057 (by decide +kernel) rfl), (mj_tb 1058 (by decide +kernel) rfl), (mj_tb 1059 (by decide +kernel) rfl)⟩
set_option maxRecDepth 100000 in
theorem pk_610 : mj_pok 11 187 4 271 0 := ⟨by decide, (mj_tb 1862 (by decide +kernel) rfl), (mj_tb 1863 (by decide +kernel) rfl), (mj_tb 1864 (by decide +kernel) rfl)⟩
set_option maxRecDepth 100000 in
theorem pk_611 : mj_pok 11 193 4 272 0 := ⟨by decide, (mj_tb 1866 (by decide +kernel) rfl), (mj_tb 1867 (by decide +kernel) rfl), (mj_tb 1868 (by decide +kernel) rfl)⟩
set_option maxRecDepth 100000 in
theorem pk_612 : mj_pok 11 194 4 162 0 := ⟨by decide, (mj_tb 1277 (by decide +kernel) rfl), (mj_tb 1278 (by decide +kernel) rfl), (mj_tb 1279 (by decide +kernel) rfl)⟩
set_option maxRecDepth 100000 in
theorem pk_613 : mj_pok 11 197 4 140 0 := ⟨by decide, (mj_tb 1062 (by decide +kernel) rfl), (mj_tb 1063 (by decide +kernel) rfl), (mj_tb 1064 (by decide +kernel) rfl)⟩
set_option maxRecDepth 100000 in
theorem pk_614 : mj_pok 11 200 4 273 0 := ⟨by decide, (mj_tb 1870 (by decide +kernel) rfl), (mj_tb 1871 (by decide +kernel) rfl), (mj_tb 1872 (by decide +kernel) rfl)⟩
set_option maxRecDepth 100000 in
theorem pk_615 : mj_pok 11 201 4 141 0 := ⟨by decide, (mj_tb 1066 (by decide +kernel) rfl), (mj_tb 1067 (by decide +kernel) rfl), (mj_tb 1068 (by decide +kernel) rfl)⟩
set_option maxRecDepth 100000 in
theorem pk_616 : mj_pok 11 204 4 274 0 := ⟨by decide, (mj_tb 1874 (by decide +kernel) rfl), (mj_tb 1875 (by decide +kernel) rfl), (mj_tb 1876 (by decide +kernel) rfl)⟩
set_option maxRecDepth 100000 in
theorem pk_617 : mj_pok 12 265 10 1431655765 0 := (mj_tb 714 (by decide +kernel) rfl)
set_option maxRecDepth 100000 in
theorem pk_618 : mj_pok 12 266 10 858993459 0 := (mj_tb 715 (by decide +kernel) rfl)
set_option maxRecDepth 100000 in
theorem pk_619 : mj_pok 12 267 10 252645135 0 := (mj_tb 716 (by decide +kernel) rfl)
theorem pq_0 : ∀ q ∈ pl_0, mj_pok q.1.1 q.1.2 q.2.1 q.2.2.1 q.2.2.2 := List.forall_mem_cons.mpr ⟨pk_0, List.forall_mem_cons.mpr ⟨pk_1, List.forall_mem_cons.mpr ⟨pk_2, List.forall_mem_cons.mpr ⟨pk_3, List.forall_mem_cons.mpr ⟨pk_4, List.forall_mem_cons.mpr ⟨pk_5, List.forall_mem_cons.mpr ⟨pk_6, List.forall_mem_cons.mpr ⟨pk_7, List.forall_mem_cons.mpr ⟨pk_8, List.forall_mem_cons.mpr ⟨pk_9, List.forall_mem_cons.mpr ⟨pk_10, List.forall_mem_cons.mpr ⟨pk_11, List.forall_mem_cons.mpr ⟨pk_12, List.forall_mem_cons.mpr ⟨pk_13, List.forall_mem_cons.mpr ⟨pk_14, List.forall_mem_cons.mpr ⟨pk_15, fun _ h => absurd h List.not_mem_nil⟩⟩⟩⟩⟩⟩⟩⟩⟩⟩⟩⟩⟩⟩⟩⟩
theorem pq_1 : ∀ q ∈ pl_1, mj_pok q.1.1 q.1.2 q.2.1 q.2.2.1 q.2.2.2 := List.forall_mem_cons.mpr ⟨pk_16, List.forall_mem_cons.mpr ⟨pk_17, List.forall_mem_cons.mpr ⟨pk_18, List.forall_mem_cons.mpr ⟨pk_19, List.forall_mem_cons.mpr ⟨pk_20, List.forall_mem_cons.mpr ⟨pk_21, List.forall_mem_cons.mpr ⟨pk_22, List.forall_mem_cons.mpr ⟨pk_23, List.forall_mem_cons.mpr ⟨pk_24, List.forall_mem_cons.mpr ⟨pk_25, List.forall_mem_cons.mpr ⟨pk_26, List.forall_mem_cons.mpr ⟨pk_27, List.forall_mem_cons.mpr ⟨pk_28, List.forall_mem_cons.mpr ⟨pk_29, List.forall_mem_cons.mpr ⟨pk_30, List.forall_mem_cons.mpr ⟨pk_31, fun _ h => absurd h List.not_mem_nil⟩⟩⟩⟩⟩⟩⟩⟩⟩⟩⟩⟩⟩⟩⟩⟩
theorem pq_2 : ∀ q ∈ pl_2, mj_pok q.1.1 q.1.2 q.2.1 q.2.2.1 q.2.2.2 := List.forall_mem_cons.mpr ⟨pk_32, List.forall_mem_cons.mpr ⟨pk_33, List.forall_mem_cons.mpr ⟨pk_34, List.forall_mem_cons.mpr ⟨pk_35, List.forall_mem_cons.mpr ⟨pk_36, List.forall_mem_cons.mpr ⟨pk_37, List.forall_mem_cons.mpr ⟨pk_38, List.forall_mem_cons.mpr ⟨pk_39, List.forall_mem_cons.mpr ⟨pk_40, List.forall_mem_cons.mpr ⟨pk_41, List.forall_mem_cons.mpr ⟨pk_42, List.forall_mem_cons.mpr ⟨pk_43, List.forall_mem_cons.mpr ⟨pk_44, List.forall_mem_cons.mpr ⟨pk_45, List.forall_mem_cons.mpr ⟨pk_46, List.forall_mem_cons.mpr ⟨pk_47, fun _ h => absurd h List.not_mem_nil⟩⟩⟩⟩⟩⟩⟩⟩⟩⟩⟩⟩⟩⟩⟩⟩
theorem pq_3 : ∀ q ∈ pl_3, mj_pok q.1.1 q.1.2 q.2.1 q.2.2.1 q.2.2.2 := List.forall_mem_cons.mpr ⟨pk_48, List.forall_mem_cons.mpr ⟨pk_49, List.forall_mem_cons.mpr ⟨pk_50, List.forall_mem_cons.mpr ⟨pk_51, List.forall_mem_cons.mpr ⟨pk_52, List.forall_mem_cons.mpr ⟨pk_53, List.forall_mem_cons.mpr ⟨pk_54, List.forall_mem_cons.mpr ⟨pk_55, List.forall_mem_cons.mpr ⟨pk_56, List.forall_mem_cons.mpr ⟨pk_57, List.forall_mem_cons.mpr ⟨pk_58, List.forall_mem_cons.mpr ⟨pk_59, List.forall_mem_cons.mpr ⟨pk_60, List.forall_mem_cons.mpr ⟨pk_61, List.forall_mem_cons.mpr ⟨pk_62, List.forall_mem_cons.mpr ⟨pk_63, fun _ h => absurd h List.not_mem_nil⟩⟩⟩⟩⟩⟩⟩⟩⟩⟩⟩⟩⟩⟩⟩⟩
theorem pq_4 : ∀ q ∈ pl_4, mj_pok q.1.1 q.1.2 q.2.1 q.2.2.1 q.2.2.2 := List.forall_mem_cons.mpr ⟨pk_64, List.forall_mem_cons.mpr ⟨pk_65, List.forall_mem_cons.mpr ⟨pk_66, List.forall_mem_cons.mpr ⟨pk_67, List.forall_mem_cons.mpr ⟨pk_68, List.forall_mem_cons.mpr ⟨pk_69, List.forall_mem_cons.mpr ⟨pk_70, List.forall_mem_cons.mpr ⟨pk_71, List.forall_mem_cons.mpr ⟨pk_72, List.forall_mem_cons.mpr ⟨pk_73, List.forall_mem_cons.mpr ⟨pk_74, List.forall_mem_cons.mpr ⟨pk_75, List.forall_mem_cons.mpr ⟨pk_76, List.forall_mem_cons.mpr ⟨pk_77, List.forall_mem_cons.mpr ⟨pk_78, List.forall_mem_cons.mpr ⟨pk_79, fun _ h => absurd h List.not_mem_nil⟩⟩⟩⟩⟩⟩⟩⟩⟩⟩⟩⟩⟩⟩⟩⟩
theorem pq_5 : ∀ q ∈ pl_5, mj_pok q.1.1 q.1.2 q.2.1 q.2.2.1 q.2.2.2 := List.forall_mem_cons.mpr ⟨pk_80, List.forall_mem_cons.mpr ⟨pk_81, List.forall_mem_cons.mpr ⟨pk_82, List.forall_mem_cons.mpr ⟨pk_83, List.forall_mem_cons.mpr ⟨pk_84, List.forall_mem_cons.mpr ⟨pk_85, List.forall_mem_cons.mpr ⟨pk_86, List.forall_mem_cons.mpr ⟨pk_87, List.forall_mem_cons.mpr ⟨pk_88, List.forall_mem_cons.mpr ⟨pk_89, List.forall_mem_cons.mpr ⟨pk_90, List.forall_mem_cons.mpr ⟨pk_91, List.forall_mem_cons.mpr ⟨pk_92, List.forall_mem_cons.mpr ⟨pk_93, List.forall_mem_cons.mpr ⟨pk_94, List.forall_mem_cons.mpr ⟨pk_95, fun _ h => absurd h List.not_mem_nil⟩⟩⟩⟩⟩⟩⟩⟩⟩⟩⟩⟩⟩⟩⟩⟩
theorem pq_6 : ∀ q ∈ pl_6, mj_pok q.1.1 q.1.2 q.2.1 q.2.2.1 q.2.2.2 := List.forall_mem_cons.mpr ⟨pk_96, List.forall_mem_cons.mpr ⟨pk_97, List.forall_mem_cons.mpr ⟨pk_98, List.forall_mem_cons.mpr ⟨pk_99, List.forall_mem_cons.mpr ⟨pk_100, List.forall_mem_cons.mpr ⟨pk_101, List.forall_mem_cons.mpr ⟨pk_102, List.forall_mem_cons.mpr ⟨pk_103, List.forall_mem_cons.mpr ⟨pk_104, List.forall_mem_cons.mpr ⟨pk_105, List.forall_mem_cons.mpr ⟨pk_106, List.forall_mem_cons.mpr ⟨pk_107, List.forall_mem_cons.mpr ⟨pk_108, List.forall_mem_cons.mpr ⟨pk_109, List.forall_mem_cons.mpr ⟨pk_110, List.forall_mem_cons.mpr ⟨pk_111, fun _ h => absurd h List.not_mem_nil⟩⟩⟩⟩⟩⟩⟩⟩⟩⟩⟩⟩⟩⟩⟩⟩
theorem pq_7 : ∀ q ∈ pl_7, mj_pok q.1.1 q.1.2 q.2.1 q.2.2.1 q.2.2.2 := List.forall_mem_cons.mpr ⟨pk_112, List.forall_mem_cons.mpr ⟨pk_113, List.forall_mem_cons.mpr ⟨pk_114, List.forall_mem_cons.mpr ⟨pk_115, List.forall_mem_cons.mpr ⟨pk_116, List.forall_mem_cons.mpr ⟨pk_117, List.forall_mem_cons.mpr ⟨pk_118, List.forall_mem_cons.mpr ⟨pk_119, List.forall_mem_cons.mpr ⟨pk_120, List.forall_mem_cons.mpr ⟨pk_121, List.forall_mem_cons.mpr ⟨pk_122, List.forall_mem_cons.mpr ⟨pk_123, List.forall_mem_cons.mpr ⟨pk_124, List.forall_mem_cons.mpr ⟨pk_125, List.forall_mem_cons.mpr ⟨pk_126, List.forall_mem_cons.mpr ⟨pk_127, fun _ h => absurd h List.not_mem_nil⟩⟩⟩⟩⟩⟩⟩⟩⟩⟩⟩⟩⟩⟩⟩⟩
theorem pq_8 : ∀ q ∈ pl_8, mj_pok q.1.1 q.1.2 q.2.1 q.2.2.1 q.2.2.2 := List.forall_mem_cons.mpr ⟨pk_128, List.forall_mem_cons.mpr ⟨pk_129, List.forall_mem_cons.mpr ⟨pk_130, List.forall_mem_cons.mpr ⟨pk_131, List.forall_mem_cons.mpr ⟨pk_132, List.forall_mem_cons.mpr ⟨pk_133, List.forall_mem_cons.mpr ⟨pk_134, List.forall_mem_cons.mpr ⟨pk_135, List.forall_mem_cons.mpr ⟨pk_136, List.forall_mem_cons.mpr ⟨pk_137, List.forall_mem_cons.mpr ⟨pk_138, List.forall_mem_cons.mpr ⟨pk_139, List.forall_mem_cons.mpr ⟨pk_140, List.forall_mem_cons.mpr ⟨pk_141, List.forall_mem_cons.mpr ⟨pk_142, List.forall_mem_cons.mpr ⟨pk_143, fun _ h => absurd h List.not_mem_nil⟩⟩⟩⟩⟩⟩⟩⟩⟩⟩⟩⟩⟩⟩⟩⟩
theorem pq_9 : ∀ q ∈ pl_9, mj_pok q.1.1 q.1.2 q.2.1 q.2.2.1 q.2.2.2 := List.forall_mem_cons.mpr ⟨pk_144, List.forall_mem_cons.mpr ⟨pk_145, List.forall_mem_cons.mpr ⟨pk_146, List.forall_mem_cons.mpr ⟨pk_147, List.forall_mem_cons.mpr ⟨pk_148, List.forall_mem_cons.mpr ⟨pk_149, List.forall_mem_cons.mpr ⟨pk_150, List.forall_mem_cons.mpr ⟨pk_151, List.forall_mem_cons.mpr ⟨pk_152, List.forall_mem_cons.mpr ⟨pk_153, List.forall_mem_cons.mpr ⟨pk_154, List.forall_mem_cons.mpr ⟨pk_155, List.forall_mem_cons.mpr ⟨pk_156, List.forall_mem_cons.mpr ⟨pk_157, List.forall_mem_cons.mpr ⟨pk_158, List.forall_mem_cons.mpr ⟨pk_159, fun _ h => absurd h List.not_mem_nil⟩⟩⟩⟩⟩⟩⟩⟩⟩⟩⟩⟩⟩⟩⟩⟩
theorem pq_10 : ∀ q ∈ pl_10, mj_pok q.1.1 q.1.2 q.2.1 q.2.2.1 q.2.2.2 := List.forall_mem_cons.mpr ⟨pk_160, List.forall_mem_cons.mpr ⟨pk_161, List.forall_mem_cons.mpr ⟨pk_162, List.forall_mem_cons.mpr ⟨pk_163, List.forall_mem_cons.mpr ⟨pk_164, List.forall_mem_cons.mpr ⟨pk_165, List.forall_mem_cons.mpr ⟨pk_166, List.forall_mem_cons.mpr ⟨pk_167, List.forall_mem_cons.mpr ⟨pk_168, List.forall_mem_cons.mpr ⟨pk_169, List.forall_mem_cons.mpr ⟨pk_170, List.forall_mem_cons.mpr ⟨pk_171, List.forall_mem_cons.mpr ⟨pk_172, List.forall_mem_cons.mpr ⟨pk_173, List.forall_mem_cons.mpr ⟨pk_174, List.forall_mem_cons.mpr ⟨pk_175, fun _ h => absurd h List.not_mem_nil⟩⟩⟩⟩⟩⟩⟩⟩⟩⟩⟩⟩⟩⟩⟩⟩
theorem pq_11 : ∀ q ∈ pl_11, mj_pok q.1.1 q.1.2 q.2.1 q.2.2.1 q.2.2.2 := List.forall_mem_cons.mpr ⟨pk_176, List.forall_mem_cons.mpr ⟨pk_177, List.forall_mem_cons.mpr ⟨pk_178, List.forall_mem_cons.mpr ⟨pk_179, List.forall_mem_cons.mpr ⟨pk_180, List.forall_mem_cons.mpr ⟨pk_181, List.forall_mem_cons.mpr ⟨pk_182, List.forall_mem_cons.mpr ⟨pk_183, List.forall_mem_cons.mpr ⟨pk_184, List.forall_mem_cons.mpr ⟨pk_185, List.forall_mem_cons.mpr ⟨pk_186, List.forall_mem_cons.mpr ⟨pk_187, List.forall_mem_cons.mpr ⟨pk_188, List.forall_mem_cons.mpr ⟨pk_189, List.forall_mem_cons.mpr ⟨pk_190, List.forall_mem_cons.mpr ⟨pk_191, fun _ h => absurd h List.not_mem_nil⟩⟩⟩⟩⟩⟩⟩⟩⟩⟩⟩⟩⟩⟩⟩⟩
theorem pq_12 : ∀ q ∈ pl_12, mj_pok q.1.1 q.1.2 q.2.1 q.2.2.1 q.2.2.2 := List.forall_mem_cons.mpr ⟨pk_192, List.forall_mem_cons.mpr ⟨pk_193, List.forall_mem_cons.mpr ⟨pk_194, List.forall_mem_cons.mpr ⟨pk_195, List.forall_mem_cons.mpr ⟨pk_196, List.forall_mem_cons.mpr ⟨pk_197, List.forall_mem_cons.mpr ⟨pk_198, List.forall_mem_cons.mpr ⟨pk_199, List.forall_mem_cons.mpr ⟨pk_200, List.forall_mem_cons.mpr ⟨pk_201, List.forall_mem_cons.mpr ⟨pk_202, List.forall_mem_cons.mpr ⟨pk_203, List.forall_mem_cons.mpr ⟨pk_204, List.forall_mem_cons.mpr ⟨pk_205, List.forall_mem_cons.mpr ⟨pk_206, List.forall_mem_cons.mpr ⟨pk_207, fun _ h => absurd h List.not_mem_nil⟩⟩⟩⟩⟩⟩⟩⟩⟩⟩⟩⟩⟩⟩⟩⟩
theorem pq_13 : ∀ q ∈ pl_13, mj_pok q.1.1 q.1.2 q.2.1 q.2.2.1 q.2.2.2 := List.forall_mem_cons.mpr ⟨pk_208, List.forall_mem_cons.mpr ⟨pk_209, List.forall_mem_cons.mpr ⟨pk_210, List.forall_mem_cons.mpr ⟨pk_211, List.forall_mem_cons.mpr ⟨pk_212, List.forall_mem_cons.mpr ⟨pk_213, List.forall_mem_cons.mpr ⟨pk_214, List.forall_mem_cons.mpr ⟨pk_215, List.forall_mem_cons.mpr ⟨pk_216, List.forall_mem_cons.mpr ⟨pk_217, List.forall_mem_cons.mpr ⟨pk_218, List.forall_mem_cons.mpr ⟨pk_219, List.forall_mem_cons.mpr ⟨pk_220, List.forall_mem_cons.mpr ⟨pk_221, List.forall_mem_cons.mpr ⟨pk_222, List.forall_mem_cons.mpr ⟨pk_223, fun _ h => absurd h List.not_mem_nil⟩⟩⟩⟩⟩⟩⟩⟩⟩⟩⟩⟩⟩⟩⟩⟩
theorem pq_14 : ∀ q ∈ pl_14, mj_pok q.1.1 q.1.2 q.2.1 q.2.2.1 q.2.2.2 := List.forall_mem_cons.mpr ⟨pk_224, List.forall_mem_cons.mpr ⟨pk_225, List.forall_mem_cons.mpr ⟨pk_226, List.forall_mem_cons.mpr ⟨pk_227, List.forall_mem_cons.mpr ⟨pk_228, List.forall_mem_cons.mpr ⟨pk_229, List.forall_mem_cons.mpr ⟨pk_230, List.forall_mem_cons.mpr ⟨pk_231, List.forall_mem_cons.mpr ⟨pk_232, List.forall_mem_cons.mpr ⟨pk_233, List.forall_mem_cons.mpr ⟨pk_234, List.forall_mem_cons.mpr ⟨pk_235, List.forall_mem_cons.mpr ⟨pk_236, List.forall_mem_cons.mpr ⟨pk_237, List.forall_mem_cons.mpr ⟨pk_238, List.forall_mem_cons.mpr ⟨pk_239, fun _ h => absurd h List.not_mem_nil⟩⟩⟩⟩⟩⟩⟩⟩⟩⟩⟩⟩⟩⟩⟩⟩
theorem pq_15 : ∀ q ∈ pl_15, mj_pok q.1.1 q.1.2 q.2.1 q.2.2.1 q.2.2.2 := List.forall_mem_cons.mpr ⟨pk_240, List.forall_mem_cons.mpr ⟨pk_241, List.forall_mem_cons.mpr ⟨pk_242, List.forall_mem_cons.mpr ⟨pk_243, List.forall_mem_cons.mpr ⟨pk_244, List.forall_mem_cons.mpr ⟨pk_245, List.forall_mem_cons.mpr ⟨pk_246, List.forall_mem_cons.mpr ⟨pk_247, List.forall_mem_cons.mpr ⟨pk_248, List.forall_mem_cons.mpr ⟨pk_249, List.forall_mem_cons.mpr ⟨pk_250, List.forall_mem_cons.mpr ⟨pk_251, List.forall_mem_cons.mpr ⟨pk_252, List.forall_mem_cons.mpr ⟨pk_253, List.forall_mem_cons.mpr ⟨pk_254, List.forall_mem_cons.mpr ⟨pk_255, fun _ h => absurd h List.not_mem_nil⟩⟩⟩⟩⟩⟩⟩⟩⟩⟩⟩⟩⟩⟩⟩⟩
theorem pq_16 : ∀ q ∈ pl_16, mj_pok q.1.1 q.1.2 q.2.1 q.2.2.1 q.2.2.2 := List.forall_mem_cons.mpr ⟨pk_256, List.forall_mem_cons.mpr ⟨pk_257, List.forall_mem_cons.mpr ⟨pk_258, List.forall_mem_cons.mpr ⟨pk_259, List.forall_mem_cons.mpr ⟨pk_260, List.forall_mem_cons.mpr ⟨pk_261, List.forall_mem_cons.mpr ⟨pk_262, List.forall_mem_cons.mpr ⟨pk_263, List.forall_mem_cons.mpr ⟨pk_264, List.forall_mem_cons.mpr ⟨pk_265, List.forall_mem_cons.mpr ⟨pk_266, List.forall_mem_cons.mpr ⟨pk_267, List.forall_mem_cons.mpr ⟨pk_268, List.forall_mem_cons.mpr ⟨pk_269, List.forall_mem_cons.mpr ⟨pk_270, List.forall_mem_cons.mpr ⟨pk_271, fun _ h => absurd h List.not_mem_nil⟩⟩⟩⟩⟩⟩⟩⟩⟩⟩⟩⟩⟩⟩⟩⟩
theorem pq_17 : ∀ q ∈ pl_17, mj_pok q.1.1 q.1.2 q.2.1 q.2.2.1 q.2.2.2 := List.forall_mem_cons.mpr ⟨pk_272, List.forall_mem_cons.mpr ⟨pk_273, List.forall_mem_cons.mpr ⟨pk_274, List.forall_mem_cons.mpr ⟨pk_275, List.forall_mem_cons.mpr ⟨pk_276, List.forall_mem_cons.mpr ⟨pk_277, List.forall_mem_cons.mpr ⟨pk_278, List.forall_mem_cons.mpr ⟨pk_279, List.forall_mem_cons.mpr ⟨pk_280, List.forall_mem_cons.mpr ⟨pk_281, List.forall_mem_cons.mpr ⟨pk_282, List.forall_mem_cons.mpr ⟨pk_283, List.forall_mem_cons.mpr ⟨pk_284, List.forall_mem_cons.mpr ⟨pk_285, List.forall_mem_cons.mpr ⟨pk_286, List.forall_mem_cons.mpr ⟨pk_287, fun _ h => absurd h List.not_mem_nil⟩⟩⟩⟩⟩⟩⟩⟩⟩⟩⟩⟩⟩⟩⟩⟩
theorem pq_18 : ∀ q ∈ pl_18, mj_pok q.1.1 q.1.2 q.2.1 q.2.2.1 q.2.2.2 := List.forall_mem_cons.mpr ⟨pk_288, List.forall_mem_cons.mpr ⟨pk_289, List.forall_mem_cons.mpr ⟨pk_290, List.forall_mem_cons.mpr ⟨pk_291, List.forall_mem_cons.mpr ⟨pk_292, List.forall_mem_cons.mpr ⟨pk_293, List.forall_mem_cons.mpr ⟨pk_294, List.forall_mem_cons.mpr ⟨pk_295, List.forall_mem_cons.mpr ⟨pk_296, List.forall_mem_cons.mpr ⟨pk_297, List.forall_mem_cons.mpr ⟨pk_298, List.forall_mem_cons.mpr ⟨pk_299, List.forall_mem_cons.mpr ⟨pk_300, List.forall_mem_cons.mpr ⟨pk_301, List.forall_mem_cons.mpr ⟨pk_302, List.forall_mem_cons.mpr ⟨pk_303, fun _ h => absurd h List.not_mem_nil⟩⟩⟩⟩⟩⟩⟩⟩⟩⟩⟩⟩⟩⟩⟩⟩
theorem pq_19 : ∀ q ∈ pl_19, mj_pok q.1.1 q.1.2 q.2.1 q.2.2.1 q.2.2.2 := List.forall_mem_cons.mpr ⟨pk_304, List.forall_mem_cons.mpr ⟨pk_305, List.forall_mem_cons.mpr ⟨pk_306, List.forall_mem_cons.mpr ⟨pk_307, List.forall_mem_cons.mpr ⟨pk_308, List.forall_mem_cons.mpr ⟨pk_309, List.forall_mem_cons.mpr ⟨pk_310, List.forall_mem_cons.mpr ⟨pk_311, List.forall_mem_cons.mpr ⟨pk_312, List.forall_mem_cons.mpr ⟨pk_313, List.forall_mem_cons.mpr ⟨pk_314, List.forall_mem_cons.mpr ⟨pk_315, List.forall_mem_cons.mpr ⟨pk_316, List.forall_mem_cons.mpr ⟨pk_317, List.forall_mem_cons.mpr ⟨pk_318, List.forall_mem_cons.mpr ⟨pk_319, fun _ h => absurd h List.not_mem_nil⟩⟩⟩⟩⟩⟩⟩⟩⟩⟩⟩⟩⟩⟩⟩⟩
theorem pq_20 : ∀ q ∈ pl_20, mj_pok q.1.1 q.1.2 q.2.1 q.2.2.1 q.2.2.2 := List.forall_mem_cons.mpr ⟨pk_320, List.forall_mem_cons.mpr ⟨pk_321, List.forall_mem_cons.mpr ⟨pk_322, List.forall_mem_cons.mpr ⟨pk_323, List.forall_mem_cons.mpr ⟨pk_324, List.forall_mem_cons.mpr ⟨pk_325, List.forall_mem_cons.mpr ⟨pk_326, List.forall_mem_cons.mpr ⟨pk_327, List.forall_mem_cons.mpr ⟨pk_328, List.forall_mem_cons.mpr ⟨pk_329, List.forall_mem_cons.mpr ⟨pk_330, List.forall_mem_cons.mpr ⟨pk_331, List.forall_mem_cons.mpr ⟨pk_332, List.forall_mem_cons.mpr ⟨pk_333, List.forall_mem_cons.mpr ⟨pk_334, List.forall_mem_cons.mpr ⟨pk_335, fun _ h => absurd h List.not_mem_nil⟩⟩⟩⟩⟩⟩⟩⟩⟩⟩⟩⟩⟩⟩⟩⟩
theorem pq_21 : ∀ q ∈ pl_21, mj_pok q.1.1 q.1.2 q.2.1 q.2.2.1 q.2.2.2 := List.forall_mem_cons.mpr ⟨pk_336, List.forall_mem_cons.mpr ⟨pk_337, List.forall_mem_cons.mpr ⟨pk_338, List.forall_mem_cons.mpr ⟨pk_339, List.forall_mem_cons.mpr ⟨pk_340, List.forall_mem_cons.mpr ⟨pk_341, List.forall_mem_cons.mpr ⟨pk_342, List.forall_mem_cons.mpr ⟨pk_343, List.forall_mem_cons.mpr ⟨pk_344, List.forall_mem_cons.mpr ⟨pk_345, List.forall_mem_cons.mpr ⟨pk_346, List.forall_mem_cons.mpr ⟨pk_347, List.forall_mem_cons.mpr ⟨pk_348, List.forall_mem_cons.mpr ⟨pk_349, List.forall_mem_cons.mpr ⟨pk_350, List.forall_mem_cons.mpr ⟨pk_351, fun _ h => absurd h List.not_mem_nil⟩⟩⟩⟩⟩⟩⟩⟩⟩⟩⟩⟩⟩⟩⟩⟩
theorem pq_22 : ∀ q ∈ pl_22, mj_pok q.1.1 q.1.2 q.2.1 q.2.2.1 q.2.2.2 := List.forall_mem_cons.mpr ⟨pk_352, List.forall_mem_cons.mpr ⟨pk_353, List.forall_mem_cons.mpr ⟨pk_354, List.forall_mem_cons.mpr ⟨pk_355, List.forall_mem_cons.mpr ⟨pk_356, List.forall_mem_cons.mpr ⟨pk_357, List.forall_mem_cons.mpr ⟨pk_358, List.forall_mem_cons.mpr ⟨pk_359, List.forall_mem_cons.mpr ⟨pk_360, List.forall_mem_cons.mpr ⟨pk_361, List.forall_mem_cons.mpr ⟨pk_362, List.forall_mem_cons.mpr ⟨pk_363, List.forall_mem_cons.mpr ⟨pk_364, List.forall_mem_cons.mpr ⟨pk_365, List.forall_mem_cons.mpr ⟨pk_366, List.forall_mem_cons.mpr ⟨pk_367, fun _ h => absurd h List.not_mem_nil⟩⟩⟩⟩⟩⟩⟩⟩⟩⟩⟩⟩⟩⟩⟩⟩
theorem pq_23 : ∀ q ∈ pl_23, mj_pok q.1.1 q.1.2 q.2.1 q.2.2.1 q.2.2.2 := List.forall_mem_cons.mpr ⟨pk_368, List.forall_mem_cons.mpr ⟨pk_369, List.forall_mem_cons.mpr ⟨pk_370, List.forall_mem_cons.mpr ⟨pk_371, List.forall_mem_cons.mpr ⟨pk_372, List.forall_mem_cons.mpr ⟨pk_373, List.forall_mem_cons.mpr ⟨pk_374, List.forall_mem_cons.mpr ⟨pk_375, List.forall_mem_cons.mpr ⟨pk_376, List.forall_mem_cons.mpr ⟨pk_377, List.forall_mem_cons.mpr ⟨pk_378, List.forall_mem_cons.mpr ⟨pk_379, List.forall_mem_cons.mpr ⟨pk_380, List.forall_mem_cons.mpr ⟨pk_381, List.forall_mem_cons.mpr ⟨pk_382, List.forall_mem_cons.mpr ⟨pk_383, fun _ h => absurd h List.not_mem_nil⟩⟩⟩⟩⟩⟩⟩⟩⟩⟩⟩⟩⟩⟩⟩⟩
theorem pq_24 : ∀ q ∈ pl_24, mj_pok q.1.1 q.1.2 q.2.1 q.2.2.1 q.2.2.2 := List.forall_mem_cons.mpr ⟨pk_384, List.forall_mem_cons.mpr ⟨pk_385, List.forall_mem_cons.mpr ⟨pk_386, List.forall_mem_cons.mpr ⟨pk_387, List.forall_mem_cons.mpr ⟨pk_388, List.forall_mem_cons.mpr ⟨pk_389, List.forall_mem_cons.mpr ⟨pk_390, List.forall_mem_cons.mpr ⟨pk_391, List.forall_mem_cons.mpr ⟨pk_392, List.forall_mem_cons.mpr ⟨pk_393, List.forall_mem_cons.mpr ⟨pk_394, List.forall_mem_cons.mpr ⟨pk_395, List.forall_mem_cons.mpr ⟨pk_396, List.forall_mem_cons.mpr ⟨pk_397, List.forall_mem_cons.mpr ⟨pk_398, List.forall_mem_cons.mpr ⟨pk_399, fun _ h => absurd h List.not_mem_nil⟩⟩⟩⟩⟩⟩⟩⟩⟩⟩⟩⟩⟩⟩⟩⟩
theorem pq_25 : ∀ q ∈ pl_25, mj_pok q.1.1 q.1.2 q.2.1 q.2.2.1 q.2.2.2 := List.forall_mem_cons.mpr ⟨pk_400, List.forall_mem_cons.mpr ⟨pk_401, List.forall_mem_cons.mpr ⟨pk_402, List.forall_mem_cons.mpr ⟨pk_403, List.forall_mem_cons.mpr ⟨pk_404, List.forall_mem_cons.mpr ⟨pk_405, List.forall_mem_cons.mpr ⟨pk_406, List.forall_mem_cons.mpr ⟨pk_407, List.forall_mem_cons.mpr ⟨pk_408, List.forall_mem_cons.mpr ⟨pk_409, List.forall_mem_cons.mpr ⟨pk_410, List.forall_mem_cons.mpr ⟨pk_411, List.forall_mem_cons.mpr ⟨pk_412, List.forall_mem_cons.mpr ⟨pk_413, List.forall_mem_cons.mpr ⟨pk_414, List.forall_mem_cons.mpr ⟨pk_415, fun _ h => absurd h List.not_mem_nil⟩⟩⟩⟩⟩⟩⟩⟩⟩⟩⟩⟩⟩⟩⟩⟩
theorem pq_26 : ∀ q ∈ pl_26, mj_pok q.1.1 q.1.2 q.2.1 q.2.2.1 q.2.2.2 := List.forall_mem_cons.mpr ⟨pk_416, List.forall_mem_cons.mpr ⟨pk_417, List.forall_mem_cons.mpr ⟨pk_418, List.forall_mem_cons.mpr ⟨pk_419, List.forall_mem_cons.mpr ⟨pk_420, List.forall_mem_cons.mpr ⟨pk_421, List.forall_mem_cons.mpr ⟨pk_422, List.forall_mem_cons.mpr ⟨pk_423, List.forall_mem_cons.mpr ⟨pk_424, List.forall_mem_cons.mpr ⟨pk_425, List.forall_mem_cons.mpr ⟨pk_426, List.forall_mem_cons.mpr ⟨pk_427, List.forall_mem_cons.mpr ⟨pk_428, List.forall_mem_cons.mpr ⟨pk_429, List.forall_mem_cons.mpr ⟨pk_430, List.forall_mem_cons.mpr ⟨pk_431, fun _ h => absurd h List.not_mem_nil⟩⟩⟩⟩⟩⟩⟩⟩⟩⟩⟩⟩⟩⟩⟩⟩
theorem pq_27 : ∀ q ∈ pl_27, mj_pok q.1.1 q.1.2 q.2.1 q.2.2.1 q.2.2.2 := List.forall_mem_cons.mpr ⟨pk_432, List.forall_mem_cons.mpr ⟨pk_433, List.forall_mem_cons.mpr ⟨pk_434, List.forall_mem_cons.mpr ⟨pk_435, List.forall_mem_cons.mpr ⟨pk_436, List.forall_mem_cons.mpr ⟨pk_437, List.forall_mem_cons.mpr ⟨pk_438, List.forall_mem_cons.mpr ⟨pk_439, List.forall_mem_cons.mpr ⟨pk_440, List.forall_mem_cons.mpr ⟨pk_441, List.forall_mem_cons.mpr ⟨pk_442, List.forall_mem_cons.mpr ⟨pk_443, List.forall_mem_cons.mpr ⟨pk_444, List.forall_mem_cons.mpr ⟨pk_445, List.forall_mem_cons.mpr ⟨pk_446, List.forall_mem_cons.mpr ⟨pk_447, fun _ h => absurd h List.not_mem_nil⟩⟩⟩⟩⟩⟩⟩⟩⟩⟩⟩⟩⟩⟩⟩⟩
theorem pq_28 : ∀ q ∈ pl_28, mj_pok q.1.1 q.1.2 q.2.1 q.2.2.1 q.2.2.2 := List.forall_mem_cons.mpr ⟨pk_448, List.forall_mem_cons.mpr ⟨pk_449, List.forall_mem_cons.mpr ⟨pk_450, List.forall_mem_cons.mpr ⟨pk_451, List.forall_mem_cons.mpr ⟨pk_452, List.forall_mem_cons.mpr ⟨pk_453, List.forall_mem_cons.mpr ⟨pk_454, List.forall_mem_cons.mpr ⟨pk_455, List.forall_mem_cons.mpr ⟨pk_456, List.forall_mem_cons.mpr ⟨pk_457, List.forall_mem_cons.mpr ⟨pk_458, List.forall_mem_cons.mpr ⟨pk_459, List.forall_mem_cons.mpr ⟨pk_460, List.forall_mem_cons.mpr ⟨pk_461, List.forall_mem_cons.mpr ⟨pk_462, List.forall_mem_cons.mpr ⟨pk_463, fun _ h => absurd h List.not_mem_nil⟩⟩⟩⟩⟩⟩⟩⟩⟩⟩⟩⟩⟩⟩⟩⟩
theorem pq_29 : ∀ q ∈ pl_29, mj_pok q.1.1 q.1.2 q.2.1 q.2.2.1 q.2.2.2 := List.forall_mem_cons.mpr ⟨pk_464, List.forall_mem_cons.mpr ⟨pk_465, List.forall_mem_cons.mpr ⟨pk_466, List.forall_mem_cons.mpr ⟨pk_467, List.forall_mem_cons.mpr ⟨pk_468, List.forall_mem_cons.mpr ⟨pk_469, List.forall_mem_cons.mpr ⟨pk_470, List.forall_mem_cons.mpr ⟨pk_471, List.forall_mem_cons.mpr ⟨pk_472, List.forall_mem_cons.mpr ⟨pk_473, List.forall_mem_cons.mpr ⟨pk_474, List.forall_mem_cons.mpr ⟨pk_475, List.forall_mem_cons.mpr ⟨pk_476, List.forall_mem_cons.mpr ⟨pk_477, List.forall_mem_cons.mpr ⟨pk_478, List.forall_mem_cons.mpr ⟨pk_479, fun _ h => absurd h List.not_mem_nil⟩⟩⟩⟩⟩⟩⟩⟩⟩⟩⟩⟩⟩⟩⟩⟩
theorem pq_30 : ∀ q ∈ pl_30, mj_pok q.1.1 q.1.2 q.2.1 q.2.2.1 q.2.2.2 := List.forall_mem_cons.mpr ⟨pk_480, List.forall_mem_cons.mpr ⟨pk_481, List.forall_mem_cons.mpr ⟨pk_482, List.forall_mem_cons.mpr ⟨pk_483, List.forall_mem_cons.mpr ⟨pk_484, List.forall_mem_cons.mpr ⟨pk_485, List.forall_mem_cons.mpr ⟨pk_486, List.forall_mem_cons.mpr ⟨pk_487, List.forall_mem_cons.mpr ⟨pk_488, List.forall_mem_cons.mpr ⟨pk_489, List.forall_mem_cons.mpr ⟨pk_490, List.forall_mem_cons.mpr ⟨pk_491, List.forall_mem_cons.mpr ⟨pk_492, List.forall_mem_cons.mpr ⟨pk_493, List.forall_mem_cons.mpr ⟨pk_494, List.forall_mem_cons.mpr ⟨pk_495, fun _ h => absurd h List.not_mem_nil⟩⟩⟩⟩⟩⟩⟩⟩⟩⟩⟩⟩⟩⟩⟩⟩
theorem pq_31 : ∀ q ∈ pl_31, mj_pok q.1.1 q.1.2 q.2.1 q.2.2.1 q.2.2.2 := List.forall_mem_cons.mpr ⟨pk_496, List.forall_mem_cons.mpr ⟨pk_497, List.forall_mem_cons.mpr ⟨pk_498, List.forall_mem_cons.mpr ⟨pk_499, List.forall_mem_cons.mpr ⟨pk_500, List.forall_mem_cons.mpr ⟨pk_501, List.forall_mem_cons.mpr ⟨pk_502, List.forall_mem_cons.mpr ⟨pk_503, List.forall_mem_cons.mpr ⟨pk_504, List.forall_mem_cons.mpr ⟨pk_505, List.forall_mem_cons.mpr ⟨pk_506, List.forall_mem_cons.mpr ⟨pk_507, List.forall_mem_cons.mpr ⟨pk_508, List.forall_mem_cons.mpr ⟨pk_509, List.forall_mem_cons.mpr ⟨pk_510, List.forall_mem_cons.mpr ⟨pk_511, fun _ h => absurd h List.not_mem_nil⟩⟩⟩⟩⟩⟩⟩⟩⟩⟩⟩⟩⟩⟩⟩⟩
theorem pq_32 : ∀ q ∈ pl_32, mj_pok q.1.1 q.1.2 q.2.1 q.2.2.1 q.2.2.2 := List.forall_mem_cons.mpr ⟨pk_512, List.forall_mem_cons.mpr ⟨pk_513, List.forall_mem_cons.mpr ⟨pk_514, List.forall_mem_cons.mpr ⟨pk_515, List.forall_mem_cons.mpr ⟨pk_516, List.forall_mem_cons.mpr ⟨pk_517, List.forall_mem_cons.mpr ⟨pk_518, List.forall_mem_cons.mpr ⟨pk_519, List.forall_mem_cons.mpr ⟨pk_520, List.forall_mem_cons.mpr ⟨pk_521, List.forall_mem_cons.mpr ⟨pk_522, List.forall_mem_cons.mpr ⟨pk_523, List.forall_mem_cons.mpr ⟨pk_524, List.forall_mem_cons.mpr ⟨pk_525, List.forall_mem_cons.mpr ⟨pk_526, List.forall_mem_cons.mpr ⟨pk_527, fun _ h => absurd h List.not_mem_nil⟩⟩⟩⟩⟩⟩⟩⟩⟩⟩⟩⟩⟩⟩⟩⟩
theorem pq_33 : ∀ q ∈ pl_33, mj_pok q.1.1 q.1.2 q.2.1 q.2.2.1 q.2.2.2 := List.forall_mem_cons.mpr ⟨pk_528, List.forall_mem_cons.mpr ⟨pk_529, List.forall_mem_cons.mpr ⟨pk_530, List.forall_mem_cons.mpr ⟨pk_531, List.forall_mem_cons.mpr ⟨pk_532, List.forall_mem_cons.mpr ⟨pk_533, List.forall_mem_cons.mpr ⟨pk_534, List.forall_mem_cons.mpr ⟨pk_535, List.forall_mem_cons.mpr ⟨pk_536, List.forall_mem_cons.mpr ⟨pk_537, List.forall_mem_cons.mpr ⟨pk_538, List.forall_mem_cons.mpr ⟨pk_539, List.forall_mem_cons.mpr ⟨pk_540, List.forall_mem_cons.mpr ⟨pk_541, List.forall_mem_cons.mpr ⟨pk_542, List.forall_mem_cons.mpr ⟨pk_543, fun _ h => absurd h List.not_mem_nil⟩⟩⟩⟩⟩⟩⟩⟩⟩⟩⟩⟩⟩⟩⟩⟩
theorem pq_34 : ∀ q ∈ pl_34, mj_pok q.1.1 q.1.2 q.2.1 q.2.2.1 q.2.2.2 := List.forall_mem_cons.mpr ⟨pk_544, List.forall_mem_cons.mpr ⟨pk_545, List.forall_mem_cons.mpr ⟨pk_546, List.forall_mem_cons.mpr ⟨pk_547, List.forall_mem_cons.mpr ⟨pk_548, List.forall_mem_cons.mpr ⟨pk_549, List.forall_mem_cons.mpr ⟨pk_550, List.forall_mem_cons.mpr ⟨pk_551, List.forall_mem_cons.mpr ⟨pk_552, List.forall_mem_cons.mpr ⟨pk_553, List.forall_mem_cons.mpr ⟨pk_554, List.forall_mem_cons.mpr ⟨pk_555, List.forall_mem_cons.mpr ⟨pk_556, List.forall_mem_cons.mpr ⟨pk_557, List.forall_mem_cons.mpr ⟨pk_558, List.forall_mem_cons.mpr ⟨pk_559, fun _ h => absurd h List.not_mem_nil⟩⟩⟩⟩⟩⟩⟩⟩⟩⟩⟩⟩⟩⟩⟩⟩
theorem pq_35 : ∀ q ∈ pl_35, mj_pok q.1.1 q.1.2 q.2.1 q.2.2.1 q.2.2.2 := List.forall_mem_cons.mpr ⟨pk_560, List.forall_mem_cons.mpr ⟨pk_561, List.forall_mem_cons.mpr ⟨pk_562, List.forall_mem_cons.mpr ⟨pk_563, List.forall_mem_cons.mpr ⟨pk_564, List.forall_mem_cons.mpr ⟨pk_565, List.forall_mem_cons.mpr ⟨pk_566, List.forall_mem_cons.mpr ⟨pk_567, List.forall_mem_cons.mpr ⟨pk_568, List.forall_mem_cons.mpr ⟨pk_569, List.forall_mem_cons.mpr ⟨pk_570, List.forall_mem_cons.mpr ⟨pk_571, List.forall_mem_cons.mpr ⟨pk_572, List.forall_mem_cons.mpr ⟨pk_573, List.forall_mem_cons.mpr ⟨pk_574, List.forall_mem_cons.mpr ⟨pk_575, fun _ h => absurd h List.not_mem_nil⟩⟩⟩⟩⟩⟩⟩⟩⟩⟩⟩⟩⟩⟩⟩⟩
theorem pq_36 : ∀ q ∈ pl_36, mj_pok q.1.1 q.1.2 q.2.1 q.2.2.1 q.2.2.2 := List.forall_mem_cons.mpr ⟨pk_576, List.forall_mem_cons.mpr ⟨pk_577, List.forall_mem_cons.mpr ⟨pk_578, List.forall_mem_cons.mpr ⟨pk_579, List.forall_mem_cons.mpr ⟨pk_580, List.forall_mem_cons.mpr ⟨pk_581, List.forall_mem_cons.mpr ⟨pk_582, List.forall_mem_cons.mpr ⟨pk_583, List.forall_mem_cons.mpr ⟨pk_584, List.forall_mem_cons.mpr ⟨pk_585, List.forall_mem_cons.mpr ⟨pk_586, List.forall_mem_cons.mpr ⟨pk_587, List.forall_mem_cons.mpr ⟨pk_588, List.forall_mem_cons.mpr ⟨pk_589, List.forall_mem_cons.mpr ⟨pk_590, List.forall_mem_cons.mpr ⟨pk_591, fun _ h => absurd h List.not_mem_nil⟩⟩⟩⟩⟩⟩⟩⟩⟩⟩⟩⟩⟩⟩⟩⟩
theorem pq_37 : ∀ q ∈ pl_37, mj_pok q.1.1 q.1.2 q.2.1 q.2.2.1 q.2.2.2 := List.forall_mem_cons.mpr ⟨pk_592, List.forall_mem_cons.mpr ⟨pk_593, List.forall_mem_cons.mpr ⟨pk_594, List.forall_mem_cons.mpr ⟨pk_595, List.forall_mem_cons.mpr ⟨pk_596, List.forall_mem_cons.mpr ⟨pk_597, List.forall_mem_cons.mpr ⟨pk_598, List.forall_mem_cons.mpr ⟨pk_599, List.forall_mem_cons.mpr ⟨pk_600, List.forall_mem_cons.mpr ⟨pk_601, List.forall_mem_cons.mpr ⟨pk_602, List.forall_mem_cons.mpr ⟨pk_603, List.forall_mem_cons.mpr ⟨pk_604, List.forall_mem_cons.mpr ⟨pk_605, List.forall_mem_cons.mpr ⟨pk_606, List.forall_mem_cons.mpr ⟨pk_607, fun _ h => absurd h List.not_mem_nil⟩⟩⟩⟩⟩⟩⟩⟩⟩⟩⟩⟩⟩⟩⟩⟩
theorem pq_38 : ∀ q ∈ pl_38, mj_pok q.1.1 q.1.2 q.2.1 q.2.2.1 q.2.2.2 := List.forall_mem_cons.mpr ⟨pk_608, List.forall_mem_cons.mpr ⟨pk_609, List.forall_mem_cons.mpr ⟨pk_610, List.forall_mem_cons.mpr ⟨pk_611, List.forall_mem_cons.mpr ⟨pk_612, List.forall_mem_cons.mpr ⟨pk_613, List.forall_mem_cons.mpr ⟨pk_614, List.forall_mem_cons.mpr ⟨pk_615, List.forall_mem_cons.mpr ⟨pk_616, List.forall_mem_cons.mpr ⟨pk_617, List.forall_mem_cons.mpr ⟨pk_618, List.forall_mem_cons.mpr ⟨pk_619, fun _ h => absurd h List.not_mem_nil⟩⟩⟩⟩⟩⟩⟩⟩⟩⟩⟩⟩
theorem mj_pool_ok : ∀ q ∈ mj_poolL, mj_pok q.1.1 q.1.2 q.2.1 q.2.2.1 q.2.2.2 := List.forall_mem_append.mpr ⟨pq_0, List.forall_mem_append.mpr ⟨pq_1, List.forall_mem_append.mpr ⟨pq_2, List.forall_mem_append.mpr ⟨pq_3, List.forall_mem_append.mpr ⟨pq_4, List.forall_mem_append.mpr ⟨pq_5, List.forall_mem_append.mpr ⟨pq_6, List.forall_mem_append.mpr ⟨pq_7, List.forall_mem_append.mpr ⟨pq_8, List.forall_mem_append.mpr ⟨pq_9, List.forall_mem_append.mpr ⟨pq_10, List.forall_mem_append.mpr ⟨pq_11, List.forall_mem_append.mpr ⟨pq_12, List.forall_mem_append.mpr ⟨pq_13, List.forall_mem_append.mpr ⟨pq_14, List.forall_mem_append.mpr ⟨pq_15, List.forall_mem_append.mpr ⟨pq_16, List.forall_mem_append.mpr ⟨pq_17, List.forall_mem_append.mpr ⟨pq_18, List.forall_mem_append.mpr ⟨pq_19, List.forall_mem_append.mpr ⟨pq_20, List.forall_mem_append.mpr ⟨pq_21, List.forall_mem_append.mpr ⟨pq_22, List.forall_mem_append.mpr ⟨pq_23, List.forall_mem_append.mpr ⟨pq_24, List.forall_mem_append.mpr ⟨pq_25, List.forall_mem_append.mpr ⟨pq_26, List.forall_mem_append.mpr ⟨pq_27, List.forall_mem_append.mpr ⟨pq_28, List.forall_mem_append.mpr ⟨pq_29, List.forall_mem_append.mpr ⟨pq_30, List.forall_mem_append.mpr ⟨pq_31, List.forall_mem_append.mpr ⟨pq_32, List.forall_mem_append.mpr ⟨pq_33, List.forall_mem_append.mpr ⟨pq_34, List.forall_mem_append.mpr ⟨pq_35, List.forall_mem_append.mpr ⟨pq_36, List.forall_mem_append.mpr ⟨pq_37, pq_38⟩⟩⟩⟩⟩⟩⟩⟩⟩⟩⟩⟩⟩⟩⟩⟩⟩⟩⟩⟩⟩⟩⟩⟩⟩⟩⟩⟩⟩⟩⟩⟩⟩⟩⟩⟩⟩⟩
def mj_pool (o idx : Nat) : Option (Nat × Nat × Nat) := (mj_poolL.find? (fun q => q.1.1 == o && q.1.2 == idx)).map (·.2)
theorem mj_pool_sp {o idx tag x y : Nat} (h : mj_pool o idx = some (tag, x, y)) : mj_pok o idx tag x y := by
  unfold mj_pool at h
  cases hf : mj_poolL.find? (fun q => q.1.1 == o && q.1.2 == idx) with
  | none => rw [hf] at h; cases h
  | some q =>
    rw [hf] at h
    have h1 := List.find?_some hf
    have h2 := mj_pool_ok q (List.mem_of_find?_eq_some hf)
    simp only [Bool.and_eq_true, beq_iff_eq] at h1
    simp only [Option.map_some, Option.some.injEq] at h
    rw [h1.1, h1.2, h] at h2
    exact h2
