abbrev sg_S : Type := Nat → Nat → Int32
abbrev sg_Z : Type := Nat × Nat × Nat × (Nat → Nat → Bool)
abbrev sg_L : Type := List (Option Value)
abbrev sg_R : Type := (Nat × sg_L × List Value × sg_Z × sg_S) ⊕ ((Nat × List Value × Bool × Nat × sg_L × List Value) ⊕ Option Value)
def sg_CN : List String := [RX0, RX1, RX2, RX3, RX4, RX5, RX6, RX7, RX8, RX9, RX10, RL, RJ6, RJ9, RJ7]
def sg_cn (k : Nat) : String := sg_CN.getD k ""
/-- name, bytes, locals, answer, own number, frames, words -/
abbrev sg_Mt : Type := MethodName × ByteArray × Nat × Option FieldType × Nat × Nat × Nat
def sg_MT : List sg_Mt := [
  (yX10_init, cX10_init, 2, none, 10, 1, 30),
  (yX10_in, cX10_in, 6, (some .boolean), 10, 0, 0),
  (yX10_met, cX10_met, 2, (some .int), 10, 0, 0),
  (yX10_isSheet, cX10_isSheet, 1, (some .boolean), 10, 1, 25),
  (yX10_sheet, cX10_sheet, 5, (some .int), 10, 2, 45),
  (yX10_lose, cX10_lose, 2, (some .int), 10, 2, 45),
  (yX10_lacks, cX10_lacks, 4, (some .int), 10, 1, 25),
  (yX10_cut, cX10_cut, 2, (some .int), 10, 0, 0),
  (yX10_lay, cX10_lay, 6, (some .int), 10, 2, 48),
  (yX10_get, cX10_get, 4, (some .int), 10, 2, 48),
  (yX10_copy, cX10_copy, 7, (some .int), 10, 2, 45),
  (yX10_item, cX10_item, 3, (some .int), 10, 0, 0),
  (yX10_isCell, cX10_isCell, 1, (some .boolean), 10, 1, 25),
  (yX10_isTwo, cX10_isTwo, 1, (some .boolean), 10, 1, 25),
  (yX10_cell, cX10_cell, 5, (some .int), 10, 2, 45),
  (yX10_read, cX10_read, 4, (some .int), 10, 3, 69),
  (yX10_isRight, cX10_isRight, 2, (some .boolean), 10, 0, 0),
  (yX10_wall, cX10_wall, 7, (some .int), 10, 2, 45),
  (yX10_leastOf, cX10_leastOf, 1, (some .int), 10, 0, 0),
  (yX10_mostOf, cX10_mostOf, 1, (some .int), 10, 0, 0),
  (yX10_set, cX10_set, 4, (some .int), 10, 1, 25),
  (yX10_isPerson, cX10_isPerson, 2, (some .boolean), 10, 1, 25),
  (yX10_person, cX10_person, 4, (some .int), 10, 2, 45),
  (yX10_seat, cX10_seat, 4, (some .int), 10, 2, 46),
  (yX10_type, cX10_type, 3, (some .int), 10, 2, 46),
  (yX10_wipe, cX10_wipe, 3, (some .int), 10, 2, 46),
  (yX10_here, cX10_here, 2, (some .int), 10, 0, 0),
  (yX10_readsHabit, cX10_readsHabit, 7, (some .boolean), 10, 1, 25),
  (yX10_reads, cX10_reads, 3, (some .int), 10, 2, 51),
  (yX10_fault, cX10_fault, 2, (some .int), 10, 3, 73),
  (yX10_isDial, cX10_isDial, 2, (some .boolean), 10, 1, 25),
  (yX10_isReal, cX10_isReal, 2, (some .boolean), 10, 2, 46),
  (yX10_isNumber, cX10_isNumber, 2, (some .boolean), 10, 2, 45),
  (yX10_dial, cX10_dial, 4, (some .int), 10, 3, 66),
  (yX10_tune, cX10_tune, 5, (some .int), 10, 3, 66),
  (yX10_isThere, cX10_isThere, 3, (some .boolean), 10, 0, 0),
  (yX10_isTried, cX10_isTried, 7, (some .boolean), 10, 2, 46),
  (yX10_acts, cX10_acts, 7, (some .boolean), 10, 3, 72),
  (yX10_gives, cX10_gives, 5, none, 10, 0, 0),
  (yX10_isShut, cX10_isShut, 5, (some .boolean), 10, 1, 22),
  (yX10_works, cX10_works, 8, none, 10, 2, 46),
  (yX10_flows, cX10_flows, 5, none, 10, 0, 0),
  (yX10_isFight, cX10_isFight, 5, (some .boolean), 10, 0, 0),
  (yX10_steps, cX10_steps, 6, none, 10, 4, 98),
  (yX10_runs, cX10_runs, 2, none, 10, 5, 123),
  (yX10_warmth, cX10_warmth, 4, (some .int), 10, 6, 144),
  (yX10_isStep, cX10_isStep, 1, (some .boolean), 10, 1, 25),
  (yX10_number, cX10_number, 3, (some .int), 10, 6, 144),
  (yX10_did, cX10_did, 4, (some .int), 10, 6, 144),
  (yX10_allOf, cX10_allOf, 5, (some .int), 10, 0, 0),
  (yX10_pointsNow, cX10_pointsNow, 3, (some .int), 10, 1, 24),
  (yX10_all, cX10_all, 3, (some .int), 10, 6, 144),
  (yX10_run, cX10_run, 2, (some .int), 10, 6, 144),
  (yX10_areTwo, cX10_areTwo, 3, (some .boolean), 10, 2, 46),
  (yX10_harm, cX10_harm, 4, (some .int), 10, 6, 144),
  (yX10_fight, cX10_fight, 3, (some .int), 10, 6, 144),
  (yX10_findLeads, cX10_findLeads, 3, none, 10, 6, 144),
  (yX10_leads, cX10_leads, 3, (some .int), 10, 7, 166),
  (yX10_ringNow, cX10_ringNow, 4, (some .int), 10, 7, 166),
  (yX10_ring, cX10_ring, 1, (some .int), 10, 8, 189),
  (yX10_realDial, cX10_realDial, 4, (some .int), 10, 0, 0),
  (yX10_best, cX10_best, 13, (some .int), 10, 6, 144),
  (yX10_seatsBy, cX10_seatsBy, 8, (some .boolean), 10, 0, 0),
  (yX10_seats, cX10_seats, 7, (some .int), 10, 6, 144),
  (yX10_feel, cX10_feel, 7, (some .int), 10, 6, 144),
  (yX10_worth, cX10_worth, 3, (some .int), 10, 6, 144),
  (yX10_noVote, cX10_noVote, 4, (some .int), 10, 1, 25),
  (yX10_pressed, cX10_pressed, 6, (some .int), 10, 0, 0),
  (yX10_numberBy, cX10_numberBy, 4, (some .int), 10, 1, 25),
  (yX10_vote, cX10_vote, 5, (some .int), 10, 3, 67),
  (yX10_gain, cX10_gain, 12, (some .int), 10, 6, 144),
  (yX10_monday, cX10_monday, 7, (some .int), 10, 6, 144),
  (yX10_span, cX10_span, 11, (some .int), 10, 2, 45),
  (yX10_write, cX10_write, 5, (some .int), 10, 6, 144),
  (yX10_count, cX10_count, 4, (some .int), 10, 0, 0),
  (yX10_digest, cX10_digest, 6, (some .long), 10, 8, 189),
  (yJ6_compare_7cf53, cJ6_compare_7cf53, 2, (some .int), 12, 0, 0),
  (yJ6_bitCount_0f7a4, cJ6_bitCount_0f7a4, 1, (some .int), 12, 0, 0),
  (yJ9_max_7cf53, cJ9_max_7cf53, 2, (some .int), 13, 0, 0),
  (yJ9_min_7cf53, cJ9_min_7cf53, 2, (some .int), 13, 0, 0),
  (yJ7_rangeCheck_23922, cJ7_rangeCheck_23922, 3, none, 14, 0, 0),
  (yJ7_fill_53178, cJ7_fill_53178, 4, none, 14, 0, 0),
  (yJ7_fill_fda19, cJ7_fill_fda19, 5, none, 14, 1, 22),
  (yX0_init, cX0_init, 2, none, 0, 2, 50),
  (yX0_play, cX0_play, 1, none, 0, 4, 101),
  (yX0_begin, cX0_begin, 1, none, 0, 1, 30),
  (yX0_playSteps, cX0_playSteps, 4, none, 0, 3, 78),
  (yX0_letPersonsAct, cX0_letPersonsAct, 4, none, 0, 2, 53),
  (yX0_doFirstThatFits, cX0_doFirstThatFits, 9, (some .boolean), 0, 1, 25),
  (yX0_press, cX0_press, 6, (some .boolean), 0, 0, 0),
  (yX0_isAbsent, cX0_isAbsent, 2, (some .boolean), 0, 0, 0),
  (yX0_flowBetweenCells, cX0_flowBetweenCells, 6, none, 0, 1, 25),
  (yX0_flowBetween, cX0_flowBetween, 6, none, 0, 0, 0),
  (yX0_letDialsWork, cX0_letDialsWork, 4, none, 0, 2, 55),
  (yX0_shutCells, cX0_shutCells, 4, (some .int), 0, 1, 21),
  (yX0_addGifts, cX0_addGifts, 7, none, 0, 1, 29),
  (yX0_addGrilles, cX0_addGrilles, 10, none, 0, 0, 0),
  (yX0_costOf, cX0_costOf, 5, (some .int), 0, 1, 20),
  (yX0_settle, cX0_settle, 7, none, 0, 1, 21),
  (yX0_givePoints, cX0_givePoints, 6, none, 0, 1, 21),
  (yX0_isFight, cX0_isFight, 6, (some .boolean), 0, 2, 55),
  (yX1_init, cX1_init, 2, none, 1, 2, 50),
  (yX1_putWallBeside, cX1_putWallBeside, 5, (some .boolean), 1, 0, 0),
  (yX1_putWallBelow, cX1_putWallBelow, 5, (some .boolean), 1, 0, 0),
  (yX1_habitBytes, cX1_habitBytes, 3, (some .int), 1, 0, 0),
  (yX1_realDialFrom, cX1_realDialFrom, 3, (some .int), 1, 0, 0),
  (yX2_init, cX2_init, 1, none, 2, 1, 30),
  (yX2_clear, cX2_clear, 1, none, 2, 0, 0),
  (yX2_add, cX2_add, 2, none, 2, 2, 42),
  (yX2_faultPlace, cX2_faultPlace, 1, (some .int), 2, 0, 0),
  (yX2_goesOn, cX2_goesOn, 2, (some .boolean), 2, 1, 21),
  (yX2_takesLetter, cX2_takesLetter, 2, (some .boolean), 2, 0, 0),
  (yX2_takesNumber, cX2_takesNumber, 2, (some .boolean), 2, 0, 0),
  (yX2_takesDial, cX2_takesDial, 2, (some .boolean), 2, 0, 0),
  (yX2_takesSign, cX2_takesSign, 2, (some .boolean), 2, 0, 0),
  (yX2_takesEnd, cX2_takesEnd, 2, (some .boolean), 2, 0, 0),
  (yX3_init, cX3_init, 1, none, 3, 1, 30),
  (yX3_follow, cX3_follow, 2, none, 3, 1, 30),
  (yX4_init, cX4_init, 1, none, 4, 1, 30),
  (yX5_init, cX5_init, 1, none, 5, 1, 30),
  (yX5_begin, cX5_begin, 3, none, 5, 1, 21),
  (yX5_note, cX5_note, 2, none, 5, 1, 30),
  (yX5_nextOrder, cX5_nextOrder, 5, (some .boolean), 5, 1, 23),
  (yX5_swap, cX5_swap, 4, none, 5, 0, 0),
  (yX6_init, cX6_init, 1, none, 6, 1, 30),
  (yX6_bestWithin, cX6_bestWithin, 7, (some .int), 6, 0, 0),
  (yX7_init, cX7_init, 1, none, 7, 1, 30),
  (yX7_isSheet, cX7_isSheet, 1, (some .boolean), 7, 1, 22),
  (yX7_isForm, cX7_isForm, 1, (some .boolean), 7, 1, 22),
  (yX7_found, cX7_found, 2, (some .int), 7, 0, 0),
  (yX7_isLost, cX7_isLost, 2, (some .boolean), 7, 0, 0),
  (yX7_size, cX7_size, 2, (some .int), 7, 0, 0),
  (yX7_item, cX7_item, 3, (some .int), 7, 0, 0),
  (yX7_put, cX7_put, 5, none, 7, 0, 0),
  (yX7_renew, cX7_renew, 4, none, 7, 2, 46),
  (yX7_drop, cX7_drop, 2, (some .int), 7, 0, 0),
  (yX7_findingAt, cX7_findingAt, 4, (some .int), 7, 1, 23),
  (yX7_areAlike, cX7_areAlike, 3, (some .boolean), 7, 0, 0),
  (yX7_hasItems, cX7_hasItems, 4, (some .boolean), 7, 0, 0),
  (yX7_move, cX7_move, 6, none, 7, 1, 30),
  (yX8_init, cX8_init, 1, none, 8, 1, 30),
  (yX8_learn, cX8_learn, 3, none, 8, 1, 21),
  (yX8_answer, cX8_answer, 4, (some .int), 8, 1, 21),
  (yX9_init, cX9_init, 1, none, 9, 3, 71),
  (yX9_cell, cX9_cell, 6, (some .int), 9, 2, 42),
  (yX9_read, cX9_read, 5, (some .int), 9, 2, 42),
  (yX9_wall, cX9_wall, 6, (some .int), 9, 2, 42),
  (yX9_set, cX9_set, 4, (some .int), 9, 1, 22),
  (yX9_person, cX9_person, 5, (some .int), 9, 2, 42),
  (yX9_seat, cX9_seat, 4, (some .int), 9, 2, 43),
  (yX9_type, cX9_type, 4, (some .int), 9, 3, 63),
  (yX9_wipe, cX9_wipe, 3, (some .int), 9, 2, 43),
  (yX9_fault, cX9_fault, 2, (some .int), 9, 2, 43),
  (yX9_dial, cX9_dial, 5, (some .int), 9, 2, 43),
  (yX9_tune, cX9_tune, 4, (some .int), 9, 2, 43),
  (yX9_warmth, cX9_warmth, 6, (some .int), 9, 6, 141),
  (yX9_number, cX9_number, 3, (some .int), 9, 6, 141),
  (yX9_did, cX9_did, 6, (some .int), 9, 6, 141),
  (yX9_all, cX9_all, 4, (some .int), 9, 6, 141),
  (yX9_run, cX9_run, 3, (some .int), 9, 6, 141),
  (yX9_harm, cX9_harm, 3, (some .int), 9, 6, 142),
  (yX9_fight, cX9_fight, 6, (some .int), 9, 6, 141),
  (yX9_leads, cX9_leads, 3, (some .int), 9, 6, 142),
  (yX9_ring, cX9_ring, 1, (some .int), 9, 6, 142),
  (yX9_best, cX9_best, 6, (some .int), 9, 6, 145),
  (yX9_seats, cX9_seats, 2, (some .int), 9, 6, 144),
  (yX9_feel, cX9_feel, 5, (some .int), 9, 5, 121),
  (yX9_worth, cX9_worth, 2, (some .int), 9, 6, 141),
  (yX9_vote, cX9_vote, 4, (some .int), 9, 3, 72),
  (yX9_gain, cX9_gain, 10, (some .int), 9, 6, 144),
  (yX9_monday, cX9_monday, 6, (some .int), 9, 4, 101),
  (yX9_span, cX9_span, 5, (some .int), 9, 2, 50),
  (yX9_sheet, cX9_sheet, 4, (some .int), 9, 3, 69),
  (yX9_lose, cX9_lose, 2, (some .int), 9, 2, 42),
  (yX9_lay, cX9_lay, 6, (some .int), 9, 2, 46),
  (yX9_get, cX9_get, 5, (some .int), 9, 2, 46),
  (yX9_copy, cX9_copy, 6, (some .int), 9, 2, 55),
  (yX9_write, cX9_write, 6, (some .int), 9, 6, 141),
  (yX9_count, cX9_count, 2, (some .int), 9, 1, 22),
  (yX9_digest, cX9_digest, 5, (some .long), 9, 6, 142),
  (yX9_mixedRow, cX9_mixedRow, 8, (some .long), 9, 0, 0),
  (yX9_isWithin, cX9_isWithin, 3, (some .boolean), 9, 0, 0),
  (yX9_isCell, cX9_isCell, 1, (some .boolean), 9, 1, 22),
  (yX9_isLastInRow, cX9_isLastInRow, 1, (some .boolean), 9, 0, 0),
  (yX9_isStep, cX9_isStep, 1, (some .boolean), 9, 1, 22),
  (yX9_isNumber, cX9_isNumber, 2, (some .boolean), 9, 1, 22),
  (yX9_triedNumber, cX9_triedNumber, 1, (some .int), 9, 0, 0),
  (yX9_isPerson, cX9_isPerson, 2, (some .boolean), 9, 1, 22),
  (yX9_isDial, cX9_isDial, 2, (some .boolean), 9, 1, 22),
  (yX9_isReal, cX9_isReal, 2, (some .boolean), 9, 2, 43),
  (yX9_exchange, cX9_exchange, 5, (some .int), 9, 0, 0),
  (yX9_playedToday, cX9_playedToday, 1, (some (.object "WarmFloor$Day")), 9, 5, 121),
  (yX9_refreshQuiet, cX9_refreshQuiet, 2, none, 9, 5, 121),
  (yX9_ledBy, cX9_ledBy, 5, (some .int), 9, 0, 0),
  (yX9_ringOf, cX9_ringOf, 4, (some .int), 9, 2, 50),
  (yX9_comesBack, cX9_comesBack, 7, (some .boolean), 9, 1, 24),
  (yX9_refreshSettings, cX9_refreshSettings, 5, none, 9, 5, 121),
  (yX9_refreshSeating, cX9_refreshSeating, 4, none, 9, 5, 121),
  (yX9_arePresses, cX9_arePresses, 3, (some .boolean), 9, 1, 22),
  (yX9_votedNumber, cX9_votedNumber, 10, (some .int), 9, 2, 43),
  (yX9_middle, cX9_middle, 4, (some .int), 9, 0, 0),
  (yX9_pointsByNumber, cX9_pointsByNumber, 4, (some .int), 9, 5, 121),
  (yX9_arePairs, cX9_arePairs, 4, (some .boolean), 9, 1, 22),
  (yL_law, cL_law, 4, (some .boolean), 11, 9, 214)]
def sg_m0 : sg_Mt := (yL_law, cL_law, 0, none, 0, 0, 0)
def sg_mt (m : Nat) : sg_Mt := sg_MT.getD m sg_m0
abbrev sg_my (m : Nat) : MethodName := (sg_mt m).1
abbrev sg_mc (m : Nat) : ByteArray := (sg_mt m).2.1
abbrev sg_ml (m : Nat) : Nat := (sg_mt m).2.2.1
abbrev sg_mr (m : Nat) : Option FieldType := (sg_mt m).2.2.2.1
abbrev sg_mo (m : Nat) : Nat := (sg_mt m).2.2.2.2.1
abbrev sg_fr (m : Nat) : Nat := (sg_mt m).2.2.2.2.2.1
abbrev sg_lo (m : Nat) : Nat := (sg_mt m).2.2.2.2.2.2
/-- number of parameters by words of the stack (the receiver among them) -/
def sg_AC : List Nat := [1, 3, 2, 1, 4, 2, 4, 2, 5, 4, 6, 3, 1, 1, 4, 3, 2, 4, 1, 1, 3, 2, 4, 3, 3, 2, 2, 2, 2, 2, 2, 2, 2, 4, 4, 3, 3, 3, 5, 3, 3, 4, 1, 2, 1, 4, 1, 3, 4, 3, 1, 3, 2, 3, 3, 3, 2, 3, 1, 1, 2, 3, 3, 2, 2, 2, 2, 2, 3, 4, 5, 5, 3, 3, 2, 1, 2, 1, 2, 2, 3, 2, 4, 2, 1, 1, 3, 2, 3, 4, 2, 2, 5, 2, 2, 5, 5, 3, 2, 2, 4, 1, 3, 3, 1, 2, 1, 1, 2, 1, 2, 2, 2, 2, 2, 2, 1, 2, 1, 1, 2, 2, 1, 3, 1, 2, 1, 1, 1, 2, 2, 2, 3, 4, 4, 2, 4, 3, 4, 6, 1, 3, 2, 1, 4, 3, 4, 3, 4, 3, 3, 2, 2, 4, 4, 4, 3, 4, 3, 2, 3, 3, 3, 1, 3, 2, 2, 2, 4, 5, 5, 3, 4, 2, 5, 4, 6, 3, 2, 1, 4, 3, 1, 1, 1, 2, 1, 2, 2, 2, 4, 1, 1, 3, 2, 3, 3, 1, 2, 6, 3, 4, 2, 1]
def sg_ac (m : Nat) : Nat := sg_AC.getD m 0
/-- fields: by own number: entry, number of the object kind, slot, place of its word -/
def sg_FT : List (List (Nat × Nat × Nat × Nat)) := [
  [(12, 0, 0, 295), (18, 0, 1, 297), (22, 0, 2, 299), (25, 0, 3, 301), (28, 0, 4, 303), (31, 0, 5, 305), (34, 0, 6, 307), (37, 0, 7, 309), (40, 0, 10, 315), (44, 0, 12, 318), (47, 0, 13, 319), (50, 0, 14, 320), (53, 0, 15, 321), (56, 0, 11, 317), (67, 1, 0, 153), (76, 1, 1, 156), (77, 3, 1, 273), (86, 0, 8, 311), (89, 0, 9, 313), (108, 1, 5, 167), (111, 3, 3, 279), (114, 1, 9, 179), (124, 3, 0, 270), (131, 1, 7, 173), (134, 1, 8, 176), (137, 2, 1, 118), (140, 2, 2, 120), (144, 2, 4, 124), (147, 2, 3, 122), (154, 2, 5, 126), (161, 1, 11, 185), (164, 1, 2, 159), (167, 1, 10, 182), (170, 3, 4, 282), (173, 1, 3, 161), (177, 1, 4, 164), (197, 1, 12, 189), (206, 3, 2, 276), (209, 1, 15, 198)],
  [(9, 1, 0, 151), (15, 1, 1, 154), (26, 1, 2, 157), (29, 1, 6, 169), (32, 1, 7, 172), (35, 1, 8, 175), (40, 1, 9, 178), (44, 1, 11, 184), (47, 1, 12, 187), (50, 1, 13, 190), (53, 1, 14, 193), (56, 1, 15, 196), (66, 1, 3, 160), (70, 1, 16, 199), (73, 1, 4, 163), (76, 1, 5, 166), (79, 2, 0, 115), (82, 1, 10, 181)],
  [(11, 2, 2, 119), (15, 2, 3, 121), (19, 2, 4, 123), (22, 2, 5, 125), (25, 2, 6, 127), (29, 2, 8, 129), (32, 2, 0, 114), (35, 2, 1, 117), (38, 2, 7, 128)],
  [(9, 3, 0, 269), (15, 3, 1, 272), (18, 3, 2, 275), (21, 1, 6, 170), (30, 1, 13, 191), (31, 1, 14, 194), (32, 3, 3, 278), (36, 3, 4, 281)],
  [(9, 4, 0, 361), (15, 4, 1, 363), (19, 4, 2, 365)],
  [(9, 5, 0, 403), (15, 5, 2, 407), (19, 5, 3, 409), (28, 5, 4, 411), (31, 5, 1, 405)],
  [(9, 6, 0, 380), (15, 6, 2, 384), (19, 6, 3, 386), (22, 6, 1, 382)],
  [(11, 7, 1, 245), (15, 7, 2, 246), (18, 7, 3, 247), (31, 7, 0, 243)],
  [(9, 8, 0, 842), (15, 8, 1, 843), (18, 8, 2, 844), (21, 8, 3, 845)],
  [(12, 9, 0, 423), (19, 9, 1, 424), (28, 9, 2, 425), (32, 9, 3, 426), (38, 9, 4, 427), (45, 9, 5, 428), (52, 9, 6, 429), (64, 1, 0, 152), (68, 1, 1, 155), (71, 1, 16, 200), (116, 1, 2, 158), (119, 1, 5, 168), (122, 1, 6, 171), (125, 1, 7, 174), (128, 1, 8, 177), (134, 1, 9, 180), (138, 2, 0, 116), (158, 1, 10, 183), (161, 1, 11, 186), (164, 1, 12, 188), (167, 1, 13, 192), (170, 1, 14, 195), (173, 1, 15, 197), (188, 0, 1, 298), (189, 0, 2, 300), (193, 0, 3, 302), (196, 0, 4, 304), (199, 0, 5, 306), (202, 0, 6, 308), (205, 0, 7, 310), (208, 0, 8, 312), (211, 0, 9, 314), (217, 4, 1, 364), (242, 6, 2, 385), (246, 5, 1, 406), (248, 5, 3, 410), (254, 0, 0, 296), (263, 3, 2, 277), (267, 3, 4, 283), (284, 3, 3, 280), (334, 1, 3, 162), (340, 1, 4, 165), (346, 7, 0, 244), (360, 0, 10, 316), (363, 4, 0, 362), (370, 4, 2, 366), (377, 6, 0, 381), (378, 6, 1, 383), (381, 3, 1, 274), (382, 6, 3, 387), (385, 5, 0, 404), (388, 3, 0, 271), (389, 5, 2, 408)],
  [(7, 10, 0, 955), (13, 10, 1, 956), (16, 10, 2, 957), (19, 10, 3, 958), (22, 10, 5, 960), (25, 10, 6, 961), (29, 10, 7, 962), (32, 10, 8, 963), (35, 10, 10, 965), (38, 10, 11, 966), (41, 10, 12, 967), (44, 10, 13, 968), (47, 10, 14, 969), (50, 10, 16, 971), (53, 10, 17, 972), (56, 10, 18, 973), (59, 10, 19, 974), (62, 10, 20, 975), (65, 10, 22, 977), (68, 10, 23, 978), (71, 10, 24, 979), (74, 10, 25, 980), (77, 10, 26, 981), (80, 10, 27, 982), (83, 10, 28, 983), (86, 10, 29, 984), (89, 10, 30, 985), (92, 10, 31, 986), (95, 10, 33, 988), (98, 10, 34, 989), (101, 10, 35, 990), (104, 10, 36, 991), (107, 10, 38, 993), (111, 10, 39, 994), (114, 10, 41, 996), (117, 10, 42, 997), (120, 10, 44, 999), (123, 10, 45, 1000), (126, 10, 46, 1001), (129, 10, 47, 1002), (132, 10, 48, 1003), (135, 10, 4, 959), (191, 10, 9, 964), (199, 10, 15, 970), (217, 10, 21, 976), (232, 10, 40, 995), (247, 10, 32, 987), (250, 10, 37, 992), (264, 10, 43, 998)],
  [],
  [],
  [],
  []]
def sg_fl (o i : Nat) : Option (Nat × Nat × Nat) := ((sg_FT.getD o []).find? (fun e => e.1 == i)).map (fun e => e.2)
/-- calls: by own number: entry, kind, method, place of its word -/
def sg_KT : List (List (Nat × Nat × Nat × Nat)) := [
  [(3, 6, 0, 262), (11, 5, 116, 265), (60, 2, 85, 607), (63, 2, 86, 613), (70, 7, 0, 611), (80, 1, 81, 612), (92, 2, 87, 617), (96, 2, 91, 634), (99, 2, 93, 644), (102, 2, 98, 671), (105, 2, 99, 677), (118, 2, 109, 621), (127, 2, 88, 622), (150, 2, 90, 626), (157, 2, 89, 630), (181, 2, 92, 640), (185, 2, 94, 648), (189, 2, 95, 652), (193, 2, 97, 661), (200, 2, 96, 656), (203, 4, 183, 660), (212, 1, 77, 665), (217, 1, 79, 675), (222, 1, 78, 676)],
  [(3, 6, 0, 94), (21, 8, 0, 97), (59, 1, 81, 106), (65, 5, 106, 110)],
  [(3, 6, 0, 113), (41, 2, 110, 528), (45, 2, 111, 532), (48, 2, 112, 536), (51, 2, 113, 540), (54, 2, 114, 544), (57, 2, 115, 548)],
  [(3, 6, 0, 268), (24, 7, 0, 600)],
  [(3, 6, 0, 360)],
  [(3, 6, 0, 402), (22, 1, 79, 768), (34, 7, 0, 773), (40, 2, 123, 778)],
  [(3, 6, 0, 379)],
  [(3, 6, 0, 241), (21, 1, 81, 242), (27, 4, 181, 462), (35, 1, 82, 876), (38, 2, 130, 898), (42, 2, 138, 899), (45, 7, 0, 925)],
  [(3, 6, 0, 841), (24, 1, 78, 859), (30, 1, 79, 860)],
  [(3, 6, 0, 86), (11, 3, 101, 91), (18, 3, 126, 238), (25, 3, 83, 259), (37, 5, 118, 357), (44, 5, 124, 376), (51, 5, 119, 399), (56, 1, 182, 449), (60, 1, 181, 452), (75, 1, 127, 459), (78, 2, 130, 463), (81, 2, 129, 467), (85, 2, 131, 471), (88, 1, 79, 475), (94, 2, 132, 478), (97, 1, 78, 486), (100, 1, 183, 489), (103, 2, 102, 492), (107, 2, 103, 496), (131, 2, 187, 516), (143, 2, 108, 524), (147, 2, 107, 556), (150, 2, 109, 564), (154, 1, 185, 572), (176, 2, 188, 579), (179, 2, 190, 583), (184, 2, 191, 592), (190, 1, 184, 685), (214, 2, 192, 704), (218, 2, 100, 713), (221, 2, 193, 721), (225, 2, 194, 729), (229, 2, 105, 741), (232, 2, 196, 745), (236, 2, 125, 752), (239, 1, 186, 749), (243, 2, 197, 760), (251, 2, 189, 786), (258, 2, 117, 596), (264, 2, 84, 603), (270, 2, 198, 798), (273, 2, 199, 802), (277, 2, 168, 817), (281, 2, 201, 818), (287, 2, 85, 826), (290, 2, 86, 827), (293, 2, 202, 832), (298, 5, 140, 838), (299, 2, 141, 855), (302, 2, 142, 861), (305, 1, 128, 869), (308, 2, 134, 872), (312, 2, 135, 886), (315, 2, 136, 894), (318, 2, 133, 903), (324, 2, 137, 916), (327, 2, 138, 920), (330, 2, 139, 921), (337, 1, 77, 934), (343, 2, 104, 935), (353, 2, 178, 945), (356, 1, 180, 946), (364, 7, 0, 708), (373, 2, 195, 733), (386, 2, 120, 764), (392, 2, 121, 769), (395, 2, 122, 774), (399, 1, 76, 806), (402, 2, 200, 809)],
  [(1, 6, 0, 954), (140, 1, 1, 1111), (144, 1, 3, 1107), (150, 2, 2, 1115), (154, 2, 6, 1127), (158, 1, 7, 1131), (165, 1, 12, 1147), (168, 1, 13, 1151), (173, 2, 11, 1159), (176, 2, 14, 1163), (179, 1, 16, 1168), (185, 1, 18, 1176), (188, 1, 19, 1179), (194, 2, 21, 1190), (202, 2, 26, 1215), (211, 2, 27, 1211), (214, 2, 28, 1207), (220, 2, 30, 1235), (227, 1, 32, 1226), (235, 2, 36, 1257), (238, 2, 35, 1265), (241, 2, 39, 1273), (244, 2, 38, 1277), (253, 2, 37, 1253), (256, 2, 41, 1261), (260, 2, 40, 1269), (267, 2, 42, 1281), (271, 2, 43, 1249), (277, 2, 44, 1245), (282, 1, 46, 1289), (285, 2, 49, 1301), (288, 2, 50, 1309), (292, 2, 53, 1317), (295, 2, 56, 1329), (298, 2, 58, 1337), (303, 2, 60, 1346), (308, 2, 62, 1355), (311, 2, 31, 1363), (314, 2, 67, 1383), (317, 2, 66, 1375), (320, 2, 68, 1379), (329, 2, 74, 1414)],
  [(9, 3, 143, 83), (12, 3, 0, 951), (13, 2, 144, 445), (17, 2, 14, 1143), (18, 2, 145, 455), (22, 2, 15, 1155), (23, 2, 146, 482), (27, 2, 17, 1164), (28, 2, 147, 500), (31, 2, 20, 1171), (32, 2, 148, 508), (35, 2, 22, 1182), (36, 2, 149, 512), (39, 2, 23, 1186), (40, 2, 150, 520), (43, 2, 24, 1194), (44, 2, 151, 552), (48, 2, 25, 1199), (49, 2, 152, 560), (52, 2, 29, 1203), (53, 2, 153, 568), (56, 2, 33, 1222), (57, 2, 154, 575), (60, 2, 34, 1231), (61, 2, 155, 588), (64, 2, 45, 1240), (65, 2, 156, 681), (68, 2, 47, 1285), (69, 2, 157, 688), (72, 2, 48, 1293), (73, 2, 158, 692), (76, 2, 51, 1297), (77, 2, 159, 696), (80, 2, 52, 1305), (81, 2, 160, 700), (84, 2, 54, 1313), (85, 2, 161, 709), (88, 2, 55, 1321), (89, 2, 162, 717), (92, 2, 57, 1325), (93, 2, 163, 725), (97, 2, 59, 1333), (98, 2, 164, 737), (101, 2, 61, 1341), (102, 2, 165, 756), (105, 2, 63, 1350), (106, 2, 166, 782), (109, 2, 64, 1359), (110, 2, 167, 790), (113, 2, 65, 1367), (114, 2, 168, 794), (117, 2, 69, 1371), (118, 2, 169, 813), (122, 2, 70, 1387), (123, 2, 170, 822), (126, 2, 71, 1391), (127, 2, 171, 828), (130, 2, 72, 1396), (131, 2, 172, 865), (134, 2, 4, 1103), (135, 2, 173, 882), (138, 2, 5, 1119), (139, 2, 174, 890), (142, 2, 8, 1123), (143, 2, 175, 907), (146, 2, 9, 1134), (147, 2, 176, 912), (151, 2, 10, 1139), (152, 2, 177, 926), (155, 2, 73, 1400), (156, 2, 178, 930), (159, 2, 74, 1404), (160, 2, 179, 939), (164, 2, 75, 1408)],
  [],
  [],
  [(13, 1, 80, 879)]]
def sg_kl (o i : Nat) : Option (Nat × Nat × Nat) := ((sg_KT.getD o []).find? (fun e => e.1 == i)).map (fun e => e.2)
/-- new: by own number: entry, number of the object kind, place -/
def sg_NT : List (List (Nat × Nat × Nat)) := [
  [(9, 3, 263)],
  [(38, 2, 104)],
  [],
  [],
  [],
  [],
  [],
  [],
  [],
  [(9, 1, 89), (16, 7, 236), (23, 0, 257), (35, 4, 355), (42, 6, 374), (49, 5, 397), (296, 8, 836)],
  [],
  [(7, 9, 81), (10, 10, 949)],
  [],
  [],
  []]
def sg_nl (o i : Nat) : Option (Nat × Nat) := ((sg_NT.getD o []).find? (fun e => e.1 == i)).map (fun e => e.2)
/-- constants: by own number: entry, value, place -/
def sg_IT : List (List (Nat × Int32 × Nat)) := [
  [(176, 8255455, 638), (180, 262143, 639)],
  [],
  [],
  [],
  [],
  [],
  [],
  [],
  [],
  [(183, 16777215, 587), (323, -2147483648, 911)],
  [(162, -2147483648, 1138)],
  [],
  [(265, 1431655765, 668), (266, 858993459, 669), (267, 252645135, 670)],
  [],
  []]
def sg_il (o i : Nat) : Option (Int32 × Nat) := ((sg_IT.getD o []).find? (fun e => e.1 == i)).map (fun e => e.2)
def sg_JT : List (List (Nat × Int64 × Nat)) := [
  [],
  [],
  [],
  [],
  [],
  [],
  [],
  [],
  [],
  [(349, 17, 943), (351, 31, 944)],
  [(138, 3, 1110), (148, 2, 1114), (163, 23, 1150), (171, 400, 1154), (183, 5, 1175), (197, 255, 1198), (205, 48, 1219), (207, 57, 1220), (209, 55, 1221), (223, 100, 1229), (225, 300, 1230), (230, 16777215, 1239), (275, 40, 1244), (280, 39, 1292), (301, 9999, 1345), (306, -1, 1354), (323, 600, 1395), (325, 17, 1412), (327, 31, 1413)],
  [],
  [],
  [],
  []]
def sg_jl (o i : Nat) : Option (Int64 × Nat) := ((sg_JT.getD o []).find? (fun e => e.1 == i)).map (fun e => e.2)
/-- static arrays: own, entry, number, place, by nest -/
def sg_GT : List (Nat × Nat × Nat × Nat × Nat) := [(9, 110, 0, 504, 0), (9, 113, 1, 506, 0), (1, 18, 2, 95, 1)]
def sg_gl (o i : Nat) : Option (Nat × Nat × Nat) := (sg_GT.find? (fun e => e.1 == o && e.2.1 == i)).map (fun e => e.2.2)
/-- the shapes of the cells: 0 object (kind), 1 ints (length), 2 booleans (length), 3 references (length); where the references go -/
def sg_SH : List (Nat × Nat × List Nat) := [
  (0, 9, [1, 44, 48, 64, 80, 83, 86]),
  (0, 1, [2, 3, 4, 0, 0, 0, 5, 6, 7, 8, 0, 9, 10, 11, 12, 13, 0]),
  (1, 24, []),
  (1, 24, []),
  (1, 6, []),
  (1, 6, []),
  (1, 6, []),
  (1, 6, []),
  (3, 6, [14, 19, 24, 29, 34, 39]),
  (1, 8, []),
  (1, 8, []),
  (1, 8, []),
  (1, 8, []),
  (1, 8, []),
  (0, 2, [0, 0, 15, 16, 17, 18, 0, 0, 0]),
  (2, 7, []),
  (1, 7, []),
  (1, 7, []),
  (2, 7, []),
  (0, 2, [0, 0, 20, 21, 22, 23, 0, 0, 0]),
  (2, 7, []),
  (1, 7, []),
  (1, 7, []),
  (2, 7, []),
  (0, 2, [0, 0, 25, 26, 27, 28, 0, 0, 0]),
  (2, 7, []),
  (1, 7, []),
  (1, 7, []),
  (2, 7, []),
  (0, 2, [0, 0, 30, 31, 32, 33, 0, 0, 0]),
  (2, 7, []),
  (1, 7, []),
  (1, 7, []),
  (2, 7, []),
  (0, 2, [0, 0, 35, 36, 37, 38, 0, 0, 0]),
  (2, 7, []),
  (1, 7, []),
  (1, 7, []),
  (2, 7, []),
  (0, 2, [0, 0, 40, 41, 42, 43, 0, 0, 0]),
  (2, 7, []),
  (1, 7, []),
  (1, 7, []),
  (2, 7, []),
  (0, 7, [0, 45, 46, 47]),
  (1, 4, []),
  (1, 4, []),
  (1, 240, []),
  (0, 0, [49, 53, 54, 55, 56, 57, 58, 59, 0, 0, 0, 1, 60, 61, 62, 63]),
  (0, 3, [50, 51, 52, 0, 0]),
  (1, 6, []),
  (1, 8, []),
  (1, 8, []),
  (1, 984, []),
  (1, 984, []),
  (1, 320, []),
  (1, 240, []),
  (1, 240, []),
  (1, 6, []),
  (1, 6, []),
  (1, 8, []),
  (1, 48, []),
  (1, 24, []),
  (1, 24, []),
  (0, 0, [65, 69, 70, 71, 72, 73, 74, 75, 0, 0, 0, 1, 76, 77, 78, 79]),
  (0, 3, [66, 67, 68, 0, 0]),
  (1, 6, []),
  (1, 8, []),
  (1, 8, []),
  (1, 984, []),
  (1, 984, []),
  (1, 320, []),
  (1, 240, []),
  (1, 240, []),
  (1, 6, []),
  (1, 6, []),
  (1, 8, []),
  (1, 48, []),
  (1, 24, []),
  (1, 24, []),
  (0, 4, [0, 81, 82]),
  (1, 36, []),
  (1, 36, []),
  (0, 6, [0, 0, 84, 85]),
  (1, 64, []),
  (1, 64, []),
  (0, 5, [0, 0, 87, 88, 0]),
  (1, 5, []),
  (1, 5, []),
  (0, 10, [90, 91, 92, 93, 0, 94, 95, 96, 97, 0, 98, 99, 100, 101, 102, 0, 103, 104, 105, 106, 107, 0, 108, 109, 110, 111, 112, 113, 114, 115, 116, 117, 0, 118, 119, 120, 121, 0, 0, 0, 0, 0, 0, 0, 122, 123, 124, 125, 126]),
  (1, 4, []),
  (1, 4, []),
  (1, 240, []),
  (1, 60, []),
  (1, 48, []),
  (2, 24, []),
  (2, 24, []),
  (1, 6, []),
  (1, 6, []),
  (1, 6, []),
  (1, 6, []),
  (1, 240, []),
  (1, 6, []),
  (1, 6, []),
  (1, 60, []),
  (1, 60, []),
  (1, 60, []),
  (2, 60, []),
  (1, 8, []),
  (1, 8, []),
  (1, 8, []),
  (1, 8, []),
  (1, 8, []),
  (1, 984, []),
  (1, 984, []),
  (1, 320, []),
  (2, 240, []),
  (1, 240, []),
  (1, 8, []),
  (1, 48, []),
  (1, 24, []),
  (1, 192, []),
  (1, 6, []),
  (1, 6, []),
  (1, 6, []),
  (1, 6, []),
  (1, 6, []),
  (0, 8, [0, 0, 0, 0])]
def sg_sh (k : Nat) : Nat × Nat × List Nat := sg_SH.getD k (9, 0, [])
def sg_kd (k : Nat) : Nat := (sg_sh k).1
def sg_ag (k : Nat) : Nat := (sg_sh k).2.1
def sg_rf (k j : Nat) : Nat := (sg_sh k).2.2.getD j 0
/-- which fields are references -/
def sg_RB : List (List Bool) := [[true, true, true, true, true, true, true, true, false, false, false, true, true, true, true, true], [true, true, true, false, false, false, true, true, true, true, false, true, true, true, true, true, false], [false, false, true, true, true, true, false, false, false], [true, true, true, false, false], [false, true, true], [false, false, true, true, false], [false, false, true, true], [false, true, true, true], [false, false, false, false], [true, true, true, true, true, true, true], [true, true, true, true, false, true, true, true, true, false, true, true, true, true, true, false, true, true, true, true, true, false, true, true, true, true, true, true, true, true, true, true, false, true, true, true, true, false, false, false, false, false, false, false, true, true, true, true, true]]
def sg_rb (c j : Nat) : Bool := (sg_RB.getD c []).getD j false
def sg_nf (c : Nat) : Nat := (sg_RB.getD c []).length
/-- which fields are final -/
def sg_FB : List (List Bool) := [[true, true, true, true, true, true, true, true, false, false, false, true, true, true, true, true], [true, true, true, false, false, false, true, true, true, true, false, true, true, true, true, true, false], [false, false, true, true, true, true, false, false, false], [true, true, true, false, false], [false, true, true], [false, false, true, true, false], [false, false, true, true], [false, true, true, true], [false, false, false, false], [true, true, true, true, true, true, true], [true, true, true, true, false, true, true, true, true, false, true, true, true, true, true, false, true, true, true, true, true, false, true, true, true, true, true, true, true, true, true, true, false, true, true, true, true, false, false, false, false, false, false, false, true, true, true, true, true]]
def sg_fb (c j : Nat) : Bool := (sg_FB.getD c []).getD j false
/-- places: code, instance or static, selects, initialized -/
def sg_PT : List (Nat × Nat × Nat × Nat) := [(953, 952, 0, 76), (1113, 1112, 0, 76), (1118, 1117, 36, 76), (1109, 1108, 0, 76), (1106, 1104, 1105, 76), (1122, 1120, 1121, 76), (1130, 1129, 37, 76), (1133, 1132, 0, 76), (1126, 1124, 1125, 76), (1137, 1135, 1136, 76), (1142, 1140, 1141, 76), (1162, 1161, 38, 76), (1149, 1148, 0, 76), (1153, 1152, 0, 76), (1146, 1144, 1145, 76), (1158, 1156, 1157, 76), (1170, 1169, 0, 76), (1167, 1165, 1166, 76), (1178, 1177, 0, 76), (1181, 1180, 0, 76), (1174, 1172, 1173, 76), (1193, 1192, 39, 76), (1185, 1183, 1184, 76), (1189, 1187, 1188, 76), (1197, 1195, 1196, 76), (1202, 1200, 1201, 76), (1218, 1217, 42, 76), (1214, 1213, 41, 76), (1210, 1209, 40, 76), (1206, 1204, 1205, 76), (1238, 1237, 43, 76), (1366, 1365, 61, 76), (1228, 1227, 0, 76), (1225, 1223, 1224, 76), (1234, 1232, 1233, 76), (1268, 1267, 49, 76), (1260, 1259, 47, 76), (1256, 1255, 46, 76), (1280, 1279, 52, 76), (1276, 1275, 51, 76), (1272, 1271, 50, 76), (1264, 1263, 48, 76), (1284, 1283, 53, 76), (1252, 1251, 45, 76), (1248, 1247, 44, 76), (1243, 1241, 1242, 76), (1291, 1290, 0, 76), (1288, 1286, 1287, 76), (1296, 1294, 1295, 76), (1304, 1303, 54, 76), (1312, 1311, 55, 76), (1300, 1298, 1299, 76), (1308, 1306, 1307, 76), (1320, 1319, 56, 76), (1316, 1314, 1315, 76), (1324, 1322, 1323, 76), (1332, 1331, 57, 76), (1328, 1326, 1327, 76), (1340, 1339, 58, 76), (1336, 1334, 1335, 76), (1349, 1348, 59, 76), (1344, 1342, 1343, 76), (1358, 1357, 60, 76), (1353, 1351, 1352, 76), (1362, 1360, 1361, 76), (1370, 1368, 1369, 76), (1378, 1377, 62, 76), (1386, 1385, 64, 76), (1382, 1381, 63, 76), (1374, 1372, 1373, 76), (1390, 1388, 1389, 76), (1394, 1392, 1393, 76), (1399, 1397, 1398, 76), (1403, 1401, 1402, 76), (1407, 1405, 1406, 76), (1411, 1409, 1410, 76), (808, 807, 0, 79), (667, 666, 0, 79), (488, 487, 0, 77), (477, 476, 0, 77), (881, 880, 0, 68), (108, 107, 0, 68), (878, 877, 0, 68), (261, 260, 0, 71), (606, 604, 605, 71), (610, 608, 609, 71), (616, 614, 615, 71), (620, 619, 10, 71), (625, 624, 11, 71), (633, 632, 13, 71), (629, 628, 12, 71), (637, 636, 14, 71), (643, 642, 15, 71), (647, 646, 16, 71), (651, 650, 17, 71), (655, 654, 18, 71), (659, 658, 19, 71), (664, 663, 20, 71), (674, 673, 21, 71), (680, 679, 22, 71), (716, 714, 715, 71), (93, 92, 0, 67), (495, 493, 494, 67), (499, 497, 498, 67), (938, 936, 937, 67), (744, 742, 743, 67), (112, 111, 0, 69), (559, 557, 558, 69), (527, 525, 526, 69), (567, 565, 566, 69), (531, 530, 1, 69), (535, 534, 2, 69), (539, 538, 3, 69), (543, 542, 4, 69), (547, 546, 5, 69), (551, 550, 6, 69), (267, 266, 0, 72), (599, 597, 598, 72), (359, 358, 0, 73), (401, 400, 0, 75), (767, 765, 766, 75), (772, 770, 771, 75), (777, 775, 776, 75), (781, 780, 29, 75), (378, 377, 0, 74), (755, 753, 754, 74), (240, 239, 0, 70), (461, 460, 0, 70), (871, 870, 0, 70), (470, 468, 469, 70), (466, 464, 465, 70), (474, 472, 473, 70), (481, 479, 480, 70), (906, 904, 905, 70), (875, 873, 874, 70), (889, 887, 888, 70), (897, 895, 896, 70), (919, 917, 918, 70), (902, 900, 901, 70), (924, 922, 923, 70), (840, 839, 0, 80), (858, 856, 857, 80), (864, 862, 863, 80), (85, 84, 0, 66), (448, 446, 447, 66), (458, 456, 457, 66), (485, 483, 484, 66), (503, 501, 502, 66), (511, 509, 510, 66), (515, 513, 514, 66), (523, 521, 522, 66), (555, 553, 554, 66), (563, 561, 562, 66), (571, 569, 570, 66), (578, 576, 577, 66), (591, 589, 590, 66), (684, 682, 683, 66), (691, 689, 690, 66), (695, 693, 694, 66), (699, 697, 698, 66), (703, 701, 702, 66), (712, 710, 711, 66), (720, 718, 719, 66), (728, 726, 727, 66), (740, 738, 739, 66), (759, 757, 758, 66), (785, 783, 784, 66), (793, 791, 792, 66), (797, 795, 796, 66), (816, 814, 815, 66), (825, 823, 824, 66), (831, 829, 830, 66), (868, 866, 867, 66), (885, 883, 884, 66), (893, 891, 892, 66), (910, 908, 909, 66), (915, 913, 914, 66), (929, 927, 928, 66), (933, 931, 932, 66), (942, 940, 941, 66), (948, 947, 0, 66), (454, 453, 0, 66), (451, 450, 0, 66), (491, 490, 0, 66), (687, 686, 0, 66), (574, 573, 0, 66), (751, 750, 0, 66), (519, 518, 0, 66), (582, 581, 7, 66), (789, 788, 30, 66), (586, 585, 8, 66), (595, 594, 9, 66), (707, 706, 23, 66), (724, 723, 24, 66), (732, 731, 25, 66), (736, 735, 26, 66), (748, 747, 27, 66), (763, 762, 28, 66), (801, 800, 31, 66), (805, 804, 32, 66), (812, 811, 33, 66), (821, 820, 34, 66), (835, 834, 35, 66), (0, 0, 0, 0)]
def sg_pt (m : Nat) : Nat × Nat × Nat × Nat := sg_PT.getD m (0, 0, 0, 0)
abbrev sg_N : Nat := 127
abbrev cx_this : Nat := 0
abbrev cx_floor : Nat := 1
abbrev cx_floor_warm : Nat := 2
abbrev cx_floor_stone : Nat := 3
abbrev cx_floor_setting : Nat := 4
abbrev cx_floor_seat : Nat := 5
abbrev cx_floor_low : Nat := 6
abbrev cx_floor_high : Nat := 7
abbrev cx_floor_habits : Nat := 8
abbrev cx_floor_kind : Nat := 9
abbrev cx_floor_place : Nat := 10
abbrev cx_floor_start : Nat := 11
abbrev cx_floor_feeler : Nat := 12
abbrev cx_floor_grilles : Nat := 13
abbrev cx_floor_habits0 : Nat := 14
abbrev cx_floor_habits0_ifCold : Nat := 15
abbrev cx_floor_habits0_least : Nat := 16
abbrev cx_floor_habits0_dial : Nat := 17
abbrev cx_floor_habits0_up : Nat := 18
abbrev cx_floor_habits1 : Nat := 19
abbrev cx_floor_habits1_ifCold : Nat := 20
abbrev cx_floor_habits1_least : Nat := 21
abbrev cx_floor_habits1_dial : Nat := 22
abbrev cx_floor_habits1_up : Nat := 23
abbrev cx_floor_habits2 : Nat := 24
abbrev cx_floor_habits2_ifCold : Nat := 25
abbrev cx_floor_habits2_least : Nat := 26
abbrev cx_floor_habits2_dial : Nat := 27
abbrev cx_floor_habits2_up : Nat := 28
abbrev cx_floor_habits3 : Nat := 29
abbrev cx_floor_habits3_ifCold : Nat := 30
abbrev cx_floor_habits3_least : Nat := 31
abbrev cx_floor_habits3_dial : Nat := 32
abbrev cx_floor_habits3_up : Nat := 33
abbrev cx_floor_habits4 : Nat := 34
abbrev cx_floor_habits4_ifCold : Nat := 35
abbrev cx_floor_habits4_least : Nat := 36
abbrev cx_floor_habits4_dial : Nat := 37
abbrev cx_floor_habits4_up : Nat := 38
abbrev cx_floor_habits5 : Nat := 39
abbrev cx_floor_habits5_ifCold : Nat := 40
abbrev cx_floor_habits5_least : Nat := 41
abbrev cx_floor_habits5_dial : Nat := 42
abbrev cx_floor_habits5_up : Nat := 43
abbrev cx_sheets : Nat := 44
abbrev cx_sheets_form : Nat := 45
abbrev cx_sheets_length : Nat := 46
abbrev cx_sheets_items : Nat := 47
abbrev cx_today : Nat := 48
abbrev cx_today_plan : Nat := 49
abbrev cx_today_plan_seat : Nat := 50
abbrev cx_today_plan_start : Nat := 51
abbrev cx_today_plan_feeler : Nat := 52
abbrev cx_today_warm : Nat := 53
abbrev cx_today_stone : Nat := 54
abbrev cx_today_numbers : Nat := 55
abbrev cx_today_acted : Nat := 56
abbrev cx_today_points : Nat := 57
abbrev cx_today_actsOf : Nat := 58
abbrev cx_today_pointsOf : Nat := 59
abbrev cx_today_now : Nat := 60
abbrev cx_today_falsePresses : Nat := 61
abbrev cx_today_given : Nat := 62
abbrev cx_today_givenToo : Nat := 63
abbrev cx_trial : Nat := 64
abbrev cx_trial_plan : Nat := 65
abbrev cx_trial_plan_seat : Nat := 66
abbrev cx_trial_plan_start : Nat := 67
abbrev cx_trial_plan_feeler : Nat := 68
abbrev cx_trial_warm : Nat := 69
abbrev cx_trial_stone : Nat := 70
abbrev cx_trial_numbers : Nat := 71
abbrev cx_trial_acted : Nat := 72
abbrev cx_trial_points : Nat := 73
abbrev cx_trial_actsOf : Nat := 74
abbrev cx_trial_pointsOf : Nat := 75
abbrev cx_trial_now : Nat := 76
abbrev cx_trial_falsePresses : Nat := 77
abbrev cx_trial_given : Nat := 78
abbrev cx_trial_givenToo : Nat := 79
abbrev cx_quiet : Nat := 80
abbrev cx_quiet_points : Nat := 81
abbrev cx_quiet_acts : Nat := 82
abbrev cx_settings : Nat := 83
abbrev cx_settings_points : Nat := 84
abbrev cx_settings_costs : Nat := 85
abbrev cx_seating : Nat := 86
abbrev cx_seating_order : Nat := 87
abbrev cx_seating_best : Nat := 88
abbrev cm_this : Nat := 89
abbrev cm_forms : Nat := 90
abbrev cm_sizes : Nat := 91
abbrev cm_items : Nat := 92
abbrev cm_moved : Nat := 93
abbrev cm_begins : Nat := 94
abbrev cm_wallRight : Nat := 95
abbrev cm_wallBelow : Nat := 96
abbrev cm_sets : Nat := 97
abbrev cm_seatOf : Nat := 98
abbrev cm_lows : Nat := 99
abbrev cm_highs : Nat := 100
abbrev cm_text : Nat := 101
abbrev cm_typed : Nat := 102
abbrev cm_habits : Nat := 103
abbrev cm_habitSign : Nat := 104
abbrev cm_habitBy : Nat := 105
abbrev cm_habitDial : Nat := 106
abbrev cm_habitMore : Nat := 107
abbrev cm_kinds : Nat := 108
abbrev cm_dialCell : Nat := 109
abbrev cm_dialNumber : Nat := 110
abbrev cm_feelers : Nat := 111
abbrev cm_grilles : Nat := 112
abbrev cm_warm : Nat := 113
abbrev cm_stone : Nat := 114
abbrev cm_numbers : Nat := 115
abbrev cm_acted : Nat := 116
abbrev cm_points : Nat := 117
abbrev cm_now : Nat := 118
abbrev cm_tries : Nat := 119
abbrev cm_more : Nat := 120
abbrev cm_gives : Nat := 121
abbrev cm_leads : Nat := 122
abbrev cm_withHabits : Nat := 123
abbrev cm_kept : Nat := 124
abbrev cm_sits : Nat := 125
abbrev cm_presses : Nat := 126
abbrev mm_init : Nat := 0
abbrev mm_in : Nat := 1
abbrev mm_met : Nat := 2
abbrev mm_isSheet : Nat := 3
abbrev mm_sheet : Nat := 4
abbrev mm_lose : Nat := 5
abbrev mm_lacks : Nat := 6
abbrev mm_cut : Nat := 7
abbrev mm_lay : Nat := 8
abbrev mm_get : Nat := 9
abbrev mm_copy : Nat := 10
abbrev mm_item : Nat := 11
abbrev mm_isCell : Nat := 12
abbrev mm_isTwo : Nat := 13
abbrev mm_cell : Nat := 14
abbrev mm_read : Nat := 15
abbrev mm_isRight : Nat := 16
abbrev mm_wall : Nat := 17
abbrev mm_leastOf : Nat := 18
abbrev mm_mostOf : Nat := 19
abbrev mm_set : Nat := 20
abbrev mm_isPerson : Nat := 21
abbrev mm_person : Nat := 22
abbrev mm_seat : Nat := 23
abbrev mm_type : Nat := 24
abbrev mm_wipe : Nat := 25
abbrev mm_here : Nat := 26
abbrev mm_readsHabit : Nat := 27
abbrev mm_reads : Nat := 28
abbrev mm_fault : Nat := 29
abbrev mm_isDial : Nat := 30
abbrev mm_isReal : Nat := 31
abbrev mm_isNumber : Nat := 32
abbrev mm_dial : Nat := 33
abbrev mm_tune : Nat := 34
abbrev mm_isThere : Nat := 35
abbrev mm_isTried : Nat := 36
abbrev mm_acts : Nat := 37
abbrev mm_gives : Nat := 38
abbrev mm_isShut : Nat := 39
abbrev mm_works : Nat := 40
abbrev mm_flows : Nat := 41
abbrev mm_isFight : Nat := 42
abbrev mm_steps : Nat := 43
abbrev mm_runs : Nat := 44
abbrev mm_warmth : Nat := 45
abbrev mm_isStep : Nat := 46
abbrev mm_number : Nat := 47
abbrev mm_did : Nat := 48
abbrev mm_allOf : Nat := 49
abbrev mm_pointsNow : Nat := 50
abbrev mm_all : Nat := 51
abbrev mm_run : Nat := 52
abbrev mm_areTwo : Nat := 53
abbrev mm_harm : Nat := 54
abbrev mm_fight : Nat := 55
abbrev mm_findLeads : Nat := 56
abbrev mm_leads : Nat := 57
abbrev mm_ringNow : Nat := 58
abbrev mm_ring : Nat := 59
abbrev mm_realDial : Nat := 60
abbrev mm_best : Nat := 61
abbrev mm_seatsBy : Nat := 62
abbrev mm_seats : Nat := 63
abbrev mm_feel : Nat := 64
abbrev mm_worth : Nat := 65
abbrev mm_noVote : Nat := 66
abbrev mm_pressed : Nat := 67
abbrev mm_numberBy : Nat := 68
abbrev mm_vote : Nat := 69
abbrev mm_gain : Nat := 70
abbrev mm_monday : Nat := 71
abbrev mm_span : Nat := 72
abbrev mm_write : Nat := 73
abbrev mm_count : Nat := 74
abbrev mm_digest : Nat := 75
abbrev mj_compare : Nat := 76
abbrev mj_bitCount : Nat := 77
abbrev mj_max : Nat := 78
abbrev mj_min : Nat := 79
abbrev mj_rangeCheck : Nat := 80
abbrev mj_fill2 : Nat := 81
abbrev mj_fill4 : Nat := 82
abbrev mx_Day_init : Nat := 83
abbrev mx_Day_play : Nat := 84
abbrev mx_Day_begin : Nat := 85
abbrev mx_Day_playSteps : Nat := 86
abbrev mx_Day_letPersonsAct : Nat := 87
abbrev mx_Day_doFirstThatFits : Nat := 88
abbrev mx_Day_press : Nat := 89
abbrev mx_Day_isAbsent : Nat := 90
abbrev mx_Day_flowBetweenCells : Nat := 91
abbrev mx_Day_flowBetween : Nat := 92
abbrev mx_Day_letDialsWork : Nat := 93
abbrev mx_Day_shutCells : Nat := 94
abbrev mx_Day_addGifts : Nat := 95
abbrev mx_Day_addGrilles : Nat := 96
abbrev mx_Day_costOf : Nat := 97
abbrev mx_Day_settle : Nat := 98
abbrev mx_Day_givePoints : Nat := 99
abbrev mx_Day_isFight : Nat := 100
abbrev mx_Floor_init : Nat := 101
abbrev mx_Floor_putWallBeside : Nat := 102
abbrev mx_Floor_putWallBelow : Nat := 103
abbrev mx_Floor_habitBytes : Nat := 104
abbrev mx_Floor_realDialFrom : Nat := 105
abbrev mx_Habits_init : Nat := 106
abbrev mx_Habits_clear : Nat := 107
abbrev mx_Habits_add : Nat := 108
abbrev mx_Habits_faultPlace : Nat := 109
abbrev mx_Habits_goesOn : Nat := 110
abbrev mx_Habits_takesLetter : Nat := 111
abbrev mx_Habits_takesNumber : Nat := 112
abbrev mx_Habits_takesDial : Nat := 113
abbrev mx_Habits_takesSign : Nat := 114
abbrev mx_Habits_takesEnd : Nat := 115
abbrev mx_Plan_init : Nat := 116
abbrev mx_Plan_follow : Nat := 117
abbrev mx_Quiet_init : Nat := 118
abbrev mx_Seating_init : Nat := 119
abbrev mx_Seating_begin : Nat := 120
abbrev mx_Seating_note : Nat := 121
abbrev mx_Seating_nextOrder : Nat := 122
abbrev mx_Seating_swap : Nat := 123
abbrev mx_Settings_init : Nat := 124
abbrev mx_Settings_bestWithin : Nat := 125
abbrev mx_Sheets_init : Nat := 126
abbrev mx_Sheets_isSheet : Nat := 127
abbrev mx_Sheets_isForm : Nat := 128
abbrev mx_Sheets_found : Nat := 129
abbrev mx_Sheets_isLost : Nat := 130
abbrev mx_Sheets_size : Nat := 131
abbrev mx_Sheets_item : Nat := 132
abbrev mx_Sheets_put : Nat := 133
abbrev mx_Sheets_renew : Nat := 134
abbrev mx_Sheets_drop : Nat := 135
abbrev mx_Sheets_findingAt : Nat := 136
abbrev mx_Sheets_areAlike : Nat := 137
abbrev mx_Sheets_hasItems : Nat := 138
abbrev mx_Sheets_move : Nat := 139
abbrev mx_Span_init : Nat := 140
abbrev mx_Span_learn : Nat := 141
abbrev mx_Span_answer : Nat := 142
abbrev mx_init : Nat := 143
abbrev mx_cell : Nat := 144
abbrev mx_read : Nat := 145
abbrev mx_wall : Nat := 146
abbrev mx_set : Nat := 147
abbrev mx_person : Nat := 148
abbrev mx_seat : Nat := 149
abbrev mx_type : Nat := 150
abbrev mx_wipe : Nat := 151
abbrev mx_fault : Nat := 152
abbrev mx_dial : Nat := 153
abbrev mx_tune : Nat := 154
abbrev mx_warmth : Nat := 155
abbrev mx_number : Nat := 156
abbrev mx_did : Nat := 157
abbrev mx_all : Nat := 158
abbrev mx_run : Nat := 159
abbrev mx_harm : Nat := 160
abbrev mx_fight : Nat := 161
abbrev mx_leads : Nat := 162
abbrev mx_ring : Nat := 163
abbrev mx_best : Nat := 164
abbrev mx_seats : Nat := 165
abbrev mx_feel : Nat := 166
abbrev mx_worth : Nat := 167
abbrev mx_vote : Nat := 168
abbrev mx_gain : Nat := 169
abbrev mx_monday : Nat := 170
abbrev mx_span : Nat := 171
abbrev mx_sheet : Nat := 172
abbrev mx_lose : Nat := 173
abbrev mx_lay : Nat := 174
abbrev mx_get : Nat := 175
abbrev mx_copy : Nat := 176
abbrev mx_write : Nat := 177
abbrev mx_count : Nat := 178
abbrev mx_digest : Nat := 179
abbrev mx_mixedRow : Nat := 180
abbrev mx_isWithin : Nat := 181
abbrev mx_isCell : Nat := 182
abbrev mx_isLastInRow : Nat := 183
abbrev mx_isStep : Nat := 184
abbrev mx_isNumber : Nat := 185
abbrev mx_triedNumber : Nat := 186
abbrev mx_isPerson : Nat := 187
abbrev mx_isDial : Nat := 188
abbrev mx_isReal : Nat := 189
abbrev mx_exchange : Nat := 190
abbrev mx_playedToday : Nat := 191
abbrev mx_refreshQuiet : Nat := 192
abbrev mx_ledBy : Nat := 193
abbrev mx_ringOf : Nat := 194
abbrev mx_comesBack : Nat := 195
abbrev mx_refreshSettings : Nat := 196
abbrev mx_refreshSeating : Nat := 197
abbrev mx_arePresses : Nat := 198
abbrev mx_votedNumber : Nat := 199
abbrev mx_middle : Nat := 200
abbrev mx_pointsByNumber : Nat := 201
abbrev mx_arePairs : Nat := 202
abbrev m_law : Nat := 203
