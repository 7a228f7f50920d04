/-! THE SMALL MACHINE: tables of this claim (by wip/whole/gen02.py out of the printed task), then the machine itself. A cell has a number: its place in the order of making; 1000 and on: constants. -/
abbrev aV : Type := Int ⊕ (Int ⊕ Option Nat)
abbrev vI (x : Int) : aV := .inl x
abbrev vL (x : Int) : aV := .inr (.inl x)
abbrev vR (a : Nat) : aV := .inr (.inr (some a))
abbrev vN : aV := .inr (.inr none)
abbrev aI : Type := Nat → Int → Int
abbrev aG : Type := Nat × (Nat → Int → Option Nat)
abbrev aS : Type := Nat × List (Option aV) × List aV × aG × aI × aI
abbrev aM : Type := Nat × MethodName × ByteArray × Nat × Option FieldType × Bool × Nat
def metL : List aM := [(30, x, code, 4, ret, true, 1),
  (0, yX0_init, cX0_init, 1, none, false, 0),
  (0, yX0_copyFrom, cX0_copyFrom, 2, none, false, 1),
  (0, yX0_has, cX0_has, 2, (some Jvm.ClassFile.FieldType.boolean), false, 1),
  (0, yX0_add, cX0_add, 7, (some Jvm.ClassFile.FieldType.int), false, 6),
  (0, yX0_isUnder, cX0_isUnder, 4, (some Jvm.ClassFile.FieldType.boolean), true, 2),
  (0, yX0_costs, cX0_costs, 2, (some Jvm.ClassFile.FieldType.int), false, 1),
  (0, yX0_holds, cX0_holds, 3, (some Jvm.ClassFile.FieldType.int), false, 2),
  (0, yX0_waited, cX0_waited, 3, (some Jvm.ClassFile.FieldType.int), false, 2),
  (0, yX0_loud, cX0_loud, 4, (some Jvm.ClassFile.FieldType.int), false, 2),
  (0, yX0_cords, cX0_cords, 2, (some Jvm.ClassFile.FieldType.int), false, 1),
  (0, yX0_cordsUsed, cX0_cordsUsed, 3, (some Jvm.ClassFile.FieldType.int), false, 0),
  (0, yX0_callOn, cX0_callOn, 3, (some Jvm.ClassFile.FieldType.int), false, 1),
  (0, yX0_mayTakeUp, cX0_mayTakeUp, 4, (some Jvm.ClassFile.FieldType.boolean), false, 3),
  (0, yX0_inCall, cX0_inCall, 3, (some Jvm.ClassFile.FieldType.int), false, 2),
  (0, yX0_hearers, cX0_hearers, 3, (some Jvm.ClassFile.FieldType.int), false, 2),
  (0, yX0_inState, cX0_inState, 4, (some Jvm.ClassFile.FieldType.int), false, 1),
  (0, yX0_townMinutes, cX0_townMinutes, 8, (some Jvm.ClassFile.FieldType.int), false, 3),
  (0, yX0_between, cX0_between, 5, (some Jvm.ClassFile.FieldType.int), false, 2),
  (1, yX1_init, cX1_init, 1, none, false, 0),
  (1, yX1_mistaken, cX1_mistaken, 4, (some Jvm.ClassFile.FieldType.int), true, 2),
  (1, yX1_shortens, cX1_shortens, 6, (some Jvm.ClassFile.FieldType.boolean), true, 2),
  (1, yX1_mistakenOnLine, cX1_mistakenOnLine, 5, (some Jvm.ClassFile.FieldType.int), true, 2),
  (1, yX1_search, cX1_search, 4, (some Jvm.ClassFile.FieldType.boolean), false, 2),
  (1, yX1_choose, cX1_choose, 6, none, false, 4),
  (1, yX1_put, cX1_put, 7, none, false, 4),
  (2, yX2_init, cX2_init, 1, none, false, 0),
  (2, yX2_search, cX2_search, 6, (some Jvm.ClassFile.FieldType.boolean), false, 3),
  (2, yX2_choose, cX2_choose, 4, none, false, 2),
  (2, yX2_put, cX2_put, 7, none, false, 3),
  (3, yX3_init, cX3_init, 1, none, false, 0),
  (3, yX3_pass, cX3_pass, 5, none, false, 2),
  (3, yX3_lineUp, cX3_lineUp, 6, none, false, 1),
  (3, yX3_endCalls, cX3_endCalls, 4, none, false, 2),
  (3, yX3_occupy, cX3_occupy, 3, none, false, 2),
  (3, yX3_beginCalls, cX3_beginCalls, 6, none, false, 1),
  (3, yX3_begin, cX3_begin, 6, none, false, 3),
  (4, yX4_init, cX4_init, 1, none, false, 0),
  (4, yX4_copyFrom, cX4_copyFrom, 2, none, false, 1),
  (4, yX4_has, cX4_has, 2, (some Jvm.ClassFile.FieldType.boolean), false, 1),
  (4, yX4_isEnd, cX4_isEnd, 2, (some Jvm.ClassFile.FieldType.boolean), false, 1),
  (4, yX4_add, cX4_add, 5, (some Jvm.ClassFile.FieldType.int), false, 4),
  (4, yX4_lineOf, cX4_lineOf, 2, (some Jvm.ClassFile.FieldType.int), false, 1),
  (4, yX4_lineBit, cX4_lineBit, 2, (some Jvm.ClassFile.FieldType.int), false, 1),
  (4, yX4_earsOf, cX4_earsOf, 2, (some Jvm.ClassFile.FieldType.int), false, 1),
  (4, yX4_onLine, cX4_onLine, 4, (some Jvm.ClassFile.FieldType.int), false, 1),
  (4, yX4_way, cX4_way, 3, (some Jvm.ClassFile.FieldType.long), false, 2),
  (4, yX4_farthest, cX4_farthest, 4, (some Jvm.ClassFile.FieldType.int), false, 1),
  (4, yX4_wires, cX4_wires, 3, (some Jvm.ClassFile.FieldType.long), true, 3),
  (4, yX4_fallOut, cX4_fallOut, 3, (some Jvm.ClassFile.FieldType.boolean), false, 2),
  (4, yX4_quarrelsWith, cX4_quarrelsWith, 3, (some Jvm.ClassFile.FieldType.boolean), false, 2),
  (5, yX5_init, cX5_init, 1, none, false, 0),
  (5, yX5_copyFrom, cX5_copyFrom, 2, none, false, 1),
  (5, yX5_add, cX5_add, 5, none, false, 4),
  (5, yX5_paid, cX5_paid, 5, (some Jvm.ClassFile.FieldType.int), false, 2),
  (5, yX5_worth, cX5_worth, 6, (some Jvm.ClassFile.FieldType.int), false, 3),
  (6, yX6_init, cX6_init, 1, none, false, 0),
  (6, yX6_copyFrom, cX6_copyFrom, 2, none, false, 1),
  (6, yX6_add, cX6_add, 5, (some Jvm.ClassFile.FieldType.int), false, 4),
  (6, yX6_annul, cX6_annul, 3, (some Jvm.ClassFile.FieldType.boolean), false, 1),
  (6, yX6_valid, cX6_valid, 5, (some Jvm.ClassFile.FieldType.int), false, 0),
  (7, yX7_init, cX7_init, 1, none, false, 0),
  (7, yX7_copyFrom, cX7_copyFrom, 2, none, false, 1),
  (7, yX7_asksCall, cX7_asksCall, 1, (some Jvm.ClassFile.FieldType.boolean), true, 1),
  (7, yX7_usual, cX7_usual, 1, (some Jvm.ClassFile.FieldType.int), true, 1),
  (7, yX7_readTape, cX7_readTape, 2, (some Jvm.ClassFile.FieldType.int), false, 0),
  (7, yX7_readClause, cX7_readClause, 3, none, false, 1),
  (7, yX7_keep, cX7_keep, 2, (some Jvm.ClassFile.FieldType.int), false, 1),
  (7, yX7_dropLast, cX7_dropLast, 1, none, false, 0),
  (7, yX7_regard, cX7_regard, 6, none, false, 5),
  (7, yX7_ruling, cX7_ruling, 7, (some Jvm.ClassFile.FieldType.int), false, 2),
  (7, yX7_isTrue, cX7_isTrue, 5, (some Jvm.ClassFile.FieldType.boolean), false, 1),
  (7, yX7_fits, cX7_fits, 3, (some Jvm.ClassFile.FieldType.boolean), false, 2),
  (8, yX8_init, cX8_init, 1, none, false, 0),
  (8, yX8_copyFrom, cX8_copyFrom, 2, none, false, 1),
  (8, yX8_take, cX8_take, 5, (some Jvm.ClassFile.FieldType.int), false, 2),
  (8, yX8_begin, cX8_begin, 2, none, false, 1),
  (8, yX8_isRead, cX8_isRead, 1, (some Jvm.ClassFile.FieldType.boolean), false, 0),
  (8, yX8_next, cX8_next, 1, (some Jvm.ClassFile.FieldType.int), false, 0),
  (8, yX8_expect, cX8_expect, 2, none, false, 1),
  (8, yX8_write, cX8_write, 2, none, false, 1),
  (8, yX8_word, cX8_word, 4, (some Jvm.ClassFile.FieldType.int), false, 0),
  (8, yX8_spelled, cX8_spelled, 1, (some (Jvm.ClassFile.FieldType.object "java/lang/String")), true, 1),
  (8, yX8_number, cX8_number, 4, (some Jvm.ClassFile.FieldType.int), false, 0),
  (8, yX8_any, cX8_any, 3, none, false, 1),
  (8, yX8_all, cX8_all, 3, none, false, 1),
  (8, yX8_one, cX8_one, 4, none, false, 1),
  (8, yX8_letter, cX8_letter, 1, (some Jvm.ClassFile.FieldType.int), true, 1),
  (9, yX9_init, cX9_init, 1, none, false, 0),
  (9, yX9_copyFrom, cX9_copyFrom, 2, none, false, 1),
  (9, yX9_turn, cX9_turn, 4, (some Jvm.ClassFile.FieldType.boolean), false, 2),
  (9, yX9_addRing, cX9_addRing, 4, (some Jvm.ClassFile.FieldType.int), false, 2),
  (9, yX9_isMaybe, cX9_isMaybe, 3, (some Jvm.ClassFile.FieldType.boolean), false, 1),
  (9, yX9_addMaybe, cX9_addMaybe, 2, (some Jvm.ClassFile.FieldType.int), false, 1),
  (9, yX9_explain, cX9_explain, 3, none, false, 0),
  (9, yX9_cutsOf, cX9_cutsOf, 4, (some Jvm.ClassFile.FieldType.int), false, 1),
  (9, yX9_explains, cX9_explains, 4, (some Jvm.ClassFile.FieldType.boolean), false, 1),
  (10, yX10_init, cX10_init, 1, none, false, 0),
  (10, yX10_today, cX10_today, 1, (some Jvm.ClassFile.FieldType.int), false, 0),
  (10, yX10_copyFrom, cX10_copyFrom, 2, none, false, 1),
  (10, yX10_regard, cX10_regard, 3, none, false, 1),
  (10, yX10_ruled, cX10_ruled, 5, (some Jvm.ClassFile.FieldType.int), false, 3),
  (10, yX10_rankOn, cX10_rankOn, 5, (some Jvm.ClassFile.FieldType.int), false, 2),
  (10, yX10_isFaint, cX10_isFaint, 2, (some Jvm.ClassFile.FieldType.boolean), false, 1),
  (10, yX10_tellable, cX10_tellable, 4, (some Jvm.ClassFile.FieldType.int), false, 1),
  (10, yX10_dueOn, cX10_dueOn, 4, (some Jvm.ClassFile.FieldType.int), false, 2),
  (10, yX10_behindOn, cX10_behindOn, 5, (some Jvm.ClassFile.FieldType.int), false, 2),
  (10, yX10_behindFrom, cX10_behindFrom, 4, (some Jvm.ClassFile.FieldType.int), false, 1),
  (11, yX11_init, cX11_init, 1, none, false, 0),
  (11, yX11_farm, cX11_farm, 4, (some Jvm.ClassFile.FieldType.int), false, 3),
  (11, yX11_code, cX11_code, 5, (some Jvm.ClassFile.FieldType.int), false, 3),
  (11, yX11_like, cX11_like, 3, (some Jvm.ClassFile.FieldType.int), false, 2),
  (11, yX11_mistakes, cX11_mistakes, 2, (some Jvm.ClassFile.FieldType.int), false, 1),
  (11, yX11_best, cX11_best, 5, (some Jvm.ClassFile.FieldType.int), false, 3),
  (11, yX11_feed, cX11_feed, 4, (some Jvm.ClassFile.FieldType.int), false, 2),
  (11, yX11_text, cX11_text, 3, (some Jvm.ClassFile.FieldType.int), false, 1),
  (11, yX11_force, cX11_force, 4, (some Jvm.ClassFile.FieldType.int), false, 3),
  (11, yX11_why, cX11_why, 5, (some Jvm.ClassFile.FieldType.int), false, 3),
  (11, yX11_ring, cX11_ring, 5, (some Jvm.ClassFile.FieldType.int), false, 3),
  (11, yX11_call, cX11_call, 4, (some Jvm.ClassFile.FieldType.int), false, 3),
  (11, yX11_of, cX11_of, 3, (some Jvm.ClassFile.FieldType.int), false, 2),
  (11, yX11_as, cX11_as, 3, (some Jvm.ClassFile.FieldType.int), false, 2),
  (11, yX11_minute, cX11_minute, 2, (some Jvm.ClassFile.FieldType.int), false, 1),
  (11, yX11_board, cX11_board, 3, (some Jvm.ClassFile.FieldType.int), false, 2),
  (11, yX11_listen, cX11_listen, 3, (some Jvm.ClassFile.FieldType.int), false, 2),
  (11, yX11_heard, cX11_heard, 2, (some Jvm.ClassFile.FieldType.int), false, 1),
  (11, yX11_down, cX11_down, 4, (some Jvm.ClassFile.FieldType.int), false, 3),
  (11, yX11_reach, cX11_reach, 3, (some Jvm.ClassFile.FieldType.int), false, 2),
  (11, yX11_told, cX11_told, 4, (some Jvm.ClassFile.FieldType.int), false, 3),
  (11, yX11_maybe, cX11_maybe, 3, (some Jvm.ClassFile.FieldType.int), false, 2),
  (11, yX11_storm, cX11_storm, 2, (some Jvm.ClassFile.FieldType.int), false, 1),
  (11, yX11_pay, cX11_pay, 4, (some Jvm.ClassFile.FieldType.int), false, 3),
  (11, yX11_behind, cX11_behind, 3, (some Jvm.ClassFile.FieldType.int), false, 2),
  (11, yX11_since, cX11_since, 2, (some Jvm.ClassFile.FieldType.int), false, 1),
  (11, yX11_town, cX11_town, 5, (some Jvm.ClassFile.FieldType.int), false, 3),
  (11, yX11_quarrel, cX11_quarrel, 3, (some Jvm.ClassFile.FieldType.int), false, 2),
  (11, yX11_divide, cX11_divide, 4, (some Jvm.ClassFile.FieldType.int), false, 3),
  (11, yX11_vote, cX11_vote, 4, (some Jvm.ClassFile.FieldType.int), false, 3),
  (11, yX11_nought, cX11_nought, 2, (some Jvm.ClassFile.FieldType.int), false, 1),
  (11, yX11_counting, cX11_counting, 1, (some Jvm.ClassFile.FieldType.int), false, 0),
  (11, yX11_tried, cX11_tried, 6, (some Jvm.ClassFile.FieldType.int), false, 2),
  (11, yX11_image, cX11_image, 1, (some Jvm.ClassFile.FieldType.int), false, 0),
  (11, yX11_undo, cX11_undo, 1, (some Jvm.ClassFile.FieldType.int), false, 0),
  (11, yX11_count, cX11_count, 2, (some Jvm.ClassFile.FieldType.int), false, 1),
  (11, yX11_within, cX11_within, 3, (some Jvm.ClassFile.FieldType.boolean), true, 3),
  (11, yX11_isWire, cX11_isWire, 2, (some Jvm.ClassFile.FieldType.boolean), true, 2),
  (11, yX11_hasWord, cX11_hasWord, 3, (some Jvm.ClassFile.FieldType.boolean), false, 2),
  (11, yX11_mayLast, cX11_mayLast, 2, (some Jvm.ClassFile.FieldType.boolean), false, 1),
  (12, yX12_in, cX12_in, 3, (some Jvm.ClassFile.FieldType.boolean), true, 3),
  (12, yX12_init, cX12_init, 1, none, false, 0),
  (12, yX12_isLine, cX12_isLine, 1, (some Jvm.ClassFile.FieldType.boolean), true, 1),
  (12, yX12_isFarm, cX12_isFarm, 2, (some Jvm.ClassFile.FieldType.boolean), false, 1),
  (12, yX12_isCall, cX12_isCall, 2, (some Jvm.ClassFile.FieldType.boolean), false, 1),
  (12, yX12_f, cX12_f, 3, (some Jvm.ClassFile.FieldType.int), false, 2),
  (12, yX12_c, cX12_c, 3, (some Jvm.ClassFile.FieldType.int), false, 2),
  (12, yX12_day, cX12_day, 1, (some Jvm.ClassFile.FieldType.int), false, 0),
  (12, yX12_isDay, cX12_isDay, 1, (some Jvm.ClassFile.FieldType.boolean), true, 1),
  (12, yX12_farm, cX12_farm, 5, (some Jvm.ClassFile.FieldType.int), false, 3),
  (12, yX12_code, cX12_code, 5, (some Jvm.ClassFile.FieldType.int), false, 3),
  (12, yX12_bitsOf, cX12_bitsOf, 3, (some Jvm.ClassFile.FieldType.int), true, 1),
  (12, yX12_alike, cX12_alike, 9, (some Jvm.ClassFile.FieldType.int), true, 2),
  (12, yX12_like, cX12_like, 3, (some Jvm.ClassFile.FieldType.int), false, 2),
  (12, yX12_mistakes, cX12_mistakes, 5, (some Jvm.ClassFile.FieldType.int), false, 1),
  (12, yX12_give, cX12_give, 12, none, false, 5),
  (12, yX12_best, cX12_best, 6, (some Jvm.ClassFile.FieldType.int), false, 3),
  (12, yX12_byteHere, cX12_byteHere, 1, (some Jvm.ClassFile.FieldType.int), false, 0),
  (12, yX12_sign, cX12_sign, 2, none, false, 1),
  (12, yX12_spell, cX12_spell, 6, none, false, 5),
  (12, yX12_word, cX12_word, 1, (some Jvm.ClassFile.FieldType.int), false, 0),
  (12, yX12_isDigit, cX12_isDigit, 1, (some Jvm.ClassFile.FieldType.boolean), true, 1),
  (12, yX12_number, cX12_number, 3, (some Jvm.ClassFile.FieldType.int), false, 0),
  (12, yX12_opens, cX12_opens, 1, none, false, 0),
  (12, yX12_fact, cX12_fact, 2, (some Jvm.ClassFile.FieldType.int), false, 1),
  (12, yX12_one, cX12_one, 5, (some Jvm.ClassFile.FieldType.boolean), false, 0),
  (12, yX12_both, cX12_both, 3, (some Jvm.ClassFile.FieldType.boolean), false, 0),
  (12, yX12_either, cX12_either, 3, (some Jvm.ClassFile.FieldType.boolean), false, 0),
  (12, yX12_goesThrough, cX12_goesThrough, 10, none, false, 4),
  (12, yX12_feed, cX12_feed, 5, (some Jvm.ClassFile.FieldType.int), false, 2),
  (12, yX12_text, cX12_text, 5, (some Jvm.ClassFile.FieldType.int), false, 1),
  (12, yX12_plain, cX12_plain, 1, (some Jvm.ClassFile.FieldType.int), true, 1),
  (12, yX12_nextRule, cX12_nextRule, 7, (some Jvm.ClassFile.FieldType.int), false, 2),
  (12, yX12_rules, cX12_rules, 5, (some Jvm.ClassFile.FieldType.int), false, 3),
  (12, yX12_says, cX12_says, 5, (some Jvm.ClassFile.FieldType.int), false, 3),
  (12, yX12_isAsked, cX12_isAsked, 3, (some Jvm.ClassFile.FieldType.boolean), false, 2),
  (12, yX12_force, cX12_force, 4, (some Jvm.ClassFile.FieldType.int), false, 3),
  (12, yX12_why, cX12_why, 5, (some Jvm.ClassFile.FieldType.int), false, 3),
  (12, yX12_asks, cX12_asks, 6, (some Jvm.ClassFile.FieldType.int), false, 4),
  (12, yX12_ring, cX12_ring, 4, (some Jvm.ClassFile.FieldType.int), false, 3),
  (12, yX12_call, cX12_call, 4, (some Jvm.ClassFile.FieldType.int), false, 3),
  (12, yX12_shifted, cX12_shifted, 3, (some Jvm.ClassFile.FieldType.int), false, 2),
  (12, yX12_rankOf, cX12_rankOf, 2, (some Jvm.ClassFile.FieldType.int), false, 1),
  (12, yX12_costOf, cX12_costOf, 3, (some Jvm.ClassFile.FieldType.int), false, 1),
  (12, yX12_lineOf, cX12_lineOf, 2, (some Jvm.ClassFile.FieldType.int), false, 1),
  (12, yX12_needs, cX12_needs, 3, (some Jvm.ClassFile.FieldType.boolean), false, 2),
  (12, yX12_isByBoard, cX12_isByBoard, 2, (some Jvm.ClassFile.FieldType.boolean), false, 1),
  (12, yX12_onLine, cX12_onLine, 4, (some Jvm.ClassFile.FieldType.int), false, 1),
  (12, yX12_off, cX12_off, 2, (some Jvm.ClassFile.FieldType.int), true, 2),
  (12, yX12_loudOf, cX12_loudOf, 8, (some Jvm.ClassFile.FieldType.int), false, 1),
  (12, yX12_of, cX12_of, 3, (some Jvm.ClassFile.FieldType.int), false, 2),
  (12, yX12_over, cX12_over, 1, (some Jvm.ClassFile.FieldType.int), true, 1),
  (12, yX12_as, cX12_as, 4, (some Jvm.ClassFile.FieldType.int), false, 2),
  (12, yX12_isDown, cX12_isDown, 5, (some Jvm.ClassFile.FieldType.boolean), false, 3),
  (12, yX12_isUp, cX12_isUp, 6, (some Jvm.ClassFile.FieldType.boolean), false, 4),
  (12, yX12_toBoard, cX12_toBoard, 3, (some Jvm.ClassFile.FieldType.boolean), false, 2),
  (12, yX12_between, cX12_between, 6, (some Jvm.ClassFile.FieldType.boolean), false, 3),
  (12, yX12_reaches, cX12_reaches, 4, (some Jvm.ClassFile.FieldType.boolean), false, 3),
  (12, yX12_isFree, cX12_isFree, 5, (some Jvm.ClassFile.FieldType.boolean), false, 1),
  (12, yX12_goesBy, cX12_goesBy, 3, none, false, 0),
  (12, yX12_nextWaiting, cX12_nextWaiting, 3, (some Jvm.ClassFile.FieldType.int), false, 0),
  (12, yX12_minute, cX12_minute, 3, (some Jvm.ClassFile.FieldType.int), false, 1),
  (12, yX12_board, cX12_board, 5, (some Jvm.ClassFile.FieldType.int), false, 2),
  (12, yX12_inCall, cX12_inCall, 2, (some Jvm.ClassFile.FieldType.int), false, 1),
  (12, yX12_listen, cX12_listen, 3, (some Jvm.ClassFile.FieldType.int), false, 2),
  (12, yX12_heard, cX12_heard, 2, (some Jvm.ClassFile.FieldType.int), false, 1),
  (12, yX12_isWire, cX12_isWire, 2, (some Jvm.ClassFile.FieldType.boolean), true, 2),
  (12, yX12_down, cX12_down, 5, (some Jvm.ClassFile.FieldType.int), false, 3),
  (12, yX12_isEnd, cX12_isEnd, 2, (some Jvm.ClassFile.FieldType.boolean), false, 1),
  (12, yX12_reach, cX12_reach, 3, (some Jvm.ClassFile.FieldType.int), false, 2),
  (12, yX12_told, cX12_told, 5, (some Jvm.ClassFile.FieldType.int), false, 3),
  (12, yX12_maybe, cX12_maybe, 4, (some Jvm.ClassFile.FieldType.int), false, 2),
  (12, yX12_explains, cX12_explains, 4, (some Jvm.ClassFile.FieldType.boolean), false, 1),
  (12, yX12_storm, cX12_storm, 5, (some Jvm.ClassFile.FieldType.int), false, 1),
  (12, yX12_pay, cX12_pay, 5, (some Jvm.ClassFile.FieldType.int), false, 3),
  (12, yX12_paid, cX12_paid, 7, (some Jvm.ClassFile.FieldType.int), false, 3),
  (12, yX12_behindOn, cX12_behindOn, 5, (some Jvm.ClassFile.FieldType.int), false, 2),
  (12, yX12_behind, cX12_behind, 3, (some Jvm.ClassFile.FieldType.int), false, 2),
  (12, yX12_since, cX12_since, 4, (some Jvm.ClassFile.FieldType.int), false, 1),
  (12, yX12_town, cX12_town, 7, (some Jvm.ClassFile.FieldType.int), false, 3),
  (12, yX12_quarrel, cX12_quarrel, 4, (some Jvm.ClassFile.FieldType.int), false, 2),
  (12, yX12_asked, cX12_asked, 6, (some Jvm.ClassFile.FieldType.int), false, 2),
  (12, yX12_part, cX12_part, 9, none, false, 4),
  (12, yX12_divide, cX12_divide, 6, (some Jvm.ClassFile.FieldType.int), false, 3),
  (12, yX12_vote, cX12_vote, 5, (some Jvm.ClassFile.FieldType.int), false, 3),
  (12, yX12_nought, cX12_nought, 3, (some Jvm.ClassFile.FieldType.int), false, 1),
  (12, yX12_counting, cX12_counting, 5, (some Jvm.ClassFile.FieldType.int), false, 0),
  (12, yX12_triedSays, cX12_triedSays, 4, (some Jvm.ClassFile.FieldType.int), false, 3),
  (12, yX12_tried, cX12_tried, 6, (some Jvm.ClassFile.FieldType.int), false, 2),
  (12, yX12_image, cX12_image, 2, (some Jvm.ClassFile.FieldType.int), false, 0),
  (12, yX12_undo, cX12_undo, 2, (some Jvm.ClassFile.FieldType.int), false, 0),
  (12, yX12_inState, cX12_inState, 4, (some Jvm.ClassFile.FieldType.int), false, 1),
  (12, yX12_count, cX12_count, 2, (some Jvm.ClassFile.FieldType.int), false, 1),
  (23, yJ6_bitCount_0f7a4, cJ6_bitCount_0f7a4, 1, (some Jvm.ClassFile.FieldType.int), true, 1),
  (24, yJ13_bitCount_95d88, cJ13_bitCount_95d88, 2, (some Jvm.ClassFile.FieldType.int), true, 1),
  (20, yJ0_length_8abf5, cJ0_length_8abf5, 1, (some Jvm.ClassFile.FieldType.int), false, 0),
  (20, yJ0_charAt_5068e, cJ0_charAt_5068e, 2, (some Jvm.ClassFile.FieldType.char), false, 1),
  (20, yJ0_coder_7d493, cJ0_coder_7d493, 1, (some Jvm.ClassFile.FieldType.byte), false, 0),
  (20, yJ0_isLatin1_aae02, cJ0_isLatin1_aae02, 1, (some Jvm.ClassFile.FieldType.boolean), false, 0),
  (20, yJ0_checkIndex_df160, cJ0_checkIndex_df160, 2, none, true, 2),
  (21, yJ1_charAt_3b067, cJ1_charAt_3b067, 2, (some Jvm.ClassFile.FieldType.char), true, 2),
  (22, yJ3_checkIndex_8e157, cJ3_checkIndex_8e157, 3, (some Jvm.ClassFile.FieldType.int), true, 3)]
def metD : aM := (99, x, ByteArray.mk #[], 0, none, false, 0)
def met (m : Nat) : aM := metL.getD m metD
def oNum (m : Nat) : Nat := (met m).1
def nam (m : Nat) : MethodName := (met m).2.1
def cod (m : Nat) : ByteArray := (met m).2.2.1
def mxl (m : Nat) : Nat := (met m).2.2.2.1
def rty (m : Nat) : Option FieldType := (met m).2.2.2.2.1
def npr (m : Nat) : Nat := (met m).2.2.2.2.2.2
def oNm : Nat → String
  | 0 => RX0
  | 1 => RX1
  | 2 => RX2
  | 3 => RX3
  | 4 => RX4
  | 5 => RX5
  | 6 => RX6
  | 7 => RX7
  | 8 => RX8
  | 9 => RX9
  | 10 => RX10
  | 11 => RX11
  | 12 => RX12
  | 20 => RJ0
  | 21 => RJ1
  | 22 => RJ3
  | 23 => RJ6
  | 24 => RJ13
  | 25 => RJ9
  | 30 => RL
  | _ => ""
def fldL : List ((Nat × Nat) × (Nat × Nat)) := [((4, 9), (4, 0)), ((11, 48), (4, 0)), ((1, 47), (4, 0)), ((4, 15), (4, 1)), ((1, 52), (4, 1)), ((11, 150), (4, 1)), ((4, 19), (4, 2)), ((4, 22), (4, 3)), ((4, 25), (4, 4)), ((11, 66), (4, 4)), ((1, 55), (4, 4)), ((4, 28), (4, 5)), ((10, 128), (4, 5)), ((4, 31), (4, 6)), ((2, 45), (4, 6)), ((8, 9), (8, 0)), ((7, 78), (8, 0)), ((11, 112), (8, 0)), ((8, 15), (8, 1)), ((7, 75), (8, 1)), ((8, 18), (8, 2)), ((7, 85), (8, 2)), ((8, 21), (8, 3)), ((7, 68), (8, 3)), ((8, 25), (8, 4)), ((7, 98), (8, 4)), ((8, 29), (8, 5)), ((7, 9), (7, 0)), ((11, 119), (7, 0)), ((7, 18), (7, 1)), ((11, 106), (7, 1)), ((7, 22), (7, 2)), ((10, 114), (7, 2)), ((7, 26), (7, 3)), ((7, 29), (7, 4)), ((7, 32), (7, 5)), ((7, 35), (7, 6)), ((7, 38), (7, 7)), ((7, 41), (7, 8)), ((0, 9), (0, 0)), ((3, 51), (0, 0)), ((10, 125), (0, 0)), ((11, 147), (0, 0)), ((0, 15), (0, 1)), ((10, 84), (0, 1)), ((11, 160), (0, 1)), ((0, 19), (0, 2)), ((10, 80), (0, 2)), ((0, 22), (0, 3)), ((10, 91), (0, 3)), ((0, 25), (0, 4)), ((3, 75), (0, 4)), ((0, 28), (0, 5)), ((3, 97), (0, 5)), ((0, 32), (0, 6)), ((3, 69), (0, 6)), ((11, 191), (0, 6)), ((0, 35), (0, 7)), ((3, 59), (0, 7)), ((10, 94), (0, 7)), ((11, 166), (0, 7)), ((0, 38), (0, 8)), ((3, 66), (0, 8)), ((0, 41), (0, 9)), ((3, 56), (0, 9)), ((11, 163), (0, 9)), ((0, 44), (0, 10)), ((11, 209), (0, 10)), ((9, 9), (9, 0)), ((3, 105), (9, 0)), ((11, 235), (9, 0)), ((9, 15), (9, 1)), ((11, 239), (9, 1)), ((9, 19), (9, 2)), ((11, 249), (9, 2)), ((9, 22), (9, 3)), ((11, 261), (9, 3)), ((9, 25), (9, 4)), ((11, 258), (9, 4)), ((9, 28), (9, 5)), ((9, 31), (9, 6)), ((9, 35), (9, 7)), ((9, 39), (9, 8)), ((5, 9), (5, 0)), ((11, 268), (5, 0)), ((5, 15), (5, 1)), ((5, 19), (5, 2)), ((5, 22), (5, 3)), ((5, 25), (5, 4)), ((6, 9), (6, 0)), ((11, 298), (6, 0)), ((6, 15), (6, 1)), ((6, 18), (6, 2)), ((6, 22), (6, 3)), ((6, 25), (6, 4)), ((6, 28), (6, 5)), ((10, 9), (10, 0)), ((3, 41), (10, 0)), ((11, 153), (10, 0)), ((10, 18), (10, 1)), ((2, 40), (10, 1)), ((11, 44), (10, 1)), ((10, 25), (10, 2)), ((11, 102), (10, 2)), ((10, 32), (10, 3)), ((3, 35), (10, 3)), ((2, 48), (10, 3)), ((11, 143), (10, 3)), ((10, 39), (10, 4)), ((3, 101), (10, 4)), ((11, 218), (10, 4)), ((10, 46), (10, 5)), ((11, 264), (10, 5)), ((10, 53), (10, 6)), ((11, 294), (10, 6)), ((3, 9), (3, 0)), ((3, 15), (3, 1)), ((3, 18), (3, 2)), ((3, 22), (3, 3)), ((3, 25), (3, 4)), ((3, 28), (3, 5)), ((1, 9), (1, 0)), ((11, 96), (1, 0)), ((1, 15), (1, 1)), ((11, 99), (1, 1)), ((1, 19), (1, 2)), ((1, 22), (1, 3)), ((1, 25), (1, 4)), ((1, 28), (1, 5)), ((2, 9), (2, 0)), ((11, 292), (2, 0)), ((2, 15), (2, 1)), ((11, 293), (2, 1)), ((2, 19), (2, 2)), ((2, 22), (2, 3)), ((2, 25), (2, 4)), ((2, 28), (2, 5)), ((2, 31), (2, 6)), ((11, 12), (11, 0)), ((11, 19), (11, 1)), ((11, 26), (11, 2)), ((11, 33), (11, 3)), ((11, 37), (11, 4)), ((12, 13), (12, 1)), ((12, 17), (12, 2)), ((12, 20), (12, 3)), ((12, 62), (12, 4)), ((12, 65), (12, 5)), ((12, 78), (12, 6)), ((12, 75), (12, 7)), ((12, 72), (12, 8)), ((12, 98), (12, 9)), ((12, 81), (12, 10)), ((12, 101), (12, 11)), ((12, 126), (12, 12)), ((12, 132), (12, 13)), ((12, 135), (12, 14)), ((12, 23), (12, 15)), ((12, 27), (12, 16)), ((12, 30), (12, 17)), ((12, 33), (12, 18)), ((12, 255), (12, 19)), ((20, 15), (50, 1)), ((20, 9), (50, 0))]
def fldR (m i : Nat) : Option (Nat × Nat) := fldL.lookup (oNum m, i)
def sttL : List ((Nat × Nat) × aV) := [((20, 38), vI 1), ((20, 1053), vR 1050), ((7, 54), vR 1000), ((0, 62), vR 1001)]
def sttR (m i : Nat) : Option aV := sttL.lookup (oNum m, i)
def mthL : List ((Nat × Nat) × (Nat × Nat)) := [((30, 9), (2, 108)), ((11, 3), (5, 0)), ((10, 3), (5, 0)), ((4, 3), (5, 0)), ((7, 3), (5, 0)), ((8, 3), (5, 0)), ((0, 3), (5, 0)), ((9, 3), (5, 0)), ((5, 3), (5, 0)), ((6, 3), (5, 0)), ((3, 3), (5, 0)), ((1, 3), (5, 0)), ((2, 3), (5, 0)), ((30, 13), (0, 109)), ((11, 40), (1, 144)), ((11, 54), (0, 98)), ((11, 58), (0, 41)), ((30, 18), (0, 110)), ((11, 62), (0, 39)), ((30, 22), (0, 111)), ((11, 70), (1, 20)), ((1, 31), (1, 241)), ((1, 37), (7, 0)), ((1, 43), (1, 21)), ((30, 27), (0, 112)), ((11, 74), (1, 22)), ((1, 58), (1, 20)), ((30, 32), (0, 113)), ((11, 78), (0, 45)), ((11, 82), (1, 241)), ((11, 87), (8, 0)), ((11, 92), (0, 23)), ((1, 62), (0, 24)), ((1, 66), (6, 0)), ((1, 72), (0, 25)), ((30, 38), (0, 114)), ((11, 115), (0, 75)), ((30, 43), (0, 115)), ((11, 120), (0, 65)), ((7, 57), (0, 76)), ((7, 61), (0, 66)), ((7, 79), (0, 81)), ((8, 43), (1, 82)), ((8, 47), (0, 244)), ((20, 492), (0, 246)), ((20, 495), (1, 248)), ((21, 9), (1, 247)), ((20, 1059), (1, 249)), ((8, 39), (0, 78)), ((8, 53), (0, 243)), ((20, 335), (0, 245)), ((8, 56), (0, 79)), ((7, 72), (0, 79)), ((7, 82), (0, 83)), ((7, 88), (1, 63)), ((8, 74), (0, 85)), ((8, 80), (0, 86)), ((8, 83), (1, 87)), ((8, 77), (0, 80)), ((8, 87), (0, 84)), ((8, 90), (0, 83)), ((7, 64), (0, 77)), ((11, 123), (0, 67)), ((30, 47), (0, 116)), ((11, 126), (0, 146)), ((11, 321), (1, 63)), ((11, 159), (0, 3)), ((11, 129), (0, 101)), ((10, 101), (0, 100)), ((10, 76), (0, 3)), ((10, 87), (0, 42)), ((4, 40), (0, 39)), ((10, 97), (0, 69)), ((10, 104), (0, 70)), ((7, 95), (0, 71)), ((7, 101), (0, 72)), ((10, 108), (1, 64)), ((10, 111), (0, 71)), ((30, 51), (0, 117)), ((11, 133), (0, 100)), ((11, 137), (0, 70)), ((30, 55), (0, 118)), ((11, 140), (0, 147)), ((11, 156), (0, 4)), ((0, 53), (0, 43)), ((0, 59), (0, 46)), ((4, 44), (1, 48)), ((4, 48), (8, 0)), ((4, 54), (7, 0)), ((30, 59), (0, 119)), ((30, 63), (0, 120)), ((11, 169), (0, 102)), ((10, 117), (0, 101)), ((11, 172), (0, 6)), ((11, 175), (0, 7)), ((0, 65), (0, 14)), ((0, 98), (0, 42)), ((0, 101), (0, 45)), ((0, 104), (0, 39)), ((0, 69), (1, 241)), ((0, 74), (1, 5)), ((11, 179), (0, 8)), ((11, 182), (0, 9)), ((0, 78), (0, 47)), ((4, 57), (0, 42)), ((4, 61), (0, 46)), ((4, 65), (1, 242)), ((0, 81), (1, 242)), ((0, 86), (0, 44)), ((0, 89), (7, 0)), ((11, 185), (0, 103)), ((10, 121), (0, 9)), ((30, 67), (0, 121)), ((11, 188), (1, 5)), ((30, 71), (0, 122)), ((11, 195), (0, 31)), ((3, 31), (0, 32)), ((3, 62), (0, 102)), ((3, 44), (0, 33)), ((3, 72), (0, 34)), ((3, 78), (0, 10)), ((3, 48), (0, 35)), ((3, 81), (0, 98)), ((3, 85), (0, 101)), ((3, 89), (0, 3)), ((3, 93), (0, 36)), ((30, 75), (0, 123)), ((11, 199), (0, 11)), ((0, 95), (0, 10)), ((11, 202), (0, 12)), ((30, 79), (0, 124)), ((11, 205), (0, 13)), ((30, 83), (0, 125)), ((11, 212), (0, 15)), ((30, 87), (0, 126)), ((11, 215), (1, 145)), ((11, 222), (0, 90)), ((30, 92), (0, 127)), ((11, 228), (0, 40)), ((11, 231), (0, 46)), ((30, 96), (0, 128)), ((11, 242), (0, 91)), ((30, 100), (0, 129)), ((11, 246), (0, 92)), ((11, 252), (0, 93)), ((30, 104), (0, 130)), ((11, 255), (0, 94)), ((9, 50), (0, 95)), ((9, 54), (1, 241)), ((9, 59), (0, 96)), ((30, 108), (0, 131)), ((11, 271), (0, 53)), ((11, 274), (0, 54)), ((30, 112), (0, 132)), ((11, 277), (0, 106)), ((10, 131), (0, 105)), ((10, 134), (0, 55)), ((30, 116), (0, 133)), ((11, 280), (0, 107)), ((10, 137), (0, 98)), ((10, 141), (0, 106)), ((30, 120), (0, 134)), ((11, 283), (0, 17)), ((30, 124), (0, 135)), ((11, 286), (0, 49)), ((4, 71), (0, 50)), ((30, 128), (0, 136)), ((11, 289), (0, 27)), ((2, 34), (8, 0)), ((2, 51), (0, 18)), ((2, 57), (0, 28)), ((2, 61), (6, 0)), ((2, 67), (0, 29)), ((30, 132), (0, 137)), ((11, 301), (0, 58)), ((30, 136), (0, 138)), ((11, 302), (0, 59)), ((30, 140), (0, 139)), ((11, 305), (0, 60)), ((30, 145), (0, 140)), ((11, 308), (0, 104)), ((11, 311), (0, 68)), ((30, 149), (0, 141)), ((11, 314), (0, 99)), ((10, 57), (0, 38)), ((4, 34), (6, 0)), ((10, 61), (0, 62)), ((7, 44), (0, 74)), ((8, 33), (6, 0)), ((7, 48), (6, 0)), ((10, 64), (0, 2)), ((0, 47), (6, 0)), ((10, 67), (0, 89)), ((9, 42), (6, 0)), ((10, 70), (0, 52)), ((5, 28), (6, 0)), ((10, 73), (0, 57)), ((6, 31), (6, 0)), ((30, 153), (0, 142)), ((30, 157), (0, 143)), ((11, 318), (0, 16)), ((30, 12), (2, 149)), ((12, 7), (5, 0)), ((30, 17), (0, 157)), ((12, 40), (1, 150)), ((12, 36), (1, 148)), ((12, 44), (0, 155)), ((30, 21), (0, 158)), ((12, 48), (0, 151)), ((12, 51), (0, 153)), ((30, 26), (0, 161)), ((12, 59), (1, 160)), ((12, 55), (1, 159)), ((30, 31), (0, 162)), ((30, 35), (0, 164)), ((12, 68), (0, 163)), ((30, 42), (0, 177)), ((30, 46), (0, 178)), ((12, 140), (1, 156)), ((12, 143), (0, 176)), ((12, 129), (0, 168)), ((12, 85), (0, 165)), ((12, 92), (0, 167)), ((12, 88), (0, 166)), ((12, 117), (0, 170)), ((12, 95), (1, 169)), ((12, 114), (0, 175)), ((12, 123), (0, 174)), ((12, 110), (0, 173)), ((12, 107), (0, 171)), ((12, 120), (0, 172)), ((12, 104), (0, 154)), ((30, 50), (0, 184)), ((12, 160), (0, 183)), ((12, 157), (0, 152)), ((12, 164), (0, 182)), ((12, 153), (0, 181)), ((12, 147), (0, 180)), ((12, 150), (1, 179)), ((30, 54), (0, 185)), ((30, 58), (0, 187)), ((12, 167), (0, 186)), ((30, 62), (0, 188)), ((30, 66), (0, 198)), ((12, 180), (0, 190)), ((12, 171), (0, 189)), ((12, 183), (0, 191)), ((12, 174), (0, 192)), ((12, 186), (0, 195)), ((12, 189), (0, 194)), ((12, 192), (0, 197)), ((12, 177), (1, 196)), ((30, 70), (0, 200)), ((12, 195), (1, 199)), ((30, 74), (0, 209)), ((12, 224), (0, 207)), ((12, 214), (0, 208)), ((12, 217), (0, 205)), ((12, 205), (0, 203)), ((12, 201), (0, 202)), ((12, 198), (0, 201)), ((12, 208), (0, 204)), ((12, 220), (0, 206)), ((12, 211), (0, 193)), ((30, 78), (0, 210)), ((30, 82), (0, 212)), ((12, 227), (0, 211)), ((30, 86), (0, 213)), ((30, 91), (0, 215)), ((12, 230), (1, 214)), ((30, 95), (0, 217)), ((12, 233), (0, 216)), ((30, 99), (0, 218)), ((30, 103), (0, 219)), ((30, 107), (0, 221)), ((12, 236), (0, 220)), ((30, 111), (0, 222)), ((12, 239), (0, 223)), ((30, 115), (0, 225)), ((12, 242), (0, 224)), ((30, 119), (0, 226)), ((30, 123), (0, 227)), ((30, 127), (0, 228)), ((30, 131), (0, 231)), ((12, 248), (0, 229)), ((12, 245), (0, 230)), ((30, 135), (0, 232)), ((30, 139), (0, 233)), ((30, 144), (0, 234)), ((30, 148), (0, 236)), ((12, 252), (0, 235)), ((30, 152), (0, 237)), ((30, 156), (0, 238)), ((30, 160), (0, 240)), ((12, 258), (0, 239)), ((11, 11), (3, 97)), ((10, 17), (3, 37)), ((10, 24), (3, 61)), ((7, 17), (3, 73)), ((10, 31), (3, 1)), ((10, 38), (3, 88)), ((10, 45), (3, 51)), ((10, 52), (3, 56)), ((11, 18), (3, 30)), ((11, 25), (3, 19)), ((11, 32), (3, 26)), ((7, 92), (4, 84))]
def mthR (m i : Nat) : Option (Nat × Nat) := mthL.lookup (oNum m, i)
def clsL : List ((Nat × Nat) × Nat) := [((30, 7), 11), ((11, 9), 10), ((10, 15), 4), ((10, 22), 7), ((7, 15), 8), ((10, 29), 0), ((10, 36), 9), ((10, 43), 5), ((10, 50), 6), ((11, 16), 3), ((11, 23), 1), ((11, 30), 2), ((30, 10), 12)]
def clsR (m i : Nat) : Option Nat := clsL.lookup (oNum m, i)
def cstL : List ((Nat × Nat) × aV) := [((23, 265), vI (1431655765)), ((23, 266), vI (858993459)), ((23, 267), vI (252645135)), ((1, 61), vI (1000000)), ((11, 194), vI (40100)), ((2, 56), vI (1000000)), ((12, 223), vI (40099)), ((12, 251), vI (100000))]
def cslL : List ((Nat × Nat) × Int) := [((24, 314), 6148914691236517205), ((24, 316), 3689348814741910323), ((24, 318), 1085102592571150095), ((9, 48), -1), ((12, 138), 255), ((30, 36), 4294967295)]
def strL : List (Nat × String) := [(60, "first"), (62, "dues"), (64, "work"), (66, "long"), (68, "cords"), (70, "tell"), (72, "near")]
def strI : List (Nat × Nat) := [(60, 0), (62, 1), (64, 2), (66, 3), (68, 4), (70, 5), (72, 6)]
def strB : List (List Int) := [[102, 105, 114, 115, 116], [100, 117, 101, 115], [119, 111, 114, 107], [108, 111, 110, 103], [99, 111, 114, 100, 115], [116, 101, 108, 108], [110, 101, 97, 114]]
/-- shapes: (0, class), (1, n) ints, (2, n) longs, (3, n) bytes, (4, n) booleans; constants: (10, n) ints, (11, i) a text, (12, n) its bytes, (13, 0) the script, (14, 0) its length -/
def shpL : List (Nat × Nat) := [(0, 11), (0, 10), (0, 4), (1, 12), (1, 12), (1, 12), (1, 12), (1, 12), (1, 12), (0, 7), (0, 8), (1, 1320), (3, 120), (1, 88), (1, 11), (1, 11), (1, 88), (1, 88), (1, 88), (1, 6), (0, 0), (1, 60), (1, 60), (1, 60), (1, 60), (2, 60), (1, 60), (1, 60), (1, 60), (1, 60), (1, 60), (0, 9), (2, 20), (1, 10), (1, 20), (0, 5), (1, 60), (1, 60), (1, 60), (1, 60), (0, 6), (1, 10), (1, 10), (1, 10), (1, 10), (0, 3), (1, 60), (1, 60), (0, 1), (1, 5), (1, 5), (0, 2), (1, 7), (1, 7), (1, 49), (1, 7), (0, 12), (1, 2456), (1, 7), (1, 7), (4, 60), (1, 60), (1, 144), (1, 2456), (0, 10), (0, 4), (1, 12), (1, 12), (1, 12), (1, 12), (1, 12), (1, 12), (0, 7), (0, 8), (1, 1320), (3, 120), (1, 88), (1, 11), (1, 11), (1, 88), (1, 88), (1, 88), (1, 6), (0, 0), (1, 60), (1, 60), (1, 60), (1, 60), (2, 60), (1, 60), (1, 60), (1, 60), (1, 60), (1, 60), (0, 9), (2, 20), (1, 10), (1, 20), (0, 5), (1, 60), (1, 60), (1, 60), (1, 60), (0, 6), (1, 10), (1, 10), (1, 10), (1, 10)]
def SH (a : Nat) : Nat × Nat := if a < 1000 then shpL.getD a (99, 0) else if a = 1000 then (10, 7) else if a = 1001 then (10, 5) else if a < 1009 then (11, a - 1002) else if a < 1012 then (99, 0) else if a < 1019 then (12, (strB.getD (a - 1012) []).length) else if a = 1060 then (13, 0) else (99, 0)
def KI (a : Nat) (j : Int) : Int := if a = 1000 then ([50, 10, 2, 5, 2, 0, 40] : List Int).getD j.toNat 0 else if a = 1001 then ([-1, 0, 0, 2, 1] : List Int).getD j.toNat 0 else (strB.getD (a - 1012) []).getD j.toNat 0
def fkdL : List (List (Nat × Bool)) := [[(0, false), (2, true), (2, true), (2, true), (2, true), (2, true), (2, true), (2, true), (2, true), (2, true), (2, true)], [(0, false), (2, true), (0, false), (0, false), (0, false), (2, true)], [(0, false), (2, true), (0, false), (0, false), (2, true), (2, true), (2, true)], [(2, true), (2, true), (0, false), (0, false), (0, false), (0, false)], [(0, false), (2, true), (2, true), (2, true), (2, true), (2, true), (2, true)], [(0, false), (2, true), (2, true), (2, true), (2, true)], [(0, false), (0, false), (2, true), (2, true), (2, true), (2, true)], [(0, false), (2, true), (2, true), (2, true), (2, true), (2, true), (2, true), (2, true), (2, true)], [(0, false), (0, false), (0, false), (3, false), (2, true), (2, true)], [(1, false), (0, false), (0, false), (0, false), (0, false), (0, false), (2, true), (2, true), (2, true)], [(0, false), (2, true), (2, true), (2, true), (2, true), (2, true), (2, true)], [(2, true), (2, true), (2, true), (2, true), (2, false)], [(0, false), (2, true), (2, true), (2, true), (0, false), (0, false), (0, false), (0, false), (0, false), (0, false), (3, false), (0, false), (3, false), (0, false), (0, false), (2, true), (2, true), (2, true), (2, true), (3, false)]]
def fkd (ci k : Nat) : Nat × Bool := (fkdL.getD ci []).getD k (9, false)
def nfd (ci : Nat) : Nat := (fkdL.getD ci []).length
def lngL : List (Nat × Nat) := [(114, 1), (75, 1), (91, 1), (177, 1), (242, 0)]
def lngT (m k : Nat) : Bool := lngL.contains (m, k)
def iniL : List Nat := [1, 19, 26, 30, 37, 51, 56, 61, 73, 88, 97, 108, 149]
/-! ===== the machine ===== -/
abbrev ok32 (x : Int) : Prop := -2147483648 ≤ x ∧ x ≤ 2147483647
abbrev ok64 (x : Int) : Prop := -9223372036854775808 ≤ x ∧ x ≤ 9223372036854775807
def bAnd (x y : Int) : Int := (Int32.ofInt x &&& Int32.ofInt y).toInt
def bOr (x y : Int) : Int := (Int32.ofInt x ||| Int32.ofInt y).toInt
def bXor (x y : Int) : Int := (Int32.ofInt x ^^^ Int32.ofInt y).toInt
def bShl (x y : Int) : Int := (Int32.ofInt x <<< (Int32.ofInt y &&& 31)).toInt
def bShr (x y : Int) : Int := (Int32.ofInt x >>> (Int32.ofInt y &&& 31)).toInt
def bUsr (x y : Int) : Int := ((Int32.ofInt x).toUInt32 >>> ((Int32.ofInt y).toUInt32 &&& Int32.toUInt32 31)).toInt32.toInt
def lAnd (x y : Int) : Int := (Int64.ofInt x &&& Int64.ofInt y).toInt
def lOr (x y : Int) : Int := (Int64.ofInt x ||| Int64.ofInt y).toInt
def lXor (x y : Int) : Int := (Int64.ofInt x ^^^ Int64.ofInt y).toInt
def lShl (x y : Int) : Int := (Int64.ofInt x <<< ((Int32.ofInt y).toInt64 &&& 63)).toInt
def lShr (x y : Int) : Int := (Int64.ofInt x >>> ((Int32.ofInt y).toInt64 &&& 63)).toInt
def lUsr (x y : Int) : Int := ((Int64.ofInt x).toUInt64 >>> ((Int32.ofInt y).toInt64.toUInt64 &&& Int64.toUInt64 63)).toInt64.toInt
def cL2i (x : Int) : Int := (Int64.ofInt x).toInt32.toInt
def cI2b (x : Int) : Int := ((Int32.ofInt x).toInt8.toInt32).toInt
def cI2c (x : Int) : Int := (((Int32.ofInt x).toUInt32 % 65536).toInt32).toInt
def cLcm (x y : Int) : Int := if y < x then 1 else if x = y then 0 else -1
/-- a row of numbers with one place changed -/
def mset (I : aI) (a : Nat) (k v : Int) : aI := fun b j => if b = a ∧ j = k then v else I b j
def mcpy (I : aI) (a : Nat) (sp : Int) (b : Nat) (dp n : Int) : aI := fun q j => if q = b ∧ dp ≤ j ∧ j < dp + n then I a (sp + (j - dp)) else I q j
def gset (G : aG) (a : Nat) (k : Int) (r : Option Nat) : aG := (G.1, fun b j => if b = a ∧ j = k then r else G.2 b j)
def lG (L : List (Option aV)) (k : Nat) : Option aV := (L[k]?).join
def cat1 (v : aV) : Bool := match v with
  | .inr (.inl _) => false
  | _ => true
def cats (st : List aV) : Nat := (st.map fun v => if cat1 v then 1 else 2).sum
/-- what a method's locals are at its start -/
def ent0 : List aV → List (Option aV)
  | [] => []
  | v :: vs => if cat1 v then some v :: ent0 vs else some v :: none :: ent0 vs
def ent (n : Nat) (as : List aV) : List (Option aV) := ent0 as ++ List.replicate (n - (ent0 as).length) none
/-- longs stand where the method has longs; the arguments fit -/
def entOk (y : Nat) (as : List aV) : Bool := (ent0 as).length ≤ mxl y && (List.range (ent0 as).length).all (fun k => match lG (ent0 as) k with
  | some (.inr (.inl _)) => lngT y k
  | _ => true)
def retOk (t : Option FieldType) (x : Int) : Bool := match t with
  | some .int => true
  | some .boolean => x == 0 || x == 1
  | some .char => decide (0 ≤ x) && decide (x ≤ 65535)
  | some .byte => decide (-128 ≤ x) && decide (x ≤ 127)
  | _ => false
def isRT (t : Option FieldType) : Bool := match t with
  | some (.object _) => true
  | some (.array _) => true
  | _ => false
abbrev aR : Type := Option (aS ⊕ (Option aV ⊕ (Nat × List aV × List aV)))
def nx (pc : Nat) (L : List (Option aV)) (st : List aV) (G : aG) (I J : aI) : aR := some (.inl (pc, L, st, G, I, J))
/-- a store: the place is there, no long lies half in it -/
def stK (m : Nat) (L : List (Option aV)) (k : Nat) : Bool := decide (k < L.length) && (k == 0 || !lngT m (k - 1)) && !lngT m k
def jmp (pc : Nat) (off : Int) : Option Nat := if 0 ≤ (pc : Int) + off then some ((pc : Int) + off).toNat else none
def brn (c : Bool) (pc : Nat) (off : Int) (L : List (Option aV)) (st : List aV) (G : aG) (I J : aI) : aR :=
  if 0 ≤ (pc : Int) + off then (if c then nx ((pc : Int) + off).toNat L st G I J else nx (pc + 3) L st G I J) else none
def cnd (c : Jvm.ClassFile.Cond) (x y : Int) : Bool := match c with
  | .eq => decide (x = y)
  | .ne => decide (x ≠ y)
  | .lt => decide (x < y)
  | .ge => decide (y ≤ x)
  | .gt => decide (y < x)
  | .le => decide (x ≤ y)
def fval (kd a : Nat) (k : Nat) (G : aG) (I J : aI) : aV := if kd = 1 then .inr (.inl (J a k)) else if kd = 2 then .inr (.inr (G.2 a k)) else .inl (I a k)
def exGet (m idx pc : Nat) (L : List (Option aV)) (st : List aV) (G : aG) (I J : aI) : aR := match st with
  | .inr (.inr (some a)) :: st' => match fldR m idx with
    | some (ci, k) => if (SH a).1 = 0 ∧ (SH a).2 = ci ∧ a < G.1 ∧ k < nfd ci then nx (pc + 3) L (fval (fkd ci k).1 a k G I J :: st') G I J
        else if (SH a).1 = 11 ∧ ci = 50 then nx (pc + 3) L ((if k = 0 then vR (1012 + (SH a).2) else vI 0) :: st') G I J else none
    | none => none
  | _ => none
def finOk (m ci k : Nat) : Bool := (fkd ci k).2 == false || (iniL.contains m && oNum m == ci)
def exPut (m idx pc : Nat) (L : List (Option aV)) (st : List aV) (G : aG) (I J : aI) : aR := match st with
  | v :: .inr (.inr (some a)) :: st' => match fldR m idx with
    | some (ci, k) => if (SH a).1 = 0 ∧ (SH a).2 = ci ∧ a < G.1 ∧ k < nfd ci ∧ finOk m ci k = true then match v, (fkd ci k).1 with
        | .inl x, 0 => nx (pc + 3) L st' G (mset I a k x) J
        | .inl x, 3 => if x = 0 ∨ x = 1 then nx (pc + 3) L st' G (mset I a k x) J else none
        | .inr (.inl x), 1 => nx (pc + 3) L st' G I (mset J a k x)
        | .inr (.inr r), 2 => if r = some 1050 then none else nx (pc + 3) L st' (gset G a k r) I J
        | _, _ => none
      else none
    | none => none
  | _ => none
def exALoad (kd : List Nat) (m pc : Nat) (L : List (Option aV)) (st : List aV) (G : aG) (I J : aI) : aR := match st with
  | .inl j :: .inr (.inr (some a)) :: st' =>
    if (SH a).1 < 10 then (if (SH a).1 ∈ kd ∧ a < G.1 ∧ 0 ≤ j ∧ j < (SH a).2 then nx (pc + 1) L (.inl (I a j) :: st') G I J else none)
    else if (SH a).1 = 13 then (if 1 ∈ kd ∧ m = 0 ∧ a = 1060 ∧ 0 ≤ j ∧ j < I 1061 0 then nx (pc + 1) L (.inl (I a j) :: st') G I J else none)
    else if (((SH a).1 = 10 ∧ 1 ∈ kd) ∨ ((SH a).1 = 12 ∧ 3 ∈ kd)) ∧ 0 ≤ j ∧ j < (SH a).2 then nx (pc + 1) L (.inl (KI a j) :: st') G I J else none
  | _ => none
def exLLoad (pc : Nat) (L : List (Option aV)) (st : List aV) (G : aG) (I J : aI) : aR := match st with
  | .inl j :: .inr (.inr (some a)) :: st' => if (SH a).1 = 2 ∧ a < G.1 ∧ 0 ≤ j ∧ j < (SH a).2 then nx (pc + 1) L (.inr (.inl (J a j)) :: st') G I J else none
  | _ => none
def exIStore (pc : Nat) (L : List (Option aV)) (st : List aV) (G : aG) (I J : aI) : aR := match st with
  | .inl x :: .inl j :: .inr (.inr (some a)) :: st' => if (SH a).1 = 1 ∧ a < G.1 ∧ 0 ≤ j ∧ j < (SH a).2 then nx (pc + 1) L st' G (mset I a j x) J else none
  | _ => none
def exBStore (pc : Nat) (L : List (Option aV)) (st : List aV) (G : aG) (I J : aI) : aR := match st with
  | .inl x :: .inl j :: .inr (.inr (some a)) :: st' => if (((SH a).1 = 3 ∧ -128 ≤ x ∧ x ≤ 127) ∨ ((SH a).1 = 4 ∧ (x = 0 ∨ x = 1))) ∧ a < G.1 ∧ 0 ≤ j ∧ j < (SH a).2 then nx (pc + 1) L st' G (mset I a j x) J else none
  | _ => none
def exLStore (pc : Nat) (L : List (Option aV)) (st : List aV) (G : aG) (I J : aI) : aR := match st with
  | .inr (.inl x) :: .inl j :: .inr (.inr (some a)) :: st' => if (SH a).1 = 2 ∧ a < G.1 ∧ 0 ≤ j ∧ j < (SH a).2 then nx (pc + 1) L st' G I (mset J a j x) else none
  | _ => none
def exLen (m pc : Nat) (L : List (Option aV)) (st : List aV) (G : aG) (I J : aI) : aR := match st with
  | .inr (.inr (some a)) :: st' => if (SH a).1 = 12 then nx (pc + 1) L (vI (SH a).2 :: st') G I J
      else if (SH a).1 = 13 ∧ m = 0 ∧ a = 1060 then nx (pc + 1) L (vI (I 1061 0) :: st') G I J else none
  | _ => none
def isLit (v : aV) : Bool := match v with
  | .inr (.inr r) => r != some 1050
  | _ => true
/-- who is called stands ready -/
def rcv (y : Nat) (G : aG) (v : aV) : Bool := match v with
  | .inr (.inr (some a)) => ((SH a).1 == 0 && (SH a).2 == oNum y && decide (a < G.1)) || ((SH a).1 == 11 && oNum y == 20)
  | _ => false
def exCall (kd y : Nat) (pc : Nat) (L : List (Option aV)) (st : List aV) (G : aG) (I J : aI) : aR :=
  if kd = 1 then (if npr y ≤ st.length ∧ cats (st.drop (npr y)) ≤ 8 ∧ entOk y ((st.take (npr y)).reverse) = true then some (.inr (.inr (y, (st.take (npr y)).reverse, st.drop (npr y)))) else none)
  else match st.drop (npr y) with
    | v :: rest => if rcv y G v = true ∧ cats rest ≤ 8 ∧ entOk y (v :: (st.take (npr y)).reverse) = true then some (.inr (.inr (y, v :: (st.take (npr y)).reverse, rest))) else none
    | [] => none
def exCopy (pc : Nat) (L : List (Option aV)) (st : List aV) (G : aG) (I J : aI) : aR := match st with
  | .inl n :: .inl dp :: .inr (.inr (some b)) :: .inl sp :: .inr (.inr (some a)) :: st' =>
    if (SH a).1 = (SH b).1 ∧ a < G.1 ∧ b < G.1 ∧ 0 ≤ sp ∧ 0 ≤ dp ∧ 0 ≤ n ∧ sp + n ≤ (SH a).2 ∧ dp + n ≤ (SH b).2 ∧ cats st' ≤ 8 then
      (if (SH a).1 = 1 ∨ (SH a).1 = 3 then nx (pc + 3) L st' G (mcpy I a sp b dp n) J else if (SH a).1 = 2 then nx (pc + 3) L st' G I (mcpy J a sp b dp n) else none)
    else none
  | _ => none
/-- the greater or the lesser of two -/
def exMx (b : Bool) (pc : Nat) (L : List (Option aV)) (st : List aV) (G : aG) (I J : aI) : aR := match st with
  | .inl y :: .inl x :: st' => if cats st' ≤ 8 then nx (pc + 3) L (.inl (if b then max x y else min x y) :: st') G I J else none
  | _ => none
def exNew (m idx pc : Nat) (L : List (Option aV)) (st : List aV) (G : aG) (I J : aI) : aR := match clsR m idx with
  | some ci => if SH G.1 = (0, ci) ∧ G.1 < 1000 then nx (pc + 3) L (vR G.1 :: st) (G.1 + 1, G.2) I J else none
  | none => none
def akd (t : ArrayType) : Nat := match t with
  | .int => 1
  | .long => 2
  | .byte => 3
  | .boolean => 4
  | _ => 99
def exNewA (t : ArrayType) (pc : Nat) (L : List (Option aV)) (st : List aV) (G : aG) (I J : aI) : aR := match st with
  | .inl n :: st' => if SH G.1 = (akd t, n.toNat) ∧ akd t ≠ 99 ∧ 0 ≤ n ∧ n < 100000 ∧ G.1 < 1000 then nx (pc + 2) L (vR G.1 :: st') (G.1 + 1, G.2) I J else none
  | _ => none
/-- an int out of two, if it is one -/
def exB (f : Int → Int → Int) (pc : Nat) (L : List (Option aV)) (st : List aV) (G : aG) (I J : aI) : aR := match st with
  | .inl y :: .inl x :: st' => if ok32 (f x y) then nx (pc + 1) L (.inl (f x y) :: st') G I J else none
  | _ => none
def exBu (f : Int → Int → Int) (pc : Nat) (L : List (Option aV)) (st : List aV) (G : aG) (I J : aI) : aR := match st with
  | .inl y :: .inl x :: st' => nx (pc + 1) L (.inl (f x y) :: st') G I J
  | _ => none
def exD (f : Int → Int → Int) (pc : Nat) (L : List (Option aV)) (st : List aV) (G : aG) (I J : aI) : aR := match st with
  | .inl y :: .inl x :: st' => if 0 ≤ x ∧ 0 < y then nx (pc + 1) L (.inl (f x y) :: st') G I J else none
  | _ => none
def exL (f : Int → Int → Int) (pc : Nat) (L : List (Option aV)) (st : List aV) (G : aG) (I J : aI) : aR := match st with
  | .inr (.inl y) :: .inr (.inl x) :: st' => if ok64 (f x y) then nx (pc + 1) L (.inr (.inl (f x y)) :: st') G I J else none
  | _ => none
def exLu (f : Int → Int → Int) (pc : Nat) (L : List (Option aV)) (st : List aV) (G : aG) (I J : aI) : aR := match st with
  | .inr (.inl y) :: .inr (.inl x) :: st' => nx (pc + 1) L (.inr (.inl (f x y)) :: st') G I J
  | _ => none
def exLs (f : Int → Int → Int) (pc : Nat) (L : List (Option aV)) (st : List aV) (G : aG) (I J : aI) : aR := match st with
  | .inl y :: .inr (.inl x) :: st' => nx (pc + 1) L (.inr (.inl (f x y)) :: st') G I J
  | _ => none
def exI1 (f : Int → Int) (pc : Nat) (L : List (Option aV)) (st : List aV) (G : aG) (I J : aI) : aR := match st with
  | .inl x :: st' => nx (pc + 1) L (.inl (f x) :: st') G I J
  | _ => none
def ldI (k pc : Nat) (L : List (Option aV)) (st : List aV) (G : aG) (I J : aI) : aR := match lG L k with
  | some (.inl x) => nx pc L (.inl x :: st) G I J
  | _ => none
def ldL (k pc : Nat) (L : List (Option aV)) (st : List aV) (G : aG) (I J : aI) : aR := match lG L k with
  | some (.inr (.inl x)) => nx pc L (.inr (.inl x) :: st) G I J
  | _ => none
def ldA (k pc : Nat) (L : List (Option aV)) (st : List aV) (G : aG) (I J : aI) : aR := match lG L k with
  | some (.inr (.inr r)) => if r = some 1050 then none else nx pc L (.inr (.inr r) :: st) G I J
  | _ => none
def stI (m k pc : Nat) (L : List (Option aV)) (st : List aV) (G : aG) (I J : aI) : aR := match st with
  | .inl x :: st' => if stK m L k = true then nx pc (L.set k (some (.inl x))) st' G I J else none
  | _ => none
def stA (m k pc : Nat) (L : List (Option aV)) (st : List aV) (G : aG) (I J : aI) : aR := match st with
  | .inr (.inr r) :: st' => if stK m L k = true ∧ r ≠ some 1050 then nx pc (L.set k (some (.inr (.inr r)))) st' G I J else none
  | _ => none
def stL (m k pc : Nat) (L : List (Option aV)) (st : List aV) (G : aG) (I J : aI) : aR := match st with
  | .inr (.inl x) :: st' => if k + 1 < L.length ∧ (k = 0 ∨ lngT m (k - 1) = false) ∧ lngT m k = true ∧ lngT m (k + 1) = false then nx pc ((L.set k (some (.inr (.inl x)))).set (k + 1) none) st' G I J else none
  | _ => none
def psI (v : Int) (pc : Nat) (L : List (Option aV)) (st : List aV) (G : aG) (I J : aI) : aR := if ok32 v then nx pc L (.inl v :: st) G I J else none
def exI (m : Nat) (i : Instr) (n pc : Nat) (L : List (Option aV)) (st : List aV) (G : aG) (I J : aI) : aR := match i, n with
  | .iconst v, 1 => psI v (pc + 1) L st G I J
  | .bipush v, 2 => if -128 ≤ v ∧ v ≤ 127 then psI v (pc + 2) L st G I J else none
  | .sipush v, 3 => if -32768 ≤ v ∧ v ≤ 32767 then psI v (pc + 3) L st G I J else none
  | .ldc i, 2 => match cstL.lookup (oNum m, i) with
    | some (.inl v) => psI v (pc + 2) L st G I J
    | _ => if oNum m = 8 then (match strI.lookup i with
      | some j => nx (pc + 2) L (vR (1002 + j) :: st) G I J
      | none => none) else none
  | .ldc_w i, 3 => match cstL.lookup (oNum m, i) with
    | some (.inl v) => psI v (pc + 3) L st G I J
    | _ => none
  | .ldc2_w i, 3 => match cslL.lookup (oNum m, i) with
    | some v => if ok64 v then nx (pc + 3) L (.inr (.inl v) :: st) G I J else none
    | none => none
  | .lconst l, 1 => nx (pc + 1) L (.inr (.inl (l.val : Int)) :: st) G I J
  | .aconst_null, 1 => nx (pc + 1) L (vN :: st) G I J
  | .iload_n k, 1 => ldI k (pc + 1) L st G I J
  | .iload k, 2 => ldI k (pc + 2) L st G I J
  | .lload_n k, 1 => ldL k (pc + 1) L st G I J
  | .aload_n k, 1 => ldA k (pc + 1) L st G I J
  | .aload k, 2 => ldA k (pc + 2) L st G I J
  | .istore_n k, 1 => stI m k (pc + 1) L st G I J
  | .istore k, 2 => stI m k (pc + 2) L st G I J
  | .astore_n k, 1 => stA m k (pc + 1) L st G I J
  | .astore k, 2 => stA m k (pc + 2) L st G I J
  | .lstore_n k, 1 => stL m k (pc + 1) L st G I J
  | .iinc k c, 3 => match lG L k with
    | some (.inl x) => if ok32 (x + c) ∧ stK m L k = true then nx (pc + 3) (L.set k (some (.inl (x + c)))) st G I J else none
    | _ => none
  | .iadd, 1 => exB (fun x y => x + y) pc L st G I J
  | .isub, 1 => exB (fun x y => x - y) pc L st G I J
  | .imul, 1 => exB (fun x y => x * y) pc L st G I J
  | .idiv, 1 => exD (fun x y => x / y) pc L st G I J
  | .irem, 1 => exD (fun x y => x % y) pc L st G I J
  | .iand, 1 => exBu bAnd pc L st G I J
  | .ior, 1 => exBu bOr pc L st G I J
  | .ixor, 1 => exBu bXor pc L st G I J
  | .ishl, 1 => exBu bShl pc L st G I J
  | .ishr, 1 => exBu bShr pc L st G I J
  | .iushr, 1 => exBu bUsr pc L st G I J
  | .ladd, 1 => exL (fun x y => x + y) pc L st G I J
  | .lsub, 1 => exL (fun x y => x - y) pc L st G I J
  | .land, 1 => exLu lAnd pc L st G I J
  | .lor, 1 => exLu lOr pc L st G I J
  | .lxor, 1 => exLu lXor pc L st G I J
  | .lshl, 1 => exLs lShl pc L st G I J
  | .lshr, 1 => exLs lShr pc L st G I J
  | .lushr, 1 => exLs lUsr pc L st G I J
  | .lcmp, 1 => match st with
    | .inr (.inl y) :: .inr (.inl x) :: st' => nx (pc + 1) L (.inl (cLcm x y) :: st') G I J
    | _ => none
  | .i2l, 1 => match st with
    | .inl x :: st' => nx (pc + 1) L (.inr (.inl x) :: st') G I J
    | _ => none
  | .l2i, 1 => match st with
    | .inr (.inl x) :: st' => nx (pc + 1) L (.inl (cL2i x) :: st') G I J
    | _ => none
  | .i2b, 1 => exI1 cI2b pc L st G I J
  | .i2c, 1 => exI1 cI2c pc L st G I J
  | .dup, 1 => match st with
    | v :: st' => if cat1 v = true then nx (pc + 1) L (v :: v :: st') G I J else none
    | _ => none
  | .dup_x1, 1 => match st with
    | v :: u :: st' => if cat1 v = true ∧ cat1 u = true then nx (pc + 1) L (v :: u :: v :: st') G I J else none
    | _ => none
  | .dup2, 1 => match st with
    | v :: u :: st' => if cat1 v = true ∧ cat1 u = true then nx (pc + 1) L (v :: u :: v :: u :: st') G I J else none
    | _ => none
  | .pop, 1 => match st with
    | v :: st' => if cat1 v = true then nx (pc + 1) L st' G I J else none
    | _ => none
  | .goto o, 3 => if 0 ≤ (pc : Int) + o then nx ((pc : Int) + o).toNat L st G I J else none
  | .ifCond c o, 3 => match st with
    | .inl x :: st' => brn (cnd c x 0) pc o L st' G I J
    | _ => none
  | .if_icmp c o, 3 => match st with
    | .inl y :: .inl x :: st' => brn (cnd c x y) pc o L st' G I J
    | _ => none
  | .ifnonnull o, 3 => match st with
    | .inr (.inr r) :: st' => if r = some 1050 then none else brn r.isSome pc o L st' G I J
    | _ => none
  | .tableswitch d lo hi os, _ => match st with
    | .inl x :: st' => if x < lo ∨ hi < x then (if 0 ≤ (pc : Int) + d then nx ((pc : Int) + d).toNat L st' G I J else none)
        else match os[(x - lo).toNat]? with
          | some o => if 0 ≤ (pc : Int) + o then nx ((pc : Int) + o).toNat L st' G I J else none
          | none => none
    | _ => none
  | .lookupswitch d ps, _ => match st with
    | .inl x :: st' => if (ps.toList.zip (ps.toList.drop 1)).all (fun (a, next) => a.1 < next.1) = true ∧ 0 ≤ (pc : Int) + Op.lookupswitch.offset ps.toList d x
        then nx ((pc : Int) + Op.lookupswitch.offset ps.toList d x).toNat L st' G I J else none
    | _ => none
  | .getfield i, 3 => exGet m i pc L st G I J
  | .putfield i, 3 => exPut m i pc L st G I J
  | .getstatic i, 3 => match sttR m i with
    | some v => nx (pc + 3) L (v :: st) G I J
    | none => none
  | .iaload, 1 => exALoad [1] m pc L st G I J
  | .baload, 1 => exALoad [3, 4] m pc L st G I J
  | .laload, 1 => exLLoad pc L st G I J
  | .iastore, 1 => exIStore pc L st G I J
  | .bastore, 1 => exBStore pc L st G I J
  | .lastore, 1 => exLStore pc L st G I J
  | .arraylength, 1 => exLen m pc L st G I J
  | .new i, 3 => exNew m i pc L st G I J
  | .newarray t, 2 => exNewA t pc L st G I J
  | .invokevirtual i, 3 => match mthR m i with
    | some (kd, y) => if kd = 0 ∨ kd = 4 then exCall kd y pc L st G I J else none
    | none => none
  | .invokestatic i, 3 => match mthR m i with
    | some (kd, y) => if kd = 1 then exCall 1 y pc L st G I J else if kd = 6 then exCopy pc L st G I J else if kd = 7 then exMx true pc L st G I J else if kd = 8 then exMx false pc L st G I J else none
    | none => none
  | .invokespecial i, 3 => match mthR m i with
    | some (kd, y) => if kd = 2 ∨ kd = 3 then exCall kd y pc L st G I J else if kd = 5 then (match st with
      | .inr (.inr (some a)) :: st' => if (SH a).1 = 0 ∧ cats st' ≤ 8 then nx (pc + 3) L st' G I J else none
      | _ => none) else none
    | none => none
  | .ireturn, 1 => match st with
    | [.inl x] => if retOk (rty m) x = true then some (.inr (.inl (some (.inl x)))) else none
    | _ => none
  | .lreturn, 1 => match st with
    | [.inr (.inl x)] => if rty m = some .long then some (.inr (.inl (some (.inr (.inl x))))) else none
    | _ => none
  | .areturn, 1 => match st with
    | [.inr (.inr r)] => if isRT (rty m) = true ∧ r ≠ some 1050 then some (.inr (.inl (some (.inr (.inr r))))) else none
    | _ => none
  | .return_, 1 => match st with
    | [] => if rty m = none then some (.inr (.inl none)) else none
    | _ => none
  | _, _ => none
def stp (m pc : Nat) (L : List (Option aV)) (st : List aV) (G : aG) (I J : aI) : aR := match decode (cod m) pc with
  | .ok q => exI m q.1 q.2 pc L st G I J
  | .error _ => none
def go : Nat → Nat → Nat → aS → Option (Option aV × aG × aI × aI)
  | 0, _, _, _ => none
  | f + 1, d, m, (pc, L, st, G, I, J) => match stp m pc L st G I J with
    | none => none
    | some (.inl S') => go f d m S'
    | some (.inr (.inl v)) => some (v, G, I, J)
    | some (.inr (.inr (y, as, rest))) => match d with
      | 0 => none
      | d' + 1 => match go f d' y (0, ent (mxl y) as, [], G, I, J) with
        | none => none
        | some (v, G', I', J') => go f (d' + 1) m (pc + 3, L, v.toList ++ rest, G', I', J')
/-- from here the method answers v and leaves G', I', J', of which Q holds -/
def At (d m pc : Nat) (L : List (Option aV)) (st : List aV) (G : aG) (I J : aI) (Q : Option aV → aG → aI → aI → Prop) : Prop :=
  ∃ f v G' I' J', go f d m (pc, L, st, G, I, J) = some (v, G', I', J') ∧ Q v G' I' J'

