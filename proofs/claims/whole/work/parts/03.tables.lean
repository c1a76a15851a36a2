/-- a method: name, bytes, locals, answer, number of its class, frames below it, parameters, a constructor (1), place of its code word -/
abbrev ME : Type := MethodName × ByteArray × Nat × Option FieldType × Nat × Nat × Nat × Nat × Nat
def mX0_init : ME := (yX0_init, cX0_init, 2, none, 0, 4, 0, 1, 227)
def mX0_keep : ME := (yX0_keep, cX0_keep, 2, none, 0, 4, 1, 0, 311)
def mX0_giveBack : ME := (yX0_giveBack, cX0_giveBack, 2, none, 0, 4, 1, 0, 578)
def mX1_init : ME := (yX1_init, cX1_init, 2, none, 1, 3, 0, 1, 234)
def mX1_take : ME := (yX1_take, cX1_take, 3, none, 1, 3, 1, 0, 315)
def mX1_give : ME := (yX1_give, cX1_give, 3, none, 1, 3, 1, 0, 582)
def mX2_init : ME := (yX2_init, cX2_init, 1, none, 2, 2, 0, 1, 96)
def mX2_fill : ME := (yX2_fill, cX2_fill, 6, (some .int), 2, 1, 4, 0, 369)
def mX2_countBytes : ME := (yX2_countBytes, cX2_countBytes, 4, (some .int), 2, 0, 1, 0, 570)
def mX2_beginsSpan : ME := (yX2_beginsSpan, cX2_beginsSpan, 2, (some .boolean), 2, 0, 1, 0, 544)
def mX2_countSpans : ME := (yX2_countSpans, cX2_countSpans, 3, (some .int), 2, 1, 0, 0, 540)
def mX2_beginOfSpan : ME := (yX2_beginOfSpan, cX2_beginOfSpan, 4, (some .int), 2, 1, 1, 0, 554)
def mX2_endOfSpan : ME := (yX2_endOfSpan, cX2_endOfSpan, 3, (some .int), 2, 1, 1, 0, 558)
def mX3_init : ME := (yX3_init, cX3_init, 2, none, 3, 3, 0, 1, 89)
def mX3_hasLine : ME := (yX3_hasLine, cX3_hasLine, 2, (some .boolean), 3, 0, 1, 0, 346)
def mX3_hasByte : ME := (yX3_hasByte, cX3_hasByte, 3, (some .boolean), 3, 1, 2, 0, 481)
def mX3_openLine : ME := (yX3_openLine, cX3_openLine, 4, none, 3, 0, 1, 0, 337)
def mX3_closeLine : ME := (yX3_closeLine, cX3_closeLine, 4, none, 3, 1, 1, 0, 469)
def mX3_repaint : ME := (yX3_repaint, cX3_repaint, 7, (some .int), 3, 5, 2, 0, 342)
def mX4_init : ME := (yX4_init, cX4_init, 1, none, 4, 2, 0, 1, 187)
def mX4_paintLine : ME := (yX4_paintLine, cX4_paintLine, 5, none, 4, 4, 2, 0, 357)
def mX4_paintTillMark : ME := (yX4_paintTillMark, cX4_paintTillMark, 3, none, 4, 2, 1, 0, 361)
def mX4_paintFrom : ME := (yX4_paintFrom, cX4_paintFrom, 7, (some .int), 4, 3, 3, 0, 374)
def mX4_takeInRemark : ME := (yX4_takeInRemark, cX4_takeInRemark, 2, (some .int), 4, 1, 1, 0, 389)
def mX4_takeInString : ME := (yX4_takeInString, cX4_takeInString, 2, (some .int), 4, 2, 1, 0, 401)
def mX4_takeInCode : ME := (yX4_takeInCode, cX4_takeInCode, 2, (some .int), 4, 2, 1, 0, 438)
def mX4_paintName : ME := (yX4_paintName, cX4_paintName, 6, (some .int), 4, 2, 3, 0, 412)
def mX4_endOfFigures : ME := (yX4_endOfFigures, cX4_endOfFigures, 4, (some .int), 4, 1, 2, 0, 427)
def mX4_beginsMark : ME := (yX4_beginsMark, cX4_beginsMark, 3, (some .boolean), 4, 1, 2, 0, 431)
def mX5_init : ME := (yX5_init, cX5_init, 2, none, 5, 1, 1, 1, 68)
def mX5_signAt : ME := (yX5_signAt, cX5_signAt, 2, (some .int), 5, 0, 1, 0, 365)
def mX5_copyFrom : ME := (yX5_copyFrom, cX5_copyFrom, 2, none, 5, 1, 1, 0, 319)
def mX5_isLike : ME := (yX5_isLike, cX5_isLike, 2, (some .boolean), 5, 1, 1, 0, 460)
def mX5_holds : ME := (yX5_holds, cX5_holds, 5, (some .boolean), 5, 0, 3, 0, 420)
def mX5_put : ME := (yX5_put, cX5_put, 3, none, 5, 1, 2, 0, 296)
def mX5_erase : ME := (yX5_erase, cX5_erase, 2, none, 5, 1, 1, 0, 486)
def mX5_moveTail : ME := (yX5_moveTail, cX5_moveTail, 3, none, 5, 1, 2, 0, 494)
def mX6_init : ME := (yX6_init, cX6_init, 1, none, 6, 1, 0, 1, 170)
def mX6_copyFrom : ME := (yX6_copyFrom, cX6_copyFrom, 2, none, 6, 1, 1, 0, 331)
def mX6_add : ME := (yX6_add, cX6_add, 8, none, 6, 0, 3, 0, 524)
def mX6_shadeOf : ME := (yX6_shadeOf, cX6_shadeOf, 4, (some .int), 6, 0, 2, 0, 532)
def mX7_init : ME := (yX7_init, cX7_init, 1, none, 7, 1, 0, 1, 104)
def mX7_begin : ME := (yX7_begin, cX7_begin, 1, none, 7, 0, 0, 0, 109)
def mX7_copyFrom : ME := (yX7_copyFrom, cX7_copyFrom, 2, none, 7, 1, 1, 0, 350)
def mX7_isLike : ME := (yX7_isLike, cX7_isLike, 3, (some .boolean), 7, 0, 1, 0, 451)
def mX7_opener : ME := (yX7_opener, cX7_opener, 3, (some .int), 7, 0, 1, 0, 382)
def mX7_mode : ME := (yX7_mode, cX7_mode, 2, (some .int), 7, 1, 0, 0, 378)
def mX7_quote : ME := (yX7_quote, cX7_quote, 2, (some .int), 7, 1, 0, 0, 405)
def mX7_liesInString : ME := (yX7_liesInString, cX7_liesInString, 1, (some .boolean), 7, 1, 0, 0, 442)
def mX7_open : ME := (yX7_open, cX7_open, 2, (some .boolean), 7, 0, 1, 0, 393)
def mX7_close : ME := (yX7_close, cX7_close, 1, none, 7, 0, 0, 0, 397)
def mX7_closeLineStrings : ME := (yX7_closeLineStrings, cX7_closeLineStrings, 2, none, 7, 0, 0, 0, 447)
def mX8_init : ME := (yX8_init, cX8_init, 2, none, 8, 2, 0, 1, 153)
def mX8_copyFrom : ME := (yX8_copyFrom, cX8_copyFrom, 3, none, 8, 2, 1, 0, 326)
def mX8_has : ME := (yX8_has, cX8_has, 5, (some .boolean), 8, 1, 3, 0, 416)
def mX8_add : ME := (yX8_add, cX8_add, 2, none, 8, 2, 1, 0, 507)
def mX8_removeWith : ME := (yX8_removeWith, cX8_removeWith, 4, (some .int), 8, 2, 1, 0, 515)
def mX9_init : ME := (yX9_init, cX9_init, 1, none, 9, 5, 0, 1, 60)
def mX9_type : ME := (yX9_type, cX9_type, 2, (some .int), 9, 2, 1, 0, 285)
def mX9_clear : ME := (yX9_clear, cX9_clear, 2, (some .int), 9, 0, 0, 0, 303)
def mX9_inserts : ME := (yX9_inserts, cX9_inserts, 2, (some .int), 9, 6, 1, 0, 307)
def mX9_sets : ME := (yX9_sets, cX9_sets, 4, (some .int), 9, 6, 1, 0, 455)
def mX9_drops : ME := (yX9_drops, cX9_drops, 2, (some .int), 9, 6, 1, 0, 465)
def mX9_puts : ME := (yX9_puts, cX9_puts, 5, (some .int), 9, 6, 3, 0, 473)
def mX9_erases : ME := (yX9_erases, cX9_erases, 5, (some .int), 9, 6, 2, 0, 477)
def mX9_splits : ME := (yX9_splits, cX9_splits, 3, (some .int), 9, 6, 2, 0, 490)
def mX9_word : ME := (yX9_word, cX9_word, 2, (some .int), 9, 6, 0, 0, 498)
def mX9_unword : ME := (yX9_unword, cX9_unword, 3, (some .int), 9, 6, 1, 0, 511)
def mX9_rule : ME := (yX9_rule, cX9_rule, 6, (some .int), 9, 5, 3, 0, 520)
def mX9_at : ME := (yX9_at, cX9_at, 5, (some .int), 9, 2, 3, 0, 528)
def mX9_of : ME := (yX9_of, cX9_of, 4, (some .int), 9, 2, 2, 0, 536)
def mX9_span : ME := (yX9_span, cX9_span, 6, (some .int), 9, 2, 3, 0, 550)
def mX9_anew : ME := (yX9_anew, cX9_anew, 1, (some .int), 9, 0, 0, 0, 562)
def mX9_painted : ME := (yX9_painted, cX9_painted, 4, (some .int), 9, 1, 1, 0, 566)
def mX9_back : ME := (yX9_back, cX9_back, 1, (some .int), 9, 6, 0, 0, 574)
def mX9_told : ME := (yX9_told, cX9_told, 2, (some .int), 9, 1, 1, 0, 586)
def mX9_digest : ME := (yX9_digest, cX9_digest, 4, (some .long), 9, 4, 0, 0, 590)
def mX9_digestLine : ME := (yX9_digestLine, cX9_digestLine, 8, (some .long), 9, 3, 2, 0, 597)
def mX9_refuse : ME := (yX9_refuse, cX9_refuse, 3, (some .int), 9, 0, 1, 0, 292)
def mX9_isByte : ME := (yX9_isByte, cX9_isByte, 1, (some .boolean), 9, 0, 1, 0, 288)
def mX9_isLetter : ME := (yX9_isLetter, cX9_isLetter, 1, (some .boolean), 9, 0, 1, 0, 408)
def mX9_isFigure : ME := (yX9_isFigure, cX9_isFigure, 1, (some .boolean), 9, 0, 1, 0, 423)
def mX9_isCapital : ME := (yX9_isCapital, cX9_isCapital, 1, (some .boolean), 9, 0, 1, 0, 434)
def mX9_isQuote : ME := (yX9_isQuote, cX9_isQuote, 1, (some .boolean), 9, 0, 1, 0, 385)
def mX9_isWordLike : ME := (yX9_isWordLike, cX9_isWordLike, 2, (some .boolean), 9, 1, 1, 0, 501)
def mX10_init : ME := (yX10_init, cX10_init, 1, none, 10, 1, 0, 1, 604)
def mX10_in : ME := (yX10_in, cX10_in, 3, (some .boolean), 10, 0, 3, 0, 667)
def mX10_refuses : ME := (yX10_refuses, cX10_refuses, 2, (some .int), 10, 0, 1, 0, 671)
def mX10_remembers : ME := (yX10_remembers, cX10_remembers, 2, none, 10, 0, 0, 0, 683)
def mX10_top : ME := (yX10_top, cX10_top, 1, (some .int), 10, 0, 0, 0, 719)
def mX10_comesOn : ME := (yX10_comesOn, cX10_comesOn, 2, (some .boolean), 10, 0, 1, 0, 756)
def mX10_goesOff : ME := (yX10_goesOff, cX10_goesOff, 1, none, 10, 0, 0, 0, 760)
def mX10_standing : ME := (yX10_standing, cX10_standing, 1, (some .int), 10, 0, 0, 0, 772)
def mX10_manyOf : ME := (yX10_manyOf, cX10_manyOf, 1, (some .int), 10, 0, 1, 0, 842)
def mX10_topOf : ME := (yX10_topOf, cX10_topOf, 1, (some .int), 10, 1, 1, 0, 839)
def mX10_modeOf : ME := (yX10_modeOf, cX10_modeOf, 1, (some .int), 10, 0, 1, 0, 741)
def mX10_byteAt : ME := (yX10_byteAt, cX10_byteAt, 2, (some .int), 10, 0, 1, 0, 715)
def mX10_isLetter : ME := (yX10_isLetter, cX10_isLetter, 1, (some .boolean), 10, 1, 1, 0, 726)
def mX10_isFigure : ME := (yX10_isFigure, cX10_isFigure, 1, (some .boolean), 10, 1, 1, 0, 744)
def mX10_colour : ME := (yX10_colour, cX10_colour, 4, none, 10, 1, 2, 0, 738)
def mX10_pushes : ME := (yX10_pushes, cX10_pushes, 5, none, 10, 2, 2, 0, 752)
def mX10_isWord : ME := (yX10_isWord, cX10_isWord, 7, (some .boolean), 10, 1, 2, 0, 734)
def mX10_letters : ME := (yX10_letters, cX10_letters, 2, (some .int), 10, 2, 0, 0, 730)
def mX10_figures : ME := (yX10_figures, cX10_figures, 2, (some .int), 10, 2, 0, 0, 748)
def mX10_paintsCode : ME := (yX10_paintsCode, cX10_paintsCode, 5, (some .int), 10, 3, 1, 0, 723)
def mX10_paintsString : ME := (yX10_paintsString, cX10_paintsString, 3, none, 10, 3, 0, 0, 768)
def mX10_paintsRemark : ME := (yX10_paintsRemark, cX10_paintsRemark, 2, none, 10, 3, 0, 0, 764)
def mX10_paintsMarked : ME := (yX10_paintsMarked, cX10_paintsMarked, 3, none, 10, 1, 0, 0, 711)
def mX10_paintsLine : ME := (yX10_paintsLine, cX10_paintsLine, 3, none, 10, 4, 0, 0, 707)
def mX10_paints : ME := (yX10_paints, cX10_paints, 1, none, 10, 5, 0, 0, 703)
def mX10_changes : ME := (yX10_changes, cX10_changes, 5, none, 10, 6, 2, 0, 699)
def mX10_type : ME := (yX10_type, cX10_type, 2, (some .int), 10, 1, 1, 0, 664)
def mX10_clear : ME := (yX10_clear, cX10_clear, 2, (some .int), 10, 0, 0, 0, 675)
def mX10_isLine : ME := (yX10_isLine, cX10_isLine, 2, (some .boolean), 10, 1, 1, 0, 780)
def mX10_takesText : ME := (yX10_takesText, cX10_takesText, 3, none, 10, 0, 1, 0, 695)
def mX10_moves : ME := (yX10_moves, cX10_moves, 4, none, 10, 0, 2, 0, 691)
def mX10_opens : ME := (yX10_opens, cX10_opens, 3, none, 10, 1, 1, 0, 687)
def mX10_inserts : ME := (yX10_inserts, cX10_inserts, 2, (some .int), 10, 7, 1, 0, 679)
def mX10_sets : ME := (yX10_sets, cX10_sets, 5, (some .int), 10, 7, 1, 0, 776)
def mX10_drops : ME := (yX10_drops, cX10_drops, 4, (some .int), 10, 7, 1, 0, 784)
def mX10_puts : ME := (yX10_puts, cX10_puts, 6, (some .int), 10, 7, 3, 0, 788)
def mX10_erases : ME := (yX10_erases, cX10_erases, 6, (some .int), 10, 7, 2, 0, 792)
def mX10_splits : ME := (yX10_splits, cX10_splits, 6, (some .int), 10, 7, 2, 0, 796)
def mX10_isTextWord : ME := (yX10_isTextWord, cX10_isTextWord, 3, (some .boolean), 10, 2, 0, 0, 804)
def mX10_isTold : ME := (yX10_isTold, cX10_isTold, 5, (some .boolean), 10, 0, 0, 0, 808)
def mX10_word : ME := (yX10_word, cX10_word, 3, (some .int), 10, 7, 0, 0, 800)
def mX10_unword : ME := (yX10_unword, cX10_unword, 6, (some .int), 10, 7, 1, 0, 812)
def mX10_rule : ME := (yX10_rule, cX10_rule, 5, (some .int), 10, 1, 3, 0, 816)
def mX10_shadeOf : ME := (yX10_shadeOf, cX10_shadeOf, 9, (some .int), 10, 0, 2, 0, 828)
def mX10_byteTold : ME := (yX10_byteTold, cX10_byteTold, 5, (some .int), 10, 1, 3, 0, 824)
def mX10_at : ME := (yX10_at, cX10_at, 5, (some .int), 10, 2, 3, 0, 820)
def mX10_begins : ME := (yX10_begins, cX10_begins, 3, (some .boolean), 10, 0, 2, 0, 850)
def mX10_spansOf : ME := (yX10_spansOf, cX10_spansOf, 4, (some .int), 10, 1, 1, 0, 846)
def mX10_lineTold : ME := (yX10_lineTold, cX10_lineTold, 5, (some .int), 10, 2, 2, 0, 836)
def mX10_of : ME := (yX10_of, cX10_of, 3, (some .int), 10, 3, 2, 0, 832)
def mX10_span : ME := (yX10_span, cX10_span, 7, (some .int), 10, 2, 3, 0, 854)
def mX10_anew : ME := (yX10_anew, cX10_anew, 1, (some .int), 10, 0, 0, 0, 858)
def mX10_painted : ME := (yX10_painted, cX10_painted, 5, (some .int), 10, 1, 1, 0, 862)
def mX10_back : ME := (yX10_back, cX10_back, 2, (some .int), 10, 6, 0, 0, 866)
def mX10_toldOf : ME := (yX10_toldOf, cX10_toldOf, 2, (some .int), 10, 0, 1, 0, 874)
def mX10_told : ME := (yX10_told, cX10_told, 2, (some .int), 10, 1, 1, 0, 870)
def mX10_mix : ME := (yX10_mix, cX10_mix, 3, none, 10, 0, 1, 0, 883)
def mX10_digest : ME := (yX10_digest, cX10_digest, 4, (some .long), 10, 3, 0, 0, 878)
def mL_law : ME := (x, cL_law, 4, (some .boolean), 11, 8, 1, 0, 0)
def mtL : List ME := [mX0_init, mX0_keep, mX0_giveBack, mX1_init, mX1_take, mX1_give, mX2_init, mX2_fill, mX2_countBytes, mX2_beginsSpan, mX2_countSpans, mX2_beginOfSpan, mX2_endOfSpan, mX3_init, mX3_hasLine, mX3_hasByte, mX3_openLine, mX3_closeLine, mX3_repaint, mX4_init, mX4_paintLine, mX4_paintTillMark, mX4_paintFrom, mX4_takeInRemark, mX4_takeInString, mX4_takeInCode, mX4_paintName, mX4_endOfFigures, mX4_beginsMark, mX5_init, mX5_signAt, mX5_copyFrom, mX5_isLike, mX5_holds, mX5_put, mX5_erase, mX5_moveTail, mX6_init, mX6_copyFrom, mX6_add, mX6_shadeOf, mX7_init, mX7_begin, mX7_copyFrom, mX7_isLike, mX7_opener, mX7_mode, mX7_quote, mX7_liesInString, mX7_open, mX7_close, mX7_closeLineStrings, mX8_init, mX8_copyFrom, mX8_has, mX8_add, mX8_removeWith, mX9_init, mX9_type, mX9_clear, mX9_inserts, mX9_sets, mX9_drops, mX9_puts, mX9_erases, mX9_splits, mX9_word, mX9_unword, mX9_rule, mX9_at, mX9_of, mX9_span, mX9_anew, mX9_painted, mX9_back, mX9_told, mX9_digest, mX9_digestLine, mX9_refuse, mX9_isByte, mX9_isLetter, mX9_isFigure, mX9_isCapital, mX9_isQuote, mX9_isWordLike, mX10_init, mX10_in, mX10_refuses, mX10_remembers, mX10_top, mX10_comesOn, mX10_goesOff, mX10_standing, mX10_manyOf, mX10_topOf, mX10_modeOf, mX10_byteAt, mX10_isLetter, mX10_isFigure, mX10_colour, mX10_pushes, mX10_isWord, mX10_letters, mX10_figures, mX10_paintsCode, mX10_paintsString, mX10_paintsRemark, mX10_paintsMarked, mX10_paintsLine, mX10_paints, mX10_changes, mX10_type, mX10_clear, mX10_isLine, mX10_takesText, mX10_moves, mX10_opens, mX10_inserts, mX10_sets, mX10_drops, mX10_puts, mX10_erases, mX10_splits, mX10_isTextWord, mX10_isTold, mX10_word, mX10_unword, mX10_rule, mX10_shadeOf, mX10_byteTold, mX10_at, mX10_begins, mX10_spansOf, mX10_lineTold, mX10_of, mX10_span, mX10_anew, mX10_painted, mX10_back, mX10_toldOf, mX10_told, mX10_mix, mX10_digest]
def Rn (k : Nat) : String := ([RX0, RX1, RX2, RX3, RX4, RX5, RX6, RX7, RX8, RX9, RX10, RL] : List String).getD k ""
def lk {α : Type} : List (Nat × α) → Nat → Option α
  | [], _ => none
  | (i, v) :: l, j => if i = j then some v else lk l j
def fT : List (List (Nat × Nat × Nat × Nat)) := [[(11, 0, 0, 255), (18, 0, 1, 256), (22, 0, 2, 258)],
  [(11, 1, 0, 242), (23, 1, 1, 243), (30, 1, 2, 244), (34, 1, 3, 245), (38, 3, 4, 210), (41, 3, 0, 200), (45, 2, 0, 126), (55, 3, 1, 203), (59, 3, 2, 206)],
  [(14, 2, 0, 124), (20, 2, 1, 129), (24, 2, 2, 131), (30, 2, 3, 133), (34, 2, 4, 136), (44, 5, 1, 76)],
  [(11, 3, 0, 199), (21, 3, 1, 202), (28, 3, 2, 205), (35, 3, 3, 208), (39, 3, 4, 209), (47, 2, 0, 127), (51, 5, 1, 78), (56, 2, 4, 137), (60, 4, 0, 192), (64, 2, 3, 134)],
  [(12, 4, 0, 191), (18, 4, 1, 193), (22, 7, 2, 114), (29, 2, 0, 125), (35, 5, 1, 77), (114, 7, 1, 112)],
  [(15, 5, 0, 73), (21, 5, 1, 74)],
  [(9, 6, 0, 172), (15, 6, 1, 173), (18, 6, 2, 174)],
  [(9, 7, 0, 110), (18, 7, 1, 111), (22, 7, 2, 115)],
  [(11, 8, 0, 158), (20, 8, 1, 159)],
  [(14, 9, 0, 266), (21, 9, 1, 267), (28, 9, 2, 268), (32, 9, 3, 269), (36, 9, 4, 270), (48, 5, 1, 75), (55, 3, 4, 211), (65, 3, 0, 201), (69, 2, 0, 128), (109, 3, 1, 204), (119, 8, 1, 160), (126, 3, 2, 207), (130, 6, 2, 175), (136, 2, 1, 130), (139, 2, 2, 132), (149, 2, 3, 135), (153, 7, 1, 113), (164, 7, 2, 116), (176, 0, 1, 257)],
  [(7, 10, 0, 606), (13, 10, 1, 607), (16, 10, 3, 609), (19, 10, 4, 610), (22, 10, 7, 613), (25, 10, 8, 614), (28, 10, 9, 615), (31, 10, 10, 616), (34, 10, 11, 617), (37, 10, 2, 608), (41, 10, 12, 618), (44, 10, 13, 619), (47, 10, 14, 620), (54, 10, 15, 621), (61, 10, 16, 622), (125, 10, 6, 612), (131, 10, 5, 611), (185, 10, 17, 623)],
  []]
def cT : List (List (Nat × Nat × Nat × Nat × Nat × Nat × Nat)) := [[(3, 4, 0, 228, 0, 0, 0), (17, 3, 3, 232, 233, 0, 53), (25, 0, 4, 312, 313, 314, 53), (29, 6, 0, 333, 0, 0, 0), (35, 0, 5, 579, 580, 581, 53)],
  [(3, 4, 0, 235, 0, 0, 0), (17, 3, 29, 237, 67, 0, 44), (22, 3, 52, 239, 152, 0, 49), (29, 3, 37, 241, 169, 0, 50), (51, 0, 31, 316, 317, 318, 44), (56, 0, 53, 323, 324, 325, 49), (60, 0, 38, 328, 329, 330, 50)],
  [(3, 4, 0, 97, 0, 0, 0), (11, 3, 29, 99, 67, 0, 44), (29, 3, 41, 102, 103, 0, 48), (38, 5, 0, 370, 0, 0, 0), (48, 0, 9, 541, 542, 543, 47)],
  [(3, 4, 0, 90, 0, 0, 0), (17, 3, 6, 94, 95, 0, 47), (20, 3, 52, 151, 152, 0, 49), (27, 3, 37, 168, 169, 0, 50), (34, 3, 19, 185, 186, 0, 51), (43, 0, 14, 343, 344, 345, 46), (67, 0, 43, 347, 348, 349, 48), (73, 0, 42, 352, 107, 108, 48), (76, 5, 0, 353, 0, 0, 0), (82, 0, 20, 354, 355, 356, 51), (86, 0, 44, 448, 449, 450, 48)],
  [(3, 4, 0, 188, 0, 0, 0), (11, 3, 41, 190, 103, 0, 48), (25, 0, 21, 358, 360, 1, 51), (40, 0, 22, 371, 373, 2, 51), (44, 5, 0, 443, 0, 0, 0), (50, 0, 51, 444, 445, 446, 48), (53, 0, 30, 362, 363, 364, 44), (57, 0, 7, 366, 367, 368, 47), (61, 0, 46, 375, 376, 377, 48), (65, 0, 23, 386, 388, 3, 51), (68, 0, 24, 398, 400, 4, 51), (71, 2, 80, 406, 407, 0, 43), (75, 0, 26, 409, 411, 5, 51), (78, 2, 81, 421, 422, 0, 43), (81, 0, 27, 424, 426, 6, 51), (85, 0, 28, 428, 430, 7, 51), (89, 0, 25, 435, 437, 8, 51), (92, 0, 49, 390, 391, 392, 48), (95, 0, 50, 394, 395, 396, 48), (98, 0, 47, 402, 403, 404, 48), (101, 0, 48, 439, 440, 441, 48), (105, 0, 54, 413, 414, 415, 49), (111, 2, 82, 432, 433, 0, 43)],
  [(3, 4, 0, 69, 0, 0, 0), (9, 5, 0, 70, 0, 0, 0), (25, 6, 0, 320, 0, 0, 0), (28, 7, 0, 297, 0, 0, 0), (34, 0, 33, 461, 418, 419, 44)],
  [(3, 4, 0, 171, 0, 0, 0), (22, 7, 0, 332, 0, 0, 0)],
  [(3, 4, 0, 105, 0, 0, 0), (15, 0, 42, 106, 107, 108, 48), (25, 7, 0, 351, 0, 0, 0), (31, 0, 45, 379, 380, 381, 48), (35, 2, 83, 383, 384, 0, 43)],
  [(3, 4, 0, 154, 0, 0, 0), (17, 3, 29, 157, 67, 0, 44), (24, 0, 31, 327, 317, 318, 44), (28, 0, 33, 417, 418, 419, 44), (32, 0, 30, 516, 363, 364, 44)],
  [(1, 4, 0, 61, 0, 0, 0), (11, 3, 29, 66, 67, 0, 44), (20, 3, 13, 87, 88, 0, 46), (27, 3, 0, 225, 226, 0, 52), (40, 1, 79, 286, 287, 0, 43), (44, 0, 78, 289, 291, 0, 43), (51, 0, 34, 293, 294, 295, 44), (58, 0, 1, 308, 309, 310, 52), (62, 0, 16, 334, 335, 336, 46), (74, 0, 31, 338, 317, 318, 44), (78, 0, 18, 339, 340, 341, 46), (82, 0, 14, 456, 344, 345, 46), (85, 0, 32, 457, 458, 459, 44), (89, 0, 17, 466, 467, 468, 46), (92, 0, 15, 478, 479, 480, 46), (96, 0, 30, 482, 363, 364, 44), (99, 0, 35, 483, 484, 485, 44), (102, 0, 36, 491, 492, 493, 44), (106, 1, 84, 499, 500, 0, 43), (113, 0, 54, 503, 414, 415, 49), (120, 0, 55, 504, 505, 506, 49), (123, 0, 56, 512, 513, 514, 49), (133, 0, 39, 521, 522, 523, 50), (142, 0, 40, 529, 530, 531, 50), (145, 0, 10, 537, 538, 539, 47), (158, 0, 46, 545, 376, 377, 48), (161, 0, 47, 546, 403, 404, 48), (167, 0, 11, 551, 552, 553, 47), (170, 0, 12, 555, 556, 557, 47), (173, 0, 8, 567, 568, 569, 47), (177, 0, 2, 575, 576, 577, 52), (184, 0, 75, 593, 584, 585, 43), (187, 0, 77, 594, 596, 9, 43), (191, 0, 70, 598, 534, 535, 43), (194, 0, 69, 599, 526, 527, 43), (198, 1, 80, 502, 407, 0, 43)],
  [(1, 4, 0, 605, 0, 0, 0), (50, 1, 93, 840, 841, 0, 54), (57, 1, 86, 665, 666, 0, 54), (64, 0, 89, 716, 718, 20, 54), (68, 1, 95, 739, 740, 0, 54), (71, 0, 99, 735, 737, 24, 54), (75, 0, 90, 753, 755, 27, 54), (79, 0, 96, 712, 714, 19, 54), (82, 1, 97, 724, 725, 0, 54), (85, 1, 98, 742, 743, 0, 54), (88, 0, 102, 727, 729, 22, 54), (91, 0, 101, 731, 733, 23, 54), (95, 0, 103, 745, 747, 25, 54), (98, 0, 100, 749, 751, 26, 54), (101, 0, 91, 757, 759, 28, 54), (104, 0, 107, 708, 710, 18, 54), (107, 0, 104, 720, 722, 21, 54), (110, 0, 106, 761, 763, 29, 54), (113, 0, 105, 765, 767, 30, 54), (116, 0, 108, 704, 706, 17, 54), (119, 0, 92, 769, 771, 31, 54), (122, 0, 109, 700, 702, 16, 54), (128, 0, 87, 668, 670, 10, 54), (134, 0, 115, 688, 690, 13, 54), (137, 0, 88, 680, 682, 11, 54), (140, 0, 116, 684, 686, 12, 54), (144, 0, 114, 692, 694, 14, 54), (147, 0, 110, 696, 698, 15, 54), (150, 0, 113, 777, 779, 32, 54), (153, 0, 123, 801, 803, 33, 54), (157, 0, 124, 805, 807, 34, 54), (160, 0, 128, 825, 827, 36, 54), (164, 0, 129, 821, 823, 35, 54), (168, 0, 131, 847, 849, 39, 54), (171, 1, 94, 837, 838, 0, 54), (174, 0, 132, 843, 845, 38, 54), (177, 0, 133, 833, 835, 37, 54), (180, 0, 139, 871, 873, 40, 54), (191, 0, 141, 880, 882, 41, 54)],
  [(9, 3, 57, 58, 59, 0, 43), (12, 3, 85, 602, 603, 0, 54), (13, 0, 58, 282, 283, 284, 43), (17, 0, 111, 661, 662, 663, 54), (18, 0, 59, 300, 301, 302, 43), (22, 0, 112, 672, 673, 674, 54), (23, 0, 60, 304, 305, 306, 43), (26, 0, 117, 676, 677, 678, 54), (27, 0, 61, 452, 453, 454, 43), (30, 0, 118, 773, 774, 775, 54), (31, 0, 62, 462, 463, 464, 43), (34, 0, 119, 781, 782, 783, 54), (35, 0, 63, 470, 471, 472, 43), (39, 0, 120, 785, 786, 787, 54), (40, 0, 64, 474, 475, 476, 43), (44, 0, 121, 789, 790, 791, 54), (45, 0, 65, 487, 488, 489, 43), (48, 0, 122, 793, 794, 795, 54), (49, 0, 66, 495, 496, 497, 43), (52, 0, 125, 797, 798, 799, 54), (53, 0, 67, 508, 509, 510, 43), (56, 0, 126, 809, 810, 811, 54), (57, 0, 68, 517, 518, 519, 43), (60, 0, 127, 813, 814, 815, 54), (61, 0, 69, 525, 526, 527, 43), (64, 0, 130, 817, 818, 819, 54), (65, 0, 70, 533, 534, 535, 43), (68, 0, 134, 829, 830, 831, 54), (69, 0, 71, 547, 548, 549, 43), (72, 0, 135, 851, 852, 853, 54), (73, 0, 72, 559, 560, 561, 43), (76, 0, 136, 855, 856, 857, 54), (77, 0, 73, 563, 564, 565, 43), (80, 0, 137, 859, 860, 861, 54), (81, 0, 74, 571, 572, 573, 43), (84, 0, 138, 863, 864, 865, 54), (85, 0, 75, 583, 584, 585, 43), (88, 0, 140, 867, 868, 869, 54), (89, 0, 76, 587, 588, 589, 43), (93, 0, 142, 875, 876, 877, 54)]]
def nT : List (List (Nat × Nat × Nat × Nat × Nat)) := [[(9, 1, 229, 231, 53)],
  [(9, 5, 236, 65, 44), (20, 8, 238, 150, 49), (27, 6, 240, 167, 50)],
  [(9, 5, 98, 65, 44), (27, 7, 100, 101, 48)],
  [(9, 2, 91, 93, 47), (18, 8, 149, 150, 49), (25, 6, 166, 167, 50), (32, 4, 183, 184, 51)],
  [(9, 7, 189, 101, 48)],
  [],
  [],
  [],
  [(9, 5, 155, 65, 44)],
  [(7, 5, 64, 65, 44), (18, 3, 85, 86, 46), (25, 0, 223, 224, 52)],
  [],
  [(7, 9, 56, 57, 43), (10, 10, 600, 601, 54)]]
def kT : List (List (Nat × Int64 × Nat)) := [[],
  [],
  [],
  [],
  [],
  [],
  [],
  [],
  [],
  [(180, 2543, 591), (182, 31, 592)],
  [(183, 31, 884), (189, 2543, 879)],
  []]
/-- kinds of fields: 0 int, 1 boolean, 2 long, 3 a reference; 10 more where it is final -/
def gT : List (List Nat) := [[13, 0, 0], [13, 13, 13, 0], [13, 13, 13, 13, 1], [13, 13, 13, 13, 0], [13, 0], [13, 0], [13, 13, 0], [13, 0, 0], [13, 0], [13, 13, 13, 13, 0], [13, 13, 0, 13, 13, 0, 0, 13, 13, 13, 13, 13, 0, 0, 0, 0, 0, 2]]
