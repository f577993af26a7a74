/-! THE CALLS: what a call of a method comes to, at a depth -/
def pz_bls : List (List (Nat × List pz_E)) := [bl_Co_init, bl_Co_clear, bl_Co_setBench, bl_Co_put, bl_Co_cats, bl_Co_setCat, bl_Co_people, bl_Co_setAccused, bl_Co_addCat, bl_Co_addAccused, bl_Co_copy, bl_Co_ofBench, bl_Co_hasAccused, bl_Co_ofAccused, bl_Co_serving, bl_Co_ofCat, bl_Co_logged, bl_Co_hasCat, bl_Co_write, bl_Co_entryAt, bl_Ct_init, bl_Ct_read, bl_Ct_clause, bl_Ct_items, bl_Ct_store, bl_Ct_ends, bl_Ct_draft, bl_Di_init, bl_Di_begin, bl_Di_draw, bl_La_init, bl_La_learn, bl_La_worth, bl_La_join, bl_Lt_init, bl_Lt_read, bl_Lt_clause, bl_Lt_sum, bl_Lt_term, bl_Lt_atom, bl_Lt_emit, bl_Lt_isEither, bl_Lt_isComparison, bl_Lt_condition, bl_Lt_truth, bl_Lt_unit, bl_Lt_nested, bl_Lt_conditionalSum, bl_Lt_giveTo, bl_Mi_init, bl_Mi_use, bl_Mi_moodOf, bl_Mi_tell, bl_Mi_habit, bl_Mi_oddsOf, bl_Mi_reckon, bl_Mi_courtInUse, bl_Mi_likeliest, bl_Pa_init, bl_Pa_forget, bl_Pa_size, bl_Pa_keep, bl_Pa_giveBack, bl_Sc_init, bl_Sc_weigh, bl_Sc_begin, bl_Sc_side, bl_Sc_put, bl_Sc_heldBy, bl_Sc_rightBy, bl_Sc_meanBy, bl_Sc_deedBy, bl_Sp_init, bl_Sp_begin, bl_Sp_put, bl_Sp_from, bl_Sp_build, bl_Sp_extend, bl_Sp_timesPoints, bl_Sp_oddsAt, bl_Ta_init, bl_Ta_bytesOf, bl_Ta_size, bl_Ta_add, bl_Ta_cutTo, bl_Ta_rewind, bl_Ta_sign, bl_Ta_step, bl_Ta_number, bl_Ta_digitHere, bl_Ta_fail, bl_Ta_takes, bl_Ta_wants, bl_Ta_wrongAt, bl_CC_init, bl_CC_feed, bl_CC_end, bl_CC_fault, bl_CC_placeOf, bl_CC_isIn, bl_CC_text, bl_CC_openCourt, bl_CC_tellLaw, bl_CC_bench, bl_CC_accused, bl_CC_law, bl_CC_count, bl_CC_mood, bl_CC_isPair, bl_CC_isDeed, bl_CC_isBit, bl_CC_thinkOf, bl_CC_lawAt, bl_CC_odds, bl_CC_held, bl_CC_isCase, bl_CC_isSet, bl_CC_right, bl_CC_rightNow, bl_CC_hundredths, bl_CC_mean, bl_CC_likely, bl_CC_quiet, bl_CC_share, bl_CC_surely, bl_CC_noisy, bl_CC_purrsApart, bl_CC_alike, bl_CC_fish, bl_CC_nights, bl_CC_heat, bl_CC_milk, bl_CC_retire, bl_CC_hear, bl_CC_entry, bl_CC_undo, bl_CC_image, bl_CC_back, bl_CC_log, bl_CC_partOf, bl_CC_catOf, bl_CC_accusedOf, bl_CC_deedOf, bl_CC_often, bl_CC_harsh, bl_CC_pointsBroughtBy, bl_CC_ask, bl_CC_mirrored, bl_CC_three, bl_CC_isThreeToOne, bl_CC_spare, bl_CC_bar, bl_CC_moonlit, bl_CC_mercy, bl_CC_weighTreats, bl_CC_fishIn, bl_CC_treatAt, bl_CC_isMerciful, bl_CC_rowOf, bl_CC_appeals, bl_CC_brothers, bl_CC_heldByGuilt, bl_CC_free, bl_CC_rests, bl_CC_wash, bl_CC_isRest, bl_CC_washedAt, bl_CC_see, bl_CC_guess, bl_CC_partsSeen, bl_CC_drank, bl_CC_possibleBy, bl_CC_canBe, bl_CC_isDrunkBy, bl_CC_sure, bl_CC_fits, bl_CC_fitting, bl_CC_cat, bl_Mo_init, bl_Mo_thrown, bl_Mo_feed, bl_Mo_byteOf, bl_Mo_end, bl_Mo_fault, bl_Mo_readCourt, bl_Mo_usual, bl_Mo_look, bl_Mo_here, bl_Mo_items, bl_Mo_itemOf, bl_Mo_deedOf, bl_Mo_has, bl_Mo_highest, bl_Mo_number, bl_Mo_isDigit, bl_Mo_bad, bl_Mo_readLaw, bl_Mo_open, bl_Mo_clause, bl_Mo_condition, bl_Mo_unit, bl_Mo_opens, bl_Mo_put, bl_Mo_closes, bl_Mo_sum, bl_Mo_term, bl_Mo_atom, bl_Mo_plainNumber, bl_Mo_letterOf, bl_Mo_compare, bl_Mo_isSign, bl_Mo_goOnAnd, bl_Mo_goOnOr, bl_Mo_atEnd, bl_Mo_text, bl_Mo_takeCourt, bl_Mo_bench, bl_Mo_in, bl_Mo_cat, bl_Mo_isCat, bl_Mo_accused, bl_Mo_isAccused, bl_Mo_law, bl_Mo_mood, bl_Mo_isDeed, bl_Mo_isSide, bl_Mo_moodOf, bl_Mo_plainMood, bl_Mo_worthOf, bl_Mo_workOut, bl_Mo_worked, bl_Mo_bounded, bl_Mo_odds, bl_Mo_oddsOf, bl_Mo_layOdds, bl_Mo_held, bl_Mo_isSet, bl_Mo_isSitting, bl_Mo_heldBy, bl_Mo_layParts, bl_Mo_spread, bl_Mo_partsFrom, bl_Mo_right, bl_Mo_rightBy, bl_Mo_rightOf, bl_Mo_fish, bl_Mo_keep, bl_Mo_nights, bl_Mo_heat, bl_Mo_told, bl_Mo_milk, bl_Mo_retire, bl_Mo_hear, bl_Mo_draw, bl_Mo_drawDeed, bl_Mo_note, bl_Mo_undo, bl_Mo_log, bl_Mo_logAt, bl_Mo_ask, bl_Mo_three, bl_Mo_spare, bl_Mo_sitting, bl_Mo_mercy, bl_Mo_putFish, bl_Mo_appeals, bl_Mo_alike, bl_Mo_rests, bl_Mo_isRest, bl_Mo_washed, bl_Mo_surely, bl_Mo_noisy, bl_Mo_mean, bl_Mo_likely, bl_Mo_likelyOf, bl_Mo_quiet, bl_Mo_bar, bl_Mo_moonlit, bl_Mo_brothers, bl_Mo_heldAnyway, bl_Mo_see, bl_Mo_guess, bl_Mo_seenParts, bl_Mo_drank, bl_Mo_couldDrink, bl_Mo_couldBe, bl_Mo_sure, bl_Mo_fits, bl_Mo_fitting, bl_Mo_often, bl_Mo_harsh, bl_Mo_free, bl_Mo_image, bl_Mo_back, bl_Mo_count, bl_Jd_bitCount]
def I_Co_init : pz_I := (⟨"CatCourt$Court", "<init>", "()V"⟩, prog_2_method_1_code, 1, none, 0, 1, 144)
def I_Co_clear : pz_I := (⟨"CatCourt$Court", "clear", "()V"⟩, prog_2_method_4_code, 2, none, 0, 0, 0)
def I_Co_setBench : pz_I := (⟨"CatCourt$Court", "setBench", "(II)V"⟩, prog_2_method_13_code, 3, none, 2, 0, 0)
def I_Co_put : pz_I := (⟨"CatCourt$Court", "put", "(II)V"⟩, prog_2_method_2_code, 3, none, 2, 0, 0)
def I_Co_cats : pz_I := (⟨"CatCourt$Court", "cats", "()I"⟩, prog_2_method_5_code, 1, (some FieldType.int), 0, 0, 0)
def I_Co_setCat : pz_I := (⟨"CatCourt$Court", "setCat", "(III)V"⟩, prog_2_method_15_code, 4, none, 3, 0, 0)
def I_Co_people : pz_I := (⟨"CatCourt$Court", "people", "()I"⟩, prog_2_method_6_code, 1, (some FieldType.int), 0, 0, 0)
def I_Co_setAccused : pz_I := (⟨"CatCourt$Court", "setAccused", "(III)V"⟩, prog_2_method_17_code, 4, none, 3, 0, 0)
def I_Co_addCat : pz_I := (⟨"CatCourt$Court", "addCat", "()V"⟩, prog_2_method_10_code, 1, none, 0, 0, 0)
def I_Co_addAccused : pz_I := (⟨"CatCourt$Court", "addAccused", "()V"⟩, prog_2_method_11_code, 1, none, 0, 0, 0)
def I_Co_copy : pz_I := (⟨"CatCourt$Court", "copy", "(LCatCourt$Court;)V"⟩, prog_2_method_3_code, 2, none, 1, 0, 0)
def I_Co_ofBench : pz_I := (⟨"CatCourt$Court", "ofBench", "(I)I"⟩, prog_2_method_12_code, 2, (some FieldType.int), 1, 0, 0)
def I_Co_hasAccused : pz_I := (⟨"CatCourt$Court", "hasAccused", "(I)Z"⟩, prog_2_method_9_code, 2, (some FieldType.boolean), 1, 0, 0)
def I_Co_ofAccused : pz_I := (⟨"CatCourt$Court", "ofAccused", "(II)I"⟩, prog_2_method_16_code, 4, (some FieldType.int), 2, 0, 0)
def I_Co_serving : pz_I := (⟨"CatCourt$Court", "serving", "()I"⟩, prog_2_method_18_code, 3, (some FieldType.int), 0, 0, 0)
def I_Co_ofCat : pz_I := (⟨"CatCourt$Court", "ofCat", "(II)I"⟩, prog_2_method_14_code, 4, (some FieldType.int), 2, 0, 0)
def I_Co_logged : pz_I := (⟨"CatCourt$Court", "logged", "()I"⟩, prog_2_method_7_code, 1, (some FieldType.int), 0, 0, 0)
def I_Co_hasCat : pz_I := (⟨"CatCourt$Court", "hasCat", "(I)Z"⟩, prog_2_method_8_code, 2, (some FieldType.boolean), 1, 0, 0)
def I_Co_write : pz_I := (⟨"CatCourt$Court", "write", "(I)V"⟩, prog_2_method_19_code, 4, none, 1, 0, 0)
def I_Co_entryAt : pz_I := (⟨"CatCourt$Court", "entryAt", "(I)I"⟩, prog_2_method_20_code, 2, (some FieldType.int), 1, 0, 0)
def I_Ct_init : pz_I := (⟨"CatCourt$CourtText", "<init>", "(LCatCourt$Tape;)V"⟩, prog_3_method_1_code, 2, none, 1, 2, 145)
def I_Ct_read : pz_I := (⟨"CatCourt$CourtText", "read", "()Z"⟩, prog_3_method_3_code, 3, (some FieldType.boolean), 0, 0, 0)
def I_Ct_clause : pz_I := (⟨"CatCourt$CourtText", "clause", "()Z"⟩, prog_3_method_5_code, 3, (some FieldType.boolean), 0, 0, 0)
def I_Ct_items : pz_I := (⟨"CatCourt$CourtText", "items", "(I[C[I)Z"⟩, prog_3_method_6_code, 8, (some FieldType.boolean), 3, 0, 0)
def I_Ct_store : pz_I := (⟨"CatCourt$CourtText", "store", "(III)V"⟩, prog_3_method_7_code, 4, none, 3, 0, 0)
def I_Ct_ends : pz_I := (⟨"CatCourt$CourtText", "ends", "()Z"⟩, prog_3_method_4_code, 1, (some FieldType.boolean), 0, 0, 0)
def I_Ct_draft : pz_I := (⟨"CatCourt$CourtText", "draft", "()LCatCourt$Court;"⟩, prog_3_method_2_code, 1, (some (FieldType.object "CatCourt$Court")), 0, 0, 0)
def I_Di_init : pz_I := (⟨"CatCourt$Dice", "<init>", "()V"⟩, prog_4_method_1_code, 1, none, 0, 0, 0)
def I_Di_begin : pz_I := (⟨"CatCourt$Dice", "begin", "(J)V"⟩, prog_4_method_2_code, 3, none, 1, 0, 0)
def I_Di_draw : pz_I := (⟨"CatCourt$Dice", "draw", "(I)I"⟩, prog_4_method_3_code, 2, (some FieldType.int), 1, 0, 0)
def I_La_init : pz_I := (⟨"CatCourt$Law", "<init>", "()V"⟩, prog_5_method_1_code, 1, none, 0, 2, 280)
def I_La_learn : pz_I := (⟨"CatCourt$Law", "learn", "([II)V"⟩, prog_5_method_2_code, 4, none, 2, 0, 0)
def I_La_worth : pz_I := (⟨"CatCourt$Law", "worth", "([I)I"⟩, prog_5_method_3_code, 7, (some FieldType.int), 1, 0, 0)
def I_La_join : pz_I := (⟨"CatCourt$Law", "join", "(III)I"⟩, prog_5_method_4_code, 5, (some FieldType.int), 3, 0, 0)
def I_Lt_init : pz_I := (⟨"CatCourt$LawText", "<init>", "(LCatCourt$Tape;)V"⟩, prog_6_method_1_code, 2, none, 1, 1, 240)
def I_Lt_read : pz_I := (⟨"CatCourt$LawText", "read", "()Z"⟩, prog_6_method_3_code, 3, (some FieldType.boolean), 0, 0, 0)
def I_Lt_clause : pz_I := (⟨"CatCourt$LawText", "clause", "()Z"⟩, prog_6_method_4_code, 2, (some FieldType.boolean), 0, 0, 0)
def I_Lt_sum : pz_I := (⟨"CatCourt$LawText", "sum", "(I)Z"⟩, prog_6_method_10_code, 5, (some FieldType.boolean), 1, 0, 0)
def I_Lt_term : pz_I := (⟨"CatCourt$LawText", "term", "(I)Z"⟩, prog_6_method_11_code, 5, (some FieldType.boolean), 1, 0, 0)
def I_Lt_atom : pz_I := (⟨"CatCourt$LawText", "atom", "(I)Z"⟩, prog_6_method_12_code, 5, (some FieldType.boolean), 1, 0, 0)
def I_Lt_emit : pz_I := (⟨"CatCourt$LawText", "emit", "(II)V"⟩, prog_6_method_15_code, 3, none, 2, 0, 0)
def I_Lt_isEither : pz_I := (⟨"CatCourt$LawText", "isEither", "(II)Z"⟩, prog_6_method_13_code, 3, (some FieldType.boolean), 2, 0, 0)
def I_Lt_isComparison : pz_I := (⟨"CatCourt$LawText", "isComparison", "(I)Z"⟩, prog_6_method_14_code, 1, (some FieldType.boolean), 1, 0, 0)
def I_Lt_condition : pz_I := (⟨"CatCourt$LawText", "condition", "(IZ)Z"⟩, prog_6_method_6_code, 5, (some FieldType.boolean), 2, 0, 0)
def I_Lt_truth : pz_I := (⟨"CatCourt$LawText", "truth", "(IZ)Z"⟩, prog_6_method_7_code, 5, (some FieldType.boolean), 2, 0, 0)
def I_Lt_unit : pz_I := (⟨"CatCourt$LawText", "unit", "(IZ)Z"⟩, prog_6_method_8_code, 5, (some FieldType.boolean), 2, 0, 0)
def I_Lt_nested : pz_I := (⟨"CatCourt$LawText", "nested", "(I)Z"⟩, prog_6_method_9_code, 2, (some FieldType.boolean), 1, 0, 0)
def I_Lt_conditionalSum : pz_I := (⟨"CatCourt$LawText", "conditionalSum", "()Z"⟩, prog_6_method_5_code, 2, (some FieldType.boolean), 0, 0, 0)
def I_Lt_giveTo : pz_I := (⟨"CatCourt$LawText", "giveTo", "(LCatCourt$Law;)V"⟩, prog_6_method_2_code, 2, none, 1, 0, 0)
def I_Mi_init : pz_I := (⟨"CatCourt$Mind", "<init>", "(LCatCourt$Court;)V"⟩, prog_7_method_1_code, 2, none, 1, 3, 16)
def I_Mi_use : pz_I := (⟨"CatCourt$Mind", "use", "(LCatCourt$Court;LCatCourt$Law;)V"⟩, prog_7_method_2_code, 3, none, 2, 0, 0)
def I_Mi_moodOf : pz_I := (⟨"CatCourt$Mind", "moodOf", "(IIII)I"⟩, prog_7_method_4_code, 7, (some FieldType.int), 4, 0, 0)
def I_Mi_tell : pz_I := (⟨"CatCourt$Mind", "tell", "(IIII)V"⟩, prog_7_method_5_code, 5, none, 4, 0, 0)
def I_Mi_habit : pz_I := (⟨"CatCourt$Mind", "habit", "()I"⟩, prog_7_method_6_code, 1, (some FieldType.int), 0, 0, 0)
def I_Mi_oddsOf : pz_I := (⟨"CatCourt$Mind", "oddsOf", "(IIII)I"⟩, prog_7_method_8_code, 5, (some FieldType.int), 4, 0, 0)
def I_Mi_reckon : pz_I := (⟨"CatCourt$Mind", "reckon", "(III)[I"⟩, prog_7_method_9_code, 8, (some (FieldType.array FieldType.int)), 3, 0, 0)
def I_Mi_courtInUse : pz_I := (⟨"CatCourt$Mind", "courtInUse", "()LCatCourt$Court;"⟩, prog_7_method_3_code, 1, (some (FieldType.object "CatCourt$Court")), 0, 0, 0)
def I_Mi_likeliest : pz_I := (⟨"CatCourt$Mind", "likeliest", "(III)I"⟩, prog_7_method_7_code, 8, (some FieldType.int), 3, 0, 0)
def I_Pa_init : pz_I := (⟨"CatCourt$Past", "<init>", "()V"⟩, prog_8_method_1_code, 2, none, 0, 81, 5840)
def I_Pa_forget : pz_I := (⟨"CatCourt$Past", "forget", "()V"⟩, prog_8_method_3_code, 1, none, 0, 0, 0)
def I_Pa_size : pz_I := (⟨"CatCourt$Past", "size", "()I"⟩, prog_8_method_2_code, 1, (some FieldType.int), 0, 0, 0)
def I_Pa_keep : pz_I := (⟨"CatCourt$Past", "keep", "(LCatCourt$Court;)V"⟩, prog_8_method_4_code, 2, none, 1, 0, 0)
def I_Pa_giveBack : pz_I := (⟨"CatCourt$Past", "giveBack", "(LCatCourt$Court;)Z"⟩, prog_8_method_5_code, 3, (some FieldType.boolean), 1, 0, 0)
def I_Sc_init : pz_I := (⟨"CatCourt$Scales", "<init>", "(LCatCourt$Mind;)V"⟩, prog_9_method_1_code, 2, none, 1, 30, 1528)
def I_Sc_weigh : pz_I := (⟨"CatCourt$Scales", "weigh", "(II)V"⟩, prog_9_method_5_code, 5, none, 2, 0, 0)
def I_Sc_begin : pz_I := (⟨"CatCourt$Scales", "begin", "(I)V"⟩, prog_9_method_3_code, 2, none, 1, 0, 0)
def I_Sc_side : pz_I := (⟨"CatCourt$Scales", "side", "(I)LCatCourt$Spread;"⟩, prog_9_method_2_code, 2, (some (FieldType.object "CatCourt$Spread")), 1, 0, 0)
def I_Sc_put : pz_I := (⟨"CatCourt$Scales", "put", "(IIII)V"⟩, prog_9_method_4_code, 5, none, 4, 0, 0)
def I_Sc_heldBy : pz_I := (⟨"CatCourt$Scales", "heldBy", "(III)I"⟩, prog_9_method_6_code, 4, (some FieldType.int), 3, 0, 0)
def I_Sc_rightBy : pz_I := (⟨"CatCourt$Scales", "rightBy", "(III)I"⟩, prog_9_method_7_code, 4, (some FieldType.int), 3, 0, 0)
def I_Sc_meanBy : pz_I := (⟨"CatCourt$Scales", "meanBy", "(II)I"⟩, prog_9_method_8_code, 3, (some FieldType.int), 2, 0, 0)
def I_Sc_deedBy : pz_I := (⟨"CatCourt$Scales", "deedBy", "(III)I"⟩, prog_9_method_9_code, 6, (some FieldType.int), 3, 0, 0)
def I_Sp_init : pz_I := (⟨"CatCourt$Spread", "<init>", "()V"⟩, prog_10_method_1_code, 1, none, 0, 14, 759)
def I_Sp_begin : pz_I := (⟨"CatCourt$Spread", "begin", "(LCatCourt$Court;)V"⟩, prog_10_method_2_code, 3, none, 1, 0, 0)
def I_Sp_put : pz_I := (⟨"CatCourt$Spread", "put", "(I[I)V"⟩, prog_10_method_3_code, 4, none, 2, 0, 0)
def I_Sp_from : pz_I := (⟨"CatCourt$Spread", "from", "(II)J"⟩, prog_10_method_5_code, 7, (some FieldType.long), 2, 0, 0)
def I_Sp_build : pz_I := (⟨"CatCourt$Spread", "build", "(I)I"⟩, prog_10_method_7_code, 5, (some FieldType.int), 1, 0, 0)
def I_Sp_extend : pz_I := (⟨"CatCourt$Spread", "extend", "(II)V"⟩, prog_10_method_8_code, 12, none, 2, 0, 0)
def I_Sp_timesPoints : pz_I := (⟨"CatCourt$Spread", "timesPoints", "(I)J"⟩, prog_10_method_6_code, 6, (some FieldType.long), 1, 0, 0)
def I_Sp_oddsAt : pz_I := (⟨"CatCourt$Spread", "oddsAt", "(II)I"⟩, prog_10_method_4_code, 3, (some FieldType.int), 2, 0, 0)
def I_Ta_init : pz_I := (⟨"CatCourt$Tape", "<init>", "()V"⟩, prog_11_method_1_code, 1, none, 0, 1, 240)
def I_Ta_bytesOf : pz_I := (⟨"CatCourt$Tape", "bytesOf", "(I)I"⟩, prog_11_method_2_code, 3, (some FieldType.int), 1, 0, 0)
def I_Ta_size : pz_I := (⟨"CatCourt$Tape", "size", "()I"⟩, prog_11_method_4_code, 1, (some FieldType.int), 0, 0, 0)
def I_Ta_add : pz_I := (⟨"CatCourt$Tape", "add", "(I)V"⟩, prog_11_method_3_code, 4, none, 1, 0, 0)
def I_Ta_cutTo : pz_I := (⟨"CatCourt$Tape", "cutTo", "(I)Z"⟩, prog_11_method_5_code, 2, (some FieldType.boolean), 1, 0, 0)
def I_Ta_rewind : pz_I := (⟨"CatCourt$Tape", "rewind", "()V"⟩, prog_11_method_6_code, 1, none, 0, 0, 0)
def I_Ta_sign : pz_I := (⟨"CatCourt$Tape", "sign", "()I"⟩, prog_11_method_9_code, 1, (some FieldType.int), 0, 0, 0)
def I_Ta_step : pz_I := (⟨"CatCourt$Tape", "step", "()V"⟩, prog_11_method_10_code, 1, none, 0, 0, 0)
def I_Ta_number : pz_I := (⟨"CatCourt$Tape", "number", "(II)I"⟩, prog_11_method_14_code, 5, (some FieldType.int), 2, 0, 0)
def I_Ta_digitHere : pz_I := (⟨"CatCourt$Tape", "digitHere", "()I"⟩, prog_11_method_13_code, 2, (some FieldType.int), 0, 0, 0)
def I_Ta_fail : pz_I := (⟨"CatCourt$Tape", "fail", "()Z"⟩, prog_11_method_8_code, 1, (some FieldType.boolean), 0, 0, 0)
def I_Ta_takes : pz_I := (⟨"CatCourt$Tape", "takes", "(I)Z"⟩, prog_11_method_11_code, 3, (some FieldType.boolean), 1, 0, 0)
def I_Ta_wants : pz_I := (⟨"CatCourt$Tape", "wants", "(I)Z"⟩, prog_11_method_12_code, 2, (some FieldType.boolean), 1, 0, 0)
def I_Ta_wrongAt : pz_I := (⟨"CatCourt$Tape", "wrongAt", "()I"⟩, prog_11_method_7_code, 1, (some FieldType.int), 0, 0, 0)
def I_CC_init : pz_I := (⟨"CatCourt", "<init>", "()V"⟩, prog_1_method_1_code, 2, none, 0, 146, 9634)
def I_CC_feed : pz_I := (⟨"CatCourt", "feed", "(IIIII)I"⟩, prog_1_method_2_code, 7, (some FieldType.int), 5, 0, 0)
def I_CC_end : pz_I := (⟨"CatCourt", "end", "(I)Z"⟩, prog_1_method_3_code, 2, (some FieldType.boolean), 1, 0, 0)
def I_CC_fault : pz_I := (⟨"CatCourt", "fault", "(I)I"⟩, prog_1_method_4_code, 2, (some FieldType.int), 1, 0, 0)
def I_CC_placeOf : pz_I := (⟨"CatCourt", "placeOf", "(I[C)I"⟩, prog_1_method_84_code, 3, (some FieldType.int), 2, 0, 0)
def I_CC_isIn : pz_I := (⟨"CatCourt", "isIn", "(II)Z"⟩, prog_1_method_73_code, 2, (some FieldType.boolean), 2, 0, 0)
def I_CC_text : pz_I := (⟨"CatCourt", "text", "(I)I"⟩, prog_1_method_5_code, 2, (some FieldType.int), 1, 0, 0)
def I_CC_openCourt : pz_I := (⟨"CatCourt", "openCourt", "()I"⟩, prog_1_method_6_code, 1, (some FieldType.int), 0, 0, 0)
def I_CC_tellLaw : pz_I := (⟨"CatCourt", "tellLaw", "()I"⟩, prog_1_method_7_code, 1, (some FieldType.int), 0, 0, 0)
def I_CC_bench : pz_I := (⟨"CatCourt", "bench", "(I)I"⟩, prog_1_method_8_code, 2, (some FieldType.int), 1, 0, 0)
def I_CC_accused : pz_I := (⟨"CatCourt", "accused", "(II)I"⟩, prog_1_method_10_code, 3, (some FieldType.int), 2, 0, 0)
def I_CC_law : pz_I := (⟨"CatCourt", "law", "(I)Z"⟩, prog_1_method_11_code, 2, (some FieldType.boolean), 1, 0, 0)
def I_CC_count : pz_I := (⟨"CatCourt", "count", "(I)I"⟩, prog_1_method_12_code, 2, (some FieldType.int), 1, 0, 0)
def I_CC_mood : pz_I := (⟨"CatCourt", "mood", "(IIII)I"⟩, prog_1_method_13_code, 5, (some FieldType.int), 4, 0, 0)
def I_CC_isPair : pz_I := (⟨"CatCourt", "isPair", "(II)Z"⟩, prog_1_method_68_code, 3, (some FieldType.boolean), 2, 0, 0)
def I_CC_isDeed : pz_I := (⟨"CatCourt", "isDeed", "(I)Z"⟩, prog_1_method_71_code, 1, (some FieldType.boolean), 1, 0, 0)
def I_CC_isBit : pz_I := (⟨"CatCourt", "isBit", "(I)Z"⟩, prog_1_method_72_code, 1, (some FieldType.boolean), 1, 0, 0)
def I_CC_thinkOf : pz_I := (⟨"CatCourt", "thinkOf", "(LCatCourt$Court;)V"⟩, prog_1_method_75_code, 2, none, 1, 0, 0)
def I_CC_lawAt : pz_I := (⟨"CatCourt", "lawAt", "(I)LCatCourt$Law;"⟩, prog_1_method_74_code, 2, (some (FieldType.object "CatCourt$Law")), 1, 0, 0)
def I_CC_odds : pz_I := (⟨"CatCourt", "odds", "(IIII)I"⟩, prog_1_method_14_code, 5, (some FieldType.int), 4, 0, 0)
def I_CC_held : pz_I := (⟨"CatCourt", "held", "(III)I"⟩, prog_1_method_15_code, 4, (some FieldType.int), 3, 0, 0)
def I_CC_isCase : pz_I := (⟨"CatCourt", "isCase", "(II)Z"⟩, prog_1_method_70_code, 3, (some FieldType.boolean), 2, 0, 0)
def I_CC_isSet : pz_I := (⟨"CatCourt", "isSet", "(I)Z"⟩, prog_1_method_69_code, 2, (some FieldType.boolean), 1, 0, 0)
def I_CC_right : pz_I := (⟨"CatCourt", "right", "(II)I"⟩, prog_1_method_16_code, 3, (some FieldType.int), 2, 0, 0)
def I_CC_rightNow : pz_I := (⟨"CatCourt", "rightNow", "(II)I"⟩, prog_1_method_41_code, 3, (some FieldType.int), 2, 0, 0)
def I_CC_hundredths : pz_I := (⟨"CatCourt", "hundredths", "(II)I"⟩, prog_1_method_77_code, 2, (some FieldType.int), 2, 0, 0)
def I_CC_mean : pz_I := (⟨"CatCourt", "mean", "(III)I"⟩, prog_1_method_17_code, 4, (some FieldType.int), 3, 0, 0)
def I_CC_likely : pz_I := (⟨"CatCourt", "likely", "(III)I"⟩, prog_1_method_18_code, 4, (some FieldType.int), 3, 0, 0)
def I_CC_quiet : pz_I := (⟨"CatCourt", "quiet", "(III)I"⟩, prog_1_method_19_code, 6, (some FieldType.int), 3, 0, 0)
def I_CC_share : pz_I := (⟨"CatCourt", "share", "(II)I"⟩, prog_1_method_76_code, 2, (some FieldType.int), 2, 0, 0)
def I_CC_surely : pz_I := (⟨"CatCourt", "surely", "(II)I"⟩, prog_1_method_20_code, 5, (some FieldType.int), 2, 0, 0)
def I_CC_noisy : pz_I := (⟨"CatCourt", "noisy", "(II)I"⟩, prog_1_method_21_code, 7, (some FieldType.int), 2, 0, 0)
def I_CC_purrsApart : pz_I := (⟨"CatCourt", "purrsApart", "(II)I"⟩, prog_1_method_22_code, 3, (some FieldType.int), 2, 0, 0)
def I_CC_alike : pz_I := (⟨"CatCourt", "alike", "(IIII)I"⟩, prog_1_method_23_code, 7, (some FieldType.int), 4, 0, 0)
def I_CC_fish : pz_I := (⟨"CatCourt", "fish", "(I)I"⟩, prog_1_method_24_code, 2, (some FieldType.int), 1, 0, 0)
def I_CC_nights : pz_I := (⟨"CatCourt", "nights", "(I)I"⟩, prog_1_method_25_code, 3, (some FieldType.int), 1, 0, 0)
def I_CC_heat : pz_I := (⟨"CatCourt", "heat", "(I)Z"⟩, prog_1_method_26_code, 2, (some FieldType.boolean), 1, 0, 0)
def I_CC_milk : pz_I := (⟨"CatCourt", "milk", "(IZ)Z"⟩, prog_1_method_27_code, 4, (some FieldType.boolean), 2, 0, 0)
def I_CC_retire : pz_I := (⟨"CatCourt", "retire", "(IZ)Z"⟩, prog_1_method_28_code, 4, (some FieldType.boolean), 2, 0, 0)
def I_CC_hear : pz_I := (⟨"CatCourt", "hear", "(IIJ)I"⟩, prog_1_method_29_code, 9, (some FieldType.int), 3, 0, 0)
def I_CC_entry : pz_I := (⟨"CatCourt", "entry", "(III)I"⟩, prog_1_method_79_code, 3, (some FieldType.int), 3, 0, 0)
def I_CC_undo : pz_I := (⟨"CatCourt", "undo", "()I"⟩, prog_1_method_30_code, 1, (some FieldType.int), 0, 0, 0)
def I_CC_image : pz_I := (⟨"CatCourt", "image", "()I"⟩, prog_1_method_31_code, 1, (some FieldType.int), 0, 0, 0)
def I_CC_back : pz_I := (⟨"CatCourt", "back", "()I"⟩, prog_1_method_32_code, 1, (some FieldType.int), 0, 0, 0)
def I_CC_log : pz_I := (⟨"CatCourt", "log", "(II)I"⟩, prog_1_method_33_code, 3, (some FieldType.int), 2, 0, 0)
def I_CC_partOf : pz_I := (⟨"CatCourt", "partOf", "(II)I"⟩, prog_1_method_83_code, 2, (some FieldType.int), 2, 0, 0)
def I_CC_catOf : pz_I := (⟨"CatCourt", "catOf", "(I)I"⟩, prog_1_method_80_code, 1, (some FieldType.int), 1, 0, 0)
def I_CC_accusedOf : pz_I := (⟨"CatCourt", "accusedOf", "(I)I"⟩, prog_1_method_81_code, 1, (some FieldType.int), 1, 0, 0)
def I_CC_deedOf : pz_I := (⟨"CatCourt", "deedOf", "(I)I"⟩, prog_1_method_82_code, 1, (some FieldType.int), 1, 0, 0)
def I_CC_often : pz_I := (⟨"CatCourt", "often", "(II)I"⟩, prog_1_method_34_code, 5, (some FieldType.int), 2, 0, 0)
def I_CC_harsh : pz_I := (⟨"CatCourt", "harsh", "()I"⟩, prog_1_method_35_code, 5, (some FieldType.int), 0, 0, 0)
def I_CC_pointsBroughtBy : pz_I := (⟨"CatCourt", "pointsBroughtBy", "(I)I"⟩, prog_1_method_36_code, 4, (some FieldType.int), 1, 0, 0)
def I_CC_ask : pz_I := (⟨"CatCourt", "ask", "(III)I"⟩, prog_1_method_37_code, 10, (some FieldType.int), 3, 0, 0)
def I_CC_mirrored : pz_I := (⟨"CatCourt", "mirrored", "(I)I"⟩, prog_1_method_78_code, 3, (some FieldType.int), 1, 0, 0)
def I_CC_three : pz_I := (⟨"CatCourt", "three", "(I)I"⟩, prog_1_method_38_code, 9, (some FieldType.int), 1, 0, 0)
def I_CC_isThreeToOne : pz_I := (⟨"CatCourt", "isThreeToOne", "(I)Z"⟩, prog_1_method_39_code, 4, (some FieldType.boolean), 1, 0, 0)
def I_CC_spare : pz_I := (⟨"CatCourt", "spare", "(II)I"⟩, prog_1_method_40_code, 8, (some FieldType.int), 2, 0, 0)
def I_CC_bar : pz_I := (⟨"CatCourt", "bar", "(III)I"⟩, prog_1_method_42_code, 8, (some FieldType.int), 3, 0, 0)
def I_CC_moonlit : pz_I := (⟨"CatCourt", "moonlit", "(III)I"⟩, prog_1_method_43_code, 8, (some FieldType.int), 3, 0, 0)
def I_CC_mercy : pz_I := (⟨"CatCourt", "mercy", "(IIII)I"⟩, prog_1_method_44_code, 10, (some FieldType.int), 4, 0, 0)
def I_CC_weighTreats : pz_I := (⟨"CatCourt", "weighTreats", "(II)V"⟩, prog_1_method_45_code, 6, none, 2, 0, 0)
def I_CC_fishIn : pz_I := (⟨"CatCourt", "fishIn", "(II)I"⟩, prog_1_method_48_code, 4, (some FieldType.int), 2, 0, 0)
def I_CC_treatAt : pz_I := (⟨"CatCourt", "treatAt", "(III)I"⟩, prog_1_method_47_code, 3, (some FieldType.int), 3, 0, 0)
def I_CC_isMerciful : pz_I := (⟨"CatCourt", "isMerciful", "(III)Z"⟩, prog_1_method_46_code, 6, (some FieldType.boolean), 3, 0, 0)
def I_CC_rowOf : pz_I := (⟨"CatCourt", "rowOf", "(II)I"⟩, prog_1_method_49_code, 4, (some FieldType.int), 2, 0, 0)
def I_CC_appeals : pz_I := (⟨"CatCourt", "appeals", "(III)I"⟩, prog_1_method_50_code, 6, (some FieldType.int), 3, 0, 0)
def I_CC_brothers : pz_I := (⟨"CatCourt", "brothers", "(III)I"⟩, prog_1_method_51_code, 6, (some FieldType.int), 3, 0, 0)
def I_CC_heldByGuilt : pz_I := (⟨"CatCourt", "heldByGuilt", "(II)I"⟩, prog_1_method_53_code, 5, (some FieldType.int), 2, 0, 0)
def I_CC_free : pz_I := (⟨"CatCourt", "free", "(I)I"⟩, prog_1_method_52_code, 4, (some FieldType.int), 1, 0, 0)
def I_CC_rests : pz_I := (⟨"CatCourt", "rests", "(II)I"⟩, prog_1_method_54_code, 6, (some FieldType.int), 2, 0, 0)
def I_CC_wash : pz_I := (⟨"CatCourt", "wash", "(I)V"⟩, prog_1_method_55_code, 5, none, 1, 0, 0)
def I_CC_isRest : pz_I := (⟨"CatCourt", "isRest", "(II)Z"⟩, prog_1_method_56_code, 6, (some FieldType.boolean), 2, 0, 0)
def I_CC_washedAt : pz_I := (⟨"CatCourt", "washedAt", "(II)I"⟩, prog_1_method_57_code, 4, (some FieldType.int), 2, 0, 0)
def I_CC_see : pz_I := (⟨"CatCourt", "see", "(III)I"⟩, prog_1_method_58_code, 4, (some FieldType.int), 3, 0, 0)
def I_CC_guess : pz_I := (⟨"CatCourt", "guess", "(I)I"⟩, prog_1_method_59_code, 7, (some FieldType.int), 1, 0, 0)
def I_CC_partsSeen : pz_I := (⟨"CatCourt", "partsSeen", "(II)I"⟩, prog_1_method_60_code, 5, (some FieldType.int), 2, 0, 0)
def I_CC_drank : pz_I := (⟨"CatCourt", "drank", "(I)I"⟩, prog_1_method_61_code, 6, (some FieldType.int), 1, 0, 0)
def I_CC_possibleBy : pz_I := (⟨"CatCourt", "possibleBy", "(I)I"⟩, prog_1_method_64_code, 4, (some FieldType.int), 1, 0, 0)
def I_CC_canBe : pz_I := (⟨"CatCourt", "canBe", "(II)Z"⟩, prog_1_method_65_code, 4, (some FieldType.boolean), 2, 0, 0)
def I_CC_isDrunkBy : pz_I := (⟨"CatCourt", "isDrunkBy", "(III)Z"⟩, prog_1_method_63_code, 6, (some FieldType.boolean), 3, 0, 0)
def I_CC_sure : pz_I := (⟨"CatCourt", "sure", "()I"⟩, prog_1_method_62_code, 5, (some FieldType.int), 0, 0, 0)
def I_CC_fits : pz_I := (⟨"CatCourt", "fits", "(I)I"⟩, prog_1_method_66_code, 6, (some FieldType.int), 1, 0, 0)
def I_CC_fitting : pz_I := (⟨"CatCourt", "fitting", "(I)I"⟩, prog_1_method_67_code, 7, (some FieldType.int), 1, 0, 0)
def I_CC_cat : pz_I := (⟨"CatCourt", "cat", "(II)I"⟩, prog_1_method_9_code, 3, (some FieldType.int), 2, 0, 0)
def I_Mo_init : pz_I := (⟨"CatCourtModel", "<init>", "()V"⟩, prog_13_method_3_code, 1, none, 0, 30, 17015)
def I_Mo_thrown : pz_I := (⟨"CatCourtModel", "thrown", "()I"⟩, prog_13_method_4_code, 1, (some FieldType.int), 0, 0, 0)
def I_Mo_feed : pz_I := (⟨"CatCourtModel", "feed", "(IIIII)I"⟩, prog_13_method_6_code, 9, (some FieldType.int), 5, 0, 0)
def I_Mo_byteOf : pz_I := (⟨"CatCourtModel", "byteOf", "(IIIIII)I"⟩, prog_13_method_5_code, 7, (some FieldType.int), 6, 0, 0)
def I_Mo_end : pz_I := (⟨"CatCourtModel", "end", "(I)Z"⟩, prog_13_method_7_code, 2, (some FieldType.boolean), 1, 0, 0)
def I_Mo_fault : pz_I := (⟨"CatCourtModel", "fault", "(I)I"⟩, prog_13_method_41_code, 2, (some FieldType.int), 1, 0, 0)
def I_Mo_readCourt : pz_I := (⟨"CatCourtModel", "readCourt", "()I"⟩, prog_13_method_40_code, 4, (some FieldType.int), 0, 0, 0)
def I_Mo_usual : pz_I := (⟨"CatCourtModel", "usual", "(II)I"⟩, prog_13_method_38_code, 2, (some FieldType.int), 2, 0, 0)
def I_Mo_look : pz_I := (⟨"CatCourtModel", "look", "()I"⟩, prog_13_method_9_code, 1, (some FieldType.int), 0, 0, 0)
def I_Mo_here : pz_I := (⟨"CatCourtModel", "here", "()I"⟩, prog_13_method_8_code, 1, (some FieldType.int), 0, 0, 0)
def I_Mo_items : pz_I := (⟨"CatCourtModel", "items", "(I[III)V"⟩, prog_13_method_39_code, 7, none, 4, 0, 0)
def I_Mo_itemOf : pz_I := (⟨"CatCourtModel", "itemOf", "(II)I"⟩, prog_13_method_36_code, 2, (some FieldType.int), 2, 0, 0)
def I_Mo_deedOf : pz_I := (⟨"CatCourtModel", "deedOf", "(I)I"⟩, prog_13_method_35_code, 1, (some FieldType.int), 1, 0, 0)
def I_Mo_has : pz_I := (⟨"CatCourtModel", "has", "(II)Z"⟩, prog_13_method_2_code, 2, (some FieldType.boolean), 2, 0, 0)
def I_Mo_highest : pz_I := (⟨"CatCourtModel", "highest", "(II)I"⟩, prog_13_method_37_code, 2, (some FieldType.int), 2, 0, 0)
def I_Mo_number : pz_I := (⟨"CatCourtModel", "number", "(I)I"⟩, prog_13_method_34_code, 3, (some FieldType.int), 1, 0, 0)
def I_Mo_isDigit : pz_I := (⟨"CatCourtModel", "isDigit", "(I)Z"⟩, prog_13_method_11_code, 1, (some FieldType.boolean), 1, 0, 0)
def I_Mo_bad : pz_I := (⟨"CatCourtModel", "bad", "()V"⟩, prog_13_method_10_code, 1, none, 0, 0, 0)
def I_Mo_readLaw : pz_I := (⟨"CatCourtModel", "readLaw", "(I)I"⟩, prog_13_method_29_code, 2, (some FieldType.int), 1, 0, 0)
def I_Mo_open : pz_I := (⟨"CatCourtModel", "open", "(I)V"⟩, prog_13_method_27_code, 2, none, 1, 0, 0)
def I_Mo_clause : pz_I := (⟨"CatCourtModel", "clause", "()V"⟩, prog_13_method_26_code, 3, none, 0, 0, 0)
def I_Mo_condition : pz_I := (⟨"CatCourtModel", "condition", "()V"⟩, prog_13_method_25_code, 1, none, 0, 0, 0)
def I_Mo_unit : pz_I := (⟨"CatCourtModel", "unit", "()V"⟩, prog_13_method_22_code, 2, none, 0, 0, 0)
def I_Mo_opens : pz_I := (⟨"CatCourtModel", "opens", "()V"⟩, prog_13_method_14_code, 1, none, 0, 0, 0)
def I_Mo_put : pz_I := (⟨"CatCourtModel", "put", "(II)V"⟩, prog_13_method_12_code, 3, none, 2, 0, 0)
def I_Mo_closes : pz_I := (⟨"CatCourtModel", "closes", "(I)V"⟩, prog_13_method_15_code, 2, none, 1, 0, 0)
def I_Mo_sum : pz_I := (⟨"CatCourtModel", "sum", "()V"⟩, prog_13_method_19_code, 2, none, 0, 0, 0)
def I_Mo_term : pz_I := (⟨"CatCourtModel", "term", "()V"⟩, prog_13_method_18_code, 2, none, 0, 0, 0)
def I_Mo_atom : pz_I := (⟨"CatCourtModel", "atom", "()V"⟩, prog_13_method_17_code, 2, none, 0, 0, 0)
def I_Mo_plainNumber : pz_I := (⟨"CatCourtModel", "plainNumber", "()I"⟩, prog_13_method_16_code, 3, (some FieldType.int), 0, 0, 0)
def I_Mo_letterOf : pz_I := (⟨"CatCourtModel", "letterOf", "(I)I"⟩, prog_13_method_13_code, 1, (some FieldType.int), 1, 0, 0)
def I_Mo_compare : pz_I := (⟨"CatCourtModel", "compare", "()V"⟩, prog_13_method_21_code, 2, none, 0, 0, 0)
def I_Mo_isSign : pz_I := (⟨"CatCourtModel", "isSign", "(I)Z"⟩, prog_13_method_20_code, 1, (some FieldType.boolean), 1, 0, 0)
def I_Mo_goOnAnd : pz_I := (⟨"CatCourtModel", "goOnAnd", "()V"⟩, prog_13_method_23_code, 1, none, 0, 0, 0)
def I_Mo_goOnOr : pz_I := (⟨"CatCourtModel", "goOnOr", "()V"⟩, prog_13_method_24_code, 1, none, 0, 0, 0)
def I_Mo_atEnd : pz_I := (⟨"CatCourtModel", "atEnd", "()I"⟩, prog_13_method_28_code, 1, (some FieldType.int), 0, 0, 0)
def I_Mo_text : pz_I := (⟨"CatCourtModel", "text", "(I)I"⟩, prog_13_method_43_code, 2, (some FieldType.int), 1, 0, 0)
def I_Mo_takeCourt : pz_I := (⟨"CatCourtModel", "takeCourt", "()I"⟩, prog_13_method_42_code, 3, (some FieldType.int), 0, 0, 0)
def I_Mo_bench : pz_I := (⟨"CatCourtModel", "bench", "(I)I"⟩, prog_13_method_48_code, 2, (some FieldType.int), 1, 0, 0)
def I_Mo_in : pz_I := (⟨"CatCourtModel", "in", "(III)Z"⟩, prog_13_method_1_code, 3, (some FieldType.boolean), 3, 0, 0)
def I_Mo_cat : pz_I := (⟨"CatCourtModel", "cat", "(II)I"⟩, prog_13_method_49_code, 3, (some FieldType.int), 2, 0, 0)
def I_Mo_isCat : pz_I := (⟨"CatCourtModel", "isCat", "(I)Z"⟩, prog_13_method_44_code, 2, (some FieldType.boolean), 1, 0, 0)
def I_Mo_accused : pz_I := (⟨"CatCourtModel", "accused", "(II)I"⟩, prog_13_method_50_code, 3, (some FieldType.int), 2, 0, 0)
def I_Mo_isAccused : pz_I := (⟨"CatCourtModel", "isAccused", "(I)Z"⟩, prog_13_method_45_code, 2, (some FieldType.boolean), 1, 0, 0)
def I_Mo_law : pz_I := (⟨"CatCourtModel", "law", "(I)Z"⟩, prog_13_method_51_code, 2, (some FieldType.boolean), 1, 0, 0)
def I_Mo_mood : pz_I := (⟨"CatCourtModel", "mood", "(IIII)I"⟩, prog_13_method_56_code, 5, (some FieldType.int), 4, 0, 0)
def I_Mo_isDeed : pz_I := (⟨"CatCourtModel", "isDeed", "(I)Z"⟩, prog_13_method_46_code, 1, (some FieldType.boolean), 1, 0, 0)
def I_Mo_isSide : pz_I := (⟨"CatCourtModel", "isSide", "(I)Z"⟩, prog_13_method_55_code, 1, (some FieldType.boolean), 1, 0, 0)
def I_Mo_moodOf : pz_I := (⟨"CatCourtModel", "moodOf", "(IIII)I"⟩, prog_13_method_53_code, 6, (some FieldType.int), 4, 0, 0)
def I_Mo_plainMood : pz_I := (⟨"CatCourtModel", "plainMood", "(IIII)I"⟩, prog_13_method_52_code, 6, (some FieldType.int), 4, 0, 0)
def I_Mo_worthOf : pz_I := (⟨"CatCourtModel", "worthOf", "(I)I"⟩, prog_13_method_33_code, 3, (some FieldType.int), 1, 0, 0)
def I_Mo_workOut : pz_I := (⟨"CatCourtModel", "workOut", "(III)I"⟩, prog_13_method_32_code, 6, (some FieldType.int), 3, 0, 0)
def I_Mo_worked : pz_I := (⟨"CatCourtModel", "worked", "(IJJ)I"⟩, prog_13_method_31_code, 5, (some FieldType.int), 3, 0, 0)
def I_Mo_bounded : pz_I := (⟨"CatCourtModel", "bounded", "(J)I"⟩, prog_13_method_30_code, 2, (some FieldType.int), 1, 0, 0)
def I_Mo_odds : pz_I := (⟨"CatCourtModel", "odds", "(IIII)I"⟩, prog_13_method_58_code, 5, (some FieldType.int), 4, 0, 0)
def I_Mo_oddsOf : pz_I := (⟨"CatCourtModel", "oddsOf", "(IIII)I"⟩, prog_13_method_57_code, 5, (some FieldType.int), 4, 0, 0)
def I_Mo_layOdds : pz_I := (⟨"CatCourtModel", "layOdds", "(III)V"⟩, prog_13_method_54_code, 9, none, 3, 0, 0)
def I_Mo_held : pz_I := (⟨"CatCourtModel", "held", "(III)I"⟩, prog_13_method_64_code, 4, (some FieldType.int), 3, 0, 0)
def I_Mo_isSet : pz_I := (⟨"CatCourtModel", "isSet", "(I)Z"⟩, prog_13_method_63_code, 3, (some FieldType.boolean), 1, 0, 0)
def I_Mo_isSitting : pz_I := (⟨"CatCourtModel", "isSitting", "(I)Z"⟩, prog_13_method_47_code, 2, (some FieldType.boolean), 1, 0, 0)
def I_Mo_heldBy : pz_I := (⟨"CatCourtModel", "heldBy", "(III)I"⟩, prog_13_method_62_code, 4, (some FieldType.int), 3, 0, 0)
def I_Mo_layParts : pz_I := (⟨"CatCourtModel", "layParts", "(III)V"⟩, prog_13_method_59_code, 6, none, 3, 0, 0)
def I_Mo_spread : pz_I := (⟨"CatCourtModel", "spread", "(I)V"⟩, prog_13_method_60_code, 7, none, 1, 0, 0)
def I_Mo_partsFrom : pz_I := (⟨"CatCourtModel", "partsFrom", "(I)I"⟩, prog_13_method_61_code, 5, (some FieldType.int), 1, 0, 0)
def I_Mo_right : pz_I := (⟨"CatCourtModel", "right", "(II)I"⟩, prog_13_method_67_code, 3, (some FieldType.int), 2, 0, 0)
def I_Mo_rightBy : pz_I := (⟨"CatCourtModel", "rightBy", "(II)I"⟩, prog_13_method_66_code, 3, (some FieldType.int), 2, 0, 0)
def I_Mo_rightOf : pz_I := (⟨"CatCourtModel", "rightOf", "(IJJ)I"⟩, prog_13_method_65_code, 6, (some FieldType.int), 3, 0, 0)
def I_Mo_fish : pz_I := (⟨"CatCourtModel", "fish", "(I)I"⟩, prog_13_method_69_code, 2, (some FieldType.int), 1, 0, 0)
def I_Mo_keep : pz_I := (⟨"CatCourtModel", "keep", "()V"⟩, prog_13_method_68_code, 2, none, 0, 0, 0)
def I_Mo_nights : pz_I := (⟨"CatCourtModel", "nights", "(I)I"⟩, prog_13_method_70_code, 3, (some FieldType.int), 1, 0, 0)
def I_Mo_heat : pz_I := (⟨"CatCourtModel", "heat", "(I)Z"⟩, prog_13_method_72_code, 2, (some FieldType.boolean), 1, 0, 0)
def I_Mo_told : pz_I := (⟨"CatCourtModel", "told", "(II)Z"⟩, prog_13_method_71_code, 3, (some FieldType.boolean), 2, 0, 0)
def I_Mo_milk : pz_I := (⟨"CatCourtModel", "milk", "(IZ)Z"⟩, prog_13_method_73_code, 3, (some FieldType.boolean), 2, 0, 0)
def I_Mo_retire : pz_I := (⟨"CatCourtModel", "retire", "(IZ)Z"⟩, prog_13_method_74_code, 3, (some FieldType.boolean), 2, 0, 0)
def I_Mo_hear : pz_I := (⟨"CatCourtModel", "hear", "(IIJ)I"⟩, prog_13_method_78_code, 8, (some FieldType.int), 3, 0, 0)
def I_Mo_draw : pz_I := (⟨"CatCourtModel", "draw", "(I)I"⟩, prog_13_method_75_code, 2, (some FieldType.int), 1, 0, 0)
def I_Mo_drawDeed : pz_I := (⟨"CatCourtModel", "drawDeed", "()I"⟩, prog_13_method_76_code, 5, (some FieldType.int), 0, 0, 0)
def I_Mo_note : pz_I := (⟨"CatCourtModel", "note", "(III)V"⟩, prog_13_method_77_code, 5, none, 3, 0, 0)
def I_Mo_undo : pz_I := (⟨"CatCourtModel", "undo", "()I"⟩, prog_13_method_79_code, 2, (some FieldType.int), 0, 0, 0)
def I_Mo_log : pz_I := (⟨"CatCourtModel", "log", "(II)I"⟩, prog_13_method_81_code, 3, (some FieldType.int), 2, 0, 0)
def I_Mo_logAt : pz_I := (⟨"CatCourtModel", "logAt", "(II)I"⟩, prog_13_method_80_code, 3, (some FieldType.int), 2, 0, 0)
def I_Mo_ask : pz_I := (⟨"CatCourtModel", "ask", "(III)I"⟩, prog_13_method_82_code, 8, (some FieldType.int), 3, 0, 0)
def I_Mo_three : pz_I := (⟨"CatCourtModel", "three", "(I)I"⟩, prog_13_method_83_code, 6, (some FieldType.int), 1, 0, 0)
def I_Mo_spare : pz_I := (⟨"CatCourtModel", "spare", "(II)I"⟩, prog_13_method_85_code, 8, (some FieldType.int), 2, 0, 0)
def I_Mo_sitting : pz_I := (⟨"CatCourtModel", "sitting", "()I"⟩, prog_13_method_84_code, 3, (some FieldType.int), 0, 0, 0)
def I_Mo_mercy : pz_I := (⟨"CatCourtModel", "mercy", "(IIII)I"⟩, prog_13_method_87_code, 9, (some FieldType.int), 4, 0, 0)
def I_Mo_putFish : pz_I := (⟨"CatCourtModel", "putFish", "(III)V"⟩, prog_13_method_86_code, 7, none, 3, 0, 0)
def I_Mo_appeals : pz_I := (⟨"CatCourtModel", "appeals", "(III)I"⟩, prog_13_method_88_code, 8, (some FieldType.int), 3, 0, 0)
def I_Mo_alike : pz_I := (⟨"CatCourtModel", "alike", "(IIII)I"⟩, prog_13_method_89_code, 8, (some FieldType.int), 4, 0, 0)
def I_Mo_rests : pz_I := (⟨"CatCourtModel", "rests", "(II)I"⟩, prog_13_method_92_code, 6, (some FieldType.int), 2, 0, 0)
def I_Mo_isRest : pz_I := (⟨"CatCourtModel", "isRest", "(III)Z"⟩, prog_13_method_91_code, 7, (some FieldType.boolean), 3, 0, 0)
def I_Mo_washed : pz_I := (⟨"CatCourtModel", "washed", "(III)I"⟩, prog_13_method_90_code, 6, (some FieldType.int), 3, 0, 0)
def I_Mo_surely : pz_I := (⟨"CatCourtModel", "surely", "(II)I"⟩, prog_13_method_93_code, 5, (some FieldType.int), 2, 0, 0)
def I_Mo_noisy : pz_I := (⟨"CatCourtModel", "noisy", "(II)I"⟩, prog_13_method_94_code, 7, (some FieldType.int), 2, 0, 0)
def I_Mo_mean : pz_I := (⟨"CatCourtModel", "mean", "(III)I"⟩, prog_13_method_95_code, 7, (some FieldType.int), 3, 0, 0)
def I_Mo_likely : pz_I := (⟨"CatCourtModel", "likely", "(III)I"⟩, prog_13_method_97_code, 4, (some FieldType.int), 3, 0, 0)
def I_Mo_likelyOf : pz_I := (⟨"CatCourtModel", "likelyOf", "(III)I"⟩, prog_13_method_96_code, 6, (some FieldType.int), 3, 0, 0)
def I_Mo_quiet : pz_I := (⟨"CatCourtModel", "quiet", "(III)I"⟩, prog_13_method_98_code, 7, (some FieldType.int), 3, 0, 0)
def I_Mo_bar : pz_I := (⟨"CatCourtModel", "bar", "(III)I"⟩, prog_13_method_99_code, 10, (some FieldType.int), 3, 0, 0)
def I_Mo_moonlit : pz_I := (⟨"CatCourtModel", "moonlit", "(III)I"⟩, prog_13_method_100_code, 9, (some FieldType.int), 3, 0, 0)
def I_Mo_brothers : pz_I := (⟨"CatCourtModel", "brothers", "(III)I"⟩, prog_13_method_102_code, 8, (some FieldType.int), 3, 0, 0)
def I_Mo_heldAnyway : pz_I := (⟨"CatCourtModel", "heldAnyway", "(II)J"⟩, prog_13_method_101_code, 3, (some FieldType.long), 2, 0, 0)
def I_Mo_see : pz_I := (⟨"CatCourtModel", "see", "(III)I"⟩, prog_13_method_103_code, 4, (some FieldType.int), 3, 0, 0)
def I_Mo_guess : pz_I := (⟨"CatCourtModel", "guess", "(I)I"⟩, prog_13_method_105_code, 6, (some FieldType.int), 1, 0, 0)
def I_Mo_seenParts : pz_I := (⟨"CatCourtModel", "seenParts", "(II)J"⟩, prog_13_method_104_code, 6, (some FieldType.long), 2, 0, 0)
def I_Mo_drank : pz_I := (⟨"CatCourtModel", "drank", "(I)I"⟩, prog_13_method_108_code, 4, (some FieldType.int), 1, 0, 0)
def I_Mo_couldDrink : pz_I := (⟨"CatCourtModel", "couldDrink", "(I)Z"⟩, prog_13_method_107_code, 4, (some FieldType.boolean), 1, 0, 0)
def I_Mo_couldBe : pz_I := (⟨"CatCourtModel", "couldBe", "(II)Z"⟩, prog_13_method_106_code, 4, (some FieldType.boolean), 2, 0, 0)
def I_Mo_sure : pz_I := (⟨"CatCourtModel", "sure", "()I"⟩, prog_13_method_109_code, 3, (some FieldType.int), 0, 0, 0)
def I_Mo_fits : pz_I := (⟨"CatCourtModel", "fits", "(I)I"⟩, prog_13_method_111_code, 7, (some FieldType.int), 1, 0, 0)
def I_Mo_fitting : pz_I := (⟨"CatCourtModel", "fitting", "()I"⟩, prog_13_method_110_code, 3, (some FieldType.int), 0, 0, 0)
def I_Mo_often : pz_I := (⟨"CatCourtModel", "often", "(II)I"⟩, prog_13_method_112_code, 5, (some FieldType.int), 2, 0, 0)
def I_Mo_harsh : pz_I := (⟨"CatCourtModel", "harsh", "()I"⟩, prog_13_method_113_code, 6, (some FieldType.int), 0, 0, 0)
def I_Mo_free : pz_I := (⟨"CatCourtModel", "free", "(I)I"⟩, prog_13_method_114_code, 5, (some FieldType.int), 1, 0, 0)
def I_Mo_image : pz_I := (⟨"CatCourtModel", "image", "()I"⟩, prog_13_method_115_code, 2, (some FieldType.int), 0, 0, 0)
def I_Mo_back : pz_I := (⟨"CatCourtModel", "back", "()I"⟩, prog_13_method_116_code, 2, (some FieldType.int), 0, 0, 0)
def I_Mo_count : pz_I := (⟨"CatCourtModel", "count", "(I)I"⟩, prog_13_method_117_code, 2, (some FieldType.int), 1, 0, 0)
def I_Jd_bitCount : pz_I := (⟨"java/lang/Integer", "bitCount", "(I)I"⟩, prog_16_method_49_code, 1, (some FieldType.int), 1, 0, 0)
def pz_mis : List pz_I := [I_Co_init, I_Co_clear, I_Co_setBench, I_Co_put, I_Co_cats, I_Co_setCat, I_Co_people, I_Co_setAccused, I_Co_addCat, I_Co_addAccused, I_Co_copy, I_Co_ofBench, I_Co_hasAccused, I_Co_ofAccused, I_Co_serving, I_Co_ofCat, I_Co_logged, I_Co_hasCat, I_Co_write, I_Co_entryAt, I_Ct_init, I_Ct_read, I_Ct_clause, I_Ct_items, I_Ct_store, I_Ct_ends, I_Ct_draft, I_Di_init, I_Di_begin, I_Di_draw, I_La_init, I_La_learn, I_La_worth, I_La_join, I_Lt_init, I_Lt_read, I_Lt_clause, I_Lt_sum, I_Lt_term, I_Lt_atom, I_Lt_emit, I_Lt_isEither, I_Lt_isComparison, I_Lt_condition, I_Lt_truth, I_Lt_unit, I_Lt_nested, I_Lt_conditionalSum, I_Lt_giveTo, I_Mi_init, I_Mi_use, I_Mi_moodOf, I_Mi_tell, I_Mi_habit, I_Mi_oddsOf, I_Mi_reckon, I_Mi_courtInUse, I_Mi_likeliest, I_Pa_init, I_Pa_forget, I_Pa_size, I_Pa_keep, I_Pa_giveBack, I_Sc_init, I_Sc_weigh, I_Sc_begin, I_Sc_side, I_Sc_put, I_Sc_heldBy, I_Sc_rightBy, I_Sc_meanBy, I_Sc_deedBy, I_Sp_init, I_Sp_begin, I_Sp_put, I_Sp_from, I_Sp_build, I_Sp_extend, I_Sp_timesPoints, I_Sp_oddsAt, I_Ta_init, I_Ta_bytesOf, I_Ta_size, I_Ta_add, I_Ta_cutTo, I_Ta_rewind, I_Ta_sign, I_Ta_step, I_Ta_number, I_Ta_digitHere, I_Ta_fail, I_Ta_takes, I_Ta_wants, I_Ta_wrongAt, I_CC_init, I_CC_feed, I_CC_end, I_CC_fault, I_CC_placeOf, I_CC_isIn, I_CC_text, I_CC_openCourt, I_CC_tellLaw, I_CC_bench, I_CC_accused, I_CC_law, I_CC_count, I_CC_mood, I_CC_isPair, I_CC_isDeed, I_CC_isBit, I_CC_thinkOf, I_CC_lawAt, I_CC_odds, I_CC_held, I_CC_isCase, I_CC_isSet, I_CC_right, I_CC_rightNow, I_CC_hundredths, I_CC_mean, I_CC_likely, I_CC_quiet, I_CC_share, I_CC_surely, I_CC_noisy, I_CC_purrsApart, I_CC_alike, I_CC_fish, I_CC_nights, I_CC_heat, I_CC_milk, I_CC_retire, I_CC_hear, I_CC_entry, I_CC_undo, I_CC_image, I_CC_back, I_CC_log, I_CC_partOf, I_CC_catOf, I_CC_accusedOf, I_CC_deedOf, I_CC_often, I_CC_harsh, I_CC_pointsBroughtBy, I_CC_ask, I_CC_mirrored, I_CC_three, I_CC_isThreeToOne, I_CC_spare, I_CC_bar, I_CC_moonlit, I_CC_mercy, I_CC_weighTreats, I_CC_fishIn, I_CC_treatAt, I_CC_isMerciful, I_CC_rowOf, I_CC_appeals, I_CC_brothers, I_CC_heldByGuilt, I_CC_free, I_CC_rests, I_CC_wash, I_CC_isRest, I_CC_washedAt, I_CC_see, I_CC_guess, I_CC_partsSeen, I_CC_drank, I_CC_possibleBy, I_CC_canBe, I_CC_isDrunkBy, I_CC_sure, I_CC_fits, I_CC_fitting, I_CC_cat, I_Mo_init, I_Mo_thrown, I_Mo_feed, I_Mo_byteOf, I_Mo_end, I_Mo_fault, I_Mo_readCourt, I_Mo_usual, I_Mo_look, I_Mo_here, I_Mo_items, I_Mo_itemOf, I_Mo_deedOf, I_Mo_has, I_Mo_highest, I_Mo_number, I_Mo_isDigit, I_Mo_bad, I_Mo_readLaw, I_Mo_open, I_Mo_clause, I_Mo_condition, I_Mo_unit, I_Mo_opens, I_Mo_put, I_Mo_closes, I_Mo_sum, I_Mo_term, I_Mo_atom, I_Mo_plainNumber, I_Mo_letterOf, I_Mo_compare, I_Mo_isSign, I_Mo_goOnAnd, I_Mo_goOnOr, I_Mo_atEnd, I_Mo_text, I_Mo_takeCourt, I_Mo_bench, I_Mo_in, I_Mo_cat, I_Mo_isCat, I_Mo_accused, I_Mo_isAccused, I_Mo_law, I_Mo_mood, I_Mo_isDeed, I_Mo_isSide, I_Mo_moodOf, I_Mo_plainMood, I_Mo_worthOf, I_Mo_workOut, I_Mo_worked, I_Mo_bounded, I_Mo_odds, I_Mo_oddsOf, I_Mo_layOdds, I_Mo_held, I_Mo_isSet, I_Mo_isSitting, I_Mo_heldBy, I_Mo_layParts, I_Mo_spread, I_Mo_partsFrom, I_Mo_right, I_Mo_rightBy, I_Mo_rightOf, I_Mo_fish, I_Mo_keep, I_Mo_nights, I_Mo_heat, I_Mo_told, I_Mo_milk, I_Mo_retire, I_Mo_hear, I_Mo_draw, I_Mo_drawDeed, I_Mo_note, I_Mo_undo, I_Mo_log, I_Mo_logAt, I_Mo_ask, I_Mo_three, I_Mo_spare, I_Mo_sitting, I_Mo_mercy, I_Mo_putFish, I_Mo_appeals, I_Mo_alike, I_Mo_rests, I_Mo_isRest, I_Mo_washed, I_Mo_surely, I_Mo_noisy, I_Mo_mean, I_Mo_likely, I_Mo_likelyOf, I_Mo_quiet, I_Mo_bar, I_Mo_moonlit, I_Mo_brothers, I_Mo_heldAnyway, I_Mo_see, I_Mo_guess, I_Mo_seenParts, I_Mo_drank, I_Mo_couldDrink, I_Mo_couldBe, I_Mo_sure, I_Mo_fits, I_Mo_fitting, I_Mo_often, I_Mo_harsh, I_Mo_free, I_Mo_image, I_Mo_back, I_Mo_count, I_Jd_bitCount]
def pz_mi (y : Nat) : Option pz_I := pz_mis[y]?
/-- CatCourtLaw.cat: with CatCourt.cat's answer stored, or (if there is none of it: it throws) 1 and a dead cell -/
def pz_lc (w : pz_A) (p0 p1 o : Int) (X : pz_X) : pz_A := if (0 ≤ p0 ∧ p0 < X.2 10 141) ∧ 0 ≤ p1 ∧ p1 < 7 then (match w with
    | some (some (0, v), Y) => match pz_sh Y o with
      | some (101, 1) => if o < 4096 then some (some (0, 0), (Y.1, pz_up Y.2 o.toNat 0 v)) else none
      | _ => none
    | _ => none)
  else some (some (0, 1), ((X.1.1, X.1.2.1, X.1.2.2.1, X.1.2.2.2.1, X.1.2.2.2.2 + 1), X.2))
noncomputable def pz_cal : Nat → Nat → List pz_V → pz_X → pz_A
  | 0, _, _, _ => none
  | d + 1, y, as, X => match pz_bls[y]?, pz_mis[y]? with
      | some bl, some I => if (pz_en as).length ≤ I.2.2.1 then pz_p bl (pz_cal d) I.2.2.2.2.2.1 I.2.2.2.2.2.2 0 [] (pz_el I.2.2.1 as) [] X else none
      | _, _ => if y = 297 then (match as with
          | [(2, x), (0, p0), (0, p1), (2, o)] => if x = 0 then pz_lc (pz_cal d 177 [(2, x), (0, p0), (0, p1)] X) p0 p1 o X else none
          | _ => none) else none
theorem k_Co_init {d : Nat} {v0 : Int} {X : pz_X} : pz_cal (d + 1) 0 [(2, v0)] X = pz_p bl_Co_init (pz_cal d) 1 144 0 [] [(2, v0)] [] X := rfl
theorem k_Co_clear {d : Nat} {v0 : Int} {X : pz_X} : pz_cal (d + 1) 1 [(2, v0)] X = pz_p bl_Co_clear (pz_cal d) 0 0 0 [] [(2, v0), (9, 0)] [] X := rfl
theorem k_Co_setBench {d : Nat} {v0 v1 v2 : Int} {X : pz_X} : pz_cal (d + 1) 2 [(2, v0), (0, v1), (0, v2)] X = pz_p bl_Co_setBench (pz_cal d) 0 0 0 [] [(2, v0), (0, v1), (0, v2)] [] X := rfl
theorem k_Co_put {d : Nat} {v0 v1 v2 : Int} {X : pz_X} : pz_cal (d + 1) 3 [(2, v0), (0, v1), (0, v2)] X = pz_p bl_Co_put (pz_cal d) 0 0 0 [] [(2, v0), (0, v1), (0, v2)] [] X := rfl
theorem k_Co_cats {d : Nat} {v0 : Int} {X : pz_X} : pz_cal (d + 1) 4 [(2, v0)] X = pz_p bl_Co_cats (pz_cal d) 0 0 0 [] [(2, v0)] [] X := rfl
theorem k_Co_setCat {d : Nat} {v0 v1 v2 v3 : Int} {X : pz_X} : pz_cal (d + 1) 5 [(2, v0), (0, v1), (0, v2), (0, v3)] X = pz_p bl_Co_setCat (pz_cal d) 0 0 0 [] [(2, v0), (0, v1), (0, v2), (0, v3)] [] X := rfl
theorem k_Co_people {d : Nat} {v0 : Int} {X : pz_X} : pz_cal (d + 1) 6 [(2, v0)] X = pz_p bl_Co_people (pz_cal d) 0 0 0 [] [(2, v0)] [] X := rfl
theorem k_Co_setAccused {d : Nat} {v0 v1 v2 v3 : Int} {X : pz_X} : pz_cal (d + 1) 7 [(2, v0), (0, v1), (0, v2), (0, v3)] X = pz_p bl_Co_setAccused (pz_cal d) 0 0 0 [] [(2, v0), (0, v1), (0, v2), (0, v3)] [] X := rfl
theorem k_Co_addCat {d : Nat} {v0 : Int} {X : pz_X} : pz_cal (d + 1) 8 [(2, v0)] X = pz_p bl_Co_addCat (pz_cal d) 0 0 0 [] [(2, v0)] [] X := rfl
theorem k_Co_addAccused {d : Nat} {v0 : Int} {X : pz_X} : pz_cal (d + 1) 9 [(2, v0)] X = pz_p bl_Co_addAccused (pz_cal d) 0 0 0 [] [(2, v0)] [] X := rfl
theorem k_Co_copy {d : Nat} {v0 v1 : Int} {X : pz_X} : pz_cal (d + 1) 10 [(2, v0), (2, v1)] X = pz_p bl_Co_copy (pz_cal d) 0 0 0 [] [(2, v0), (2, v1)] [] X := rfl
theorem k_Co_ofBench {d : Nat} {v0 v1 : Int} {X : pz_X} : pz_cal (d + 1) 11 [(2, v0), (0, v1)] X = pz_p bl_Co_ofBench (pz_cal d) 0 0 0 [] [(2, v0), (0, v1)] [] X := rfl
theorem k_Co_hasAccused {d : Nat} {v0 v1 : Int} {X : pz_X} : pz_cal (d + 1) 12 [(2, v0), (0, v1)] X = pz_p bl_Co_hasAccused (pz_cal d) 0 0 0 [] [(2, v0), (0, v1)] [] X := rfl
theorem k_Co_ofAccused {d : Nat} {v0 v1 v2 : Int} {X : pz_X} : pz_cal (d + 1) 13 [(2, v0), (0, v1), (0, v2)] X = pz_p bl_Co_ofAccused (pz_cal d) 0 0 0 [] [(2, v0), (0, v1), (0, v2), (9, 0)] [] X := rfl
theorem k_Co_serving {d : Nat} {v0 : Int} {X : pz_X} : pz_cal (d + 1) 14 [(2, v0)] X = pz_p bl_Co_serving (pz_cal d) 0 0 0 [] [(2, v0), (9, 0), (9, 0)] [] X := rfl
theorem k_Co_ofCat {d : Nat} {v0 v1 v2 : Int} {X : pz_X} : pz_cal (d + 1) 15 [(2, v0), (0, v1), (0, v2)] X = pz_p bl_Co_ofCat (pz_cal d) 0 0 0 [] [(2, v0), (0, v1), (0, v2), (9, 0)] [] X := rfl
theorem k_Co_logged {d : Nat} {v0 : Int} {X : pz_X} : pz_cal (d + 1) 16 [(2, v0)] X = pz_p bl_Co_logged (pz_cal d) 0 0 0 [] [(2, v0)] [] X := rfl
theorem k_Co_hasCat {d : Nat} {v0 v1 : Int} {X : pz_X} : pz_cal (d + 1) 17 [(2, v0), (0, v1)] X = pz_p bl_Co_hasCat (pz_cal d) 0 0 0 [] [(2, v0), (0, v1)] [] X := rfl
theorem k_Co_write {d : Nat} {v0 v1 : Int} {X : pz_X} : pz_cal (d + 1) 18 [(2, v0), (0, v1)] X = pz_p bl_Co_write (pz_cal d) 0 0 0 [] [(2, v0), (0, v1), (9, 0), (9, 0)] [] X := rfl
theorem k_Co_entryAt {d : Nat} {v0 v1 : Int} {X : pz_X} : pz_cal (d + 1) 19 [(2, v0), (0, v1)] X = pz_p bl_Co_entryAt (pz_cal d) 0 0 0 [] [(2, v0), (0, v1)] [] X := rfl
theorem k_Ct_init {d : Nat} {v0 v1 : Int} {X : pz_X} : pz_cal (d + 1) 20 [(2, v0), (2, v1)] X = pz_p bl_Ct_init (pz_cal d) 2 145 0 [] [(2, v0), (2, v1)] [] X := rfl
theorem k_Ct_read {d : Nat} {v0 : Int} {X : pz_X} : pz_cal (d + 1) 21 [(2, v0)] X = pz_p bl_Ct_read (pz_cal d) 0 0 0 [] [(2, v0), (9, 0), (9, 0)] [] X := rfl
theorem k_Ct_clause {d : Nat} {v0 : Int} {X : pz_X} : pz_cal (d + 1) 22 [(2, v0)] X = pz_p bl_Ct_clause (pz_cal d) 0 0 0 [] [(2, v0), (9, 0), (9, 0)] [] X := rfl
theorem k_Ct_items {d : Nat} {v0 v1 v2 v3 : Int} {X : pz_X} : pz_cal (d + 1) 23 [(2, v0), (0, v1), (2, v2), (2, v3)] X = pz_p bl_Ct_items (pz_cal d) 0 0 0 [] [(2, v0), (0, v1), (2, v2), (2, v3), (9, 0), (9, 0), (9, 0), (9, 0)] [] X := rfl
theorem k_Ct_store {d : Nat} {v0 v1 v2 v3 : Int} {X : pz_X} : pz_cal (d + 1) 24 [(2, v0), (0, v1), (0, v2), (0, v3)] X = pz_p bl_Ct_store (pz_cal d) 0 0 0 [] [(2, v0), (0, v1), (0, v2), (0, v3)] [] X := rfl
theorem k_Ct_ends {d : Nat} {v0 : Int} {X : pz_X} : pz_cal (d + 1) 25 [(2, v0)] X = pz_p bl_Ct_ends (pz_cal d) 0 0 0 [] [(2, v0)] [] X := rfl
theorem k_Ct_draft {d : Nat} {v0 : Int} {X : pz_X} : pz_cal (d + 1) 26 [(2, v0)] X = pz_p bl_Ct_draft (pz_cal d) 0 0 0 [] [(2, v0)] [] X := rfl
theorem k_Di_init {d : Nat} {v0 : Int} {X : pz_X} : pz_cal (d + 1) 27 [(2, v0)] X = pz_p bl_Di_init (pz_cal d) 0 0 0 [] [(2, v0)] [] X := rfl
theorem k_Di_begin {d : Nat} {v0 v1 : Int} {X : pz_X} : pz_cal (d + 1) 28 [(2, v0), (1, v1)] X = pz_p bl_Di_begin (pz_cal d) 0 0 0 [] [(2, v0), (1, v1), (9, 0)] [] X := rfl
theorem k_Di_draw {d : Nat} {v0 v1 : Int} {X : pz_X} : pz_cal (d + 1) 29 [(2, v0), (0, v1)] X = pz_p bl_Di_draw (pz_cal d) 0 0 0 [] [(2, v0), (0, v1)] [] X := rfl
theorem k_La_init {d : Nat} {v0 : Int} {X : pz_X} : pz_cal (d + 1) 30 [(2, v0)] X = pz_p bl_La_init (pz_cal d) 2 280 0 [] [(2, v0)] [] X := rfl
theorem k_La_learn {d : Nat} {v0 v1 v2 : Int} {X : pz_X} : pz_cal (d + 1) 31 [(2, v0), (2, v1), (0, v2)] X = pz_p bl_La_learn (pz_cal d) 0 0 0 [] [(2, v0), (2, v1), (0, v2), (9, 0)] [] X := rfl
theorem k_La_worth {d : Nat} {v0 v1 : Int} {X : pz_X} : pz_cal (d + 1) 32 [(2, v0), (2, v1)] X = pz_p bl_La_worth (pz_cal d) 0 0 0 [] [(2, v0), (2, v1), (9, 0), (9, 0), (9, 0), (9, 0), (9, 0)] [] X := rfl
theorem k_La_join {d : Nat} {v0 v1 v2 : Int} {X : pz_X} : pz_cal (d + 1) 33 [(0, v0), (0, v1), (0, v2)] X = pz_p bl_La_join (pz_cal d) 0 0 0 [] [(0, v0), (0, v1), (0, v2), (9, 0), (9, 0)] [] X := rfl
theorem k_Lt_init {d : Nat} {v0 v1 : Int} {X : pz_X} : pz_cal (d + 1) 34 [(2, v0), (2, v1)] X = pz_p bl_Lt_init (pz_cal d) 1 240 0 [] [(2, v0), (2, v1)] [] X := rfl
theorem k_Lt_read {d : Nat} {v0 : Int} {X : pz_X} : pz_cal (d + 1) 35 [(2, v0)] X = pz_p bl_Lt_read (pz_cal d) 0 0 0 [] [(2, v0), (9, 0), (9, 0)] [] X := rfl
theorem k_Lt_clause {d : Nat} {v0 : Int} {X : pz_X} : pz_cal (d + 1) 36 [(2, v0)] X = pz_p bl_Lt_clause (pz_cal d) 0 0 0 [] [(2, v0), (9, 0)] [] X := rfl
theorem k_Lt_sum {d : Nat} {v0 v1 : Int} {X : pz_X} : pz_cal (d + 1) 37 [(2, v0), (0, v1)] X = pz_p bl_Lt_sum (pz_cal d) 0 0 0 [] [(2, v0), (0, v1), (9, 0), (9, 0), (9, 0)] [] X := rfl
theorem k_Lt_term {d : Nat} {v0 v1 : Int} {X : pz_X} : pz_cal (d + 1) 38 [(2, v0), (0, v1)] X = pz_p bl_Lt_term (pz_cal d) 0 0 0 [] [(2, v0), (0, v1), (9, 0), (9, 0), (9, 0)] [] X := rfl
theorem k_Lt_atom {d : Nat} {v0 v1 : Int} {X : pz_X} : pz_cal (d + 1) 39 [(2, v0), (0, v1)] X = pz_p bl_Lt_atom (pz_cal d) 0 0 0 [] [(2, v0), (0, v1), (9, 0), (9, 0), (9, 0)] [] X := rfl
theorem k_Lt_emit {d : Nat} {v0 v1 v2 : Int} {X : pz_X} : pz_cal (d + 1) 40 [(2, v0), (0, v1), (0, v2)] X = pz_p bl_Lt_emit (pz_cal d) 0 0 0 [] [(2, v0), (0, v1), (0, v2)] [] X := rfl
theorem k_Lt_isEither {d : Nat} {v0 v1 v2 : Int} {X : pz_X} : pz_cal (d + 1) 41 [(2, v0), (0, v1), (0, v2)] X = pz_p bl_Lt_isEither (pz_cal d) 0 0 0 [] [(2, v0), (0, v1), (0, v2)] [] X := rfl
theorem k_Lt_isComparison {d : Nat} {v0 : Int} {X : pz_X} : pz_cal (d + 1) 42 [(0, v0)] X = pz_p bl_Lt_isComparison (pz_cal d) 0 0 0 [] [(0, v0)] [] X := rfl
theorem k_Lt_condition {d : Nat} {v0 v1 v2 : Int} {X : pz_X} : pz_cal (d + 1) 43 [(2, v0), (0, v1), (0, v2)] X = pz_p bl_Lt_condition (pz_cal d) 0 0 0 [] [(2, v0), (0, v1), (0, v2), (9, 0), (9, 0)] [] X := rfl
theorem k_Lt_truth {d : Nat} {v0 v1 v2 : Int} {X : pz_X} : pz_cal (d + 1) 44 [(2, v0), (0, v1), (0, v2)] X = pz_p bl_Lt_truth (pz_cal d) 0 0 0 [] [(2, v0), (0, v1), (0, v2), (9, 0), (9, 0)] [] X := rfl
theorem k_Lt_unit {d : Nat} {v0 v1 v2 : Int} {X : pz_X} : pz_cal (d + 1) 45 [(2, v0), (0, v1), (0, v2)] X = pz_p bl_Lt_unit (pz_cal d) 0 0 0 [] [(2, v0), (0, v1), (0, v2), (9, 0), (9, 0)] [] X := rfl
theorem k_Lt_nested {d : Nat} {v0 v1 : Int} {X : pz_X} : pz_cal (d + 1) 46 [(2, v0), (0, v1)] X = pz_p bl_Lt_nested (pz_cal d) 0 0 0 [] [(2, v0), (0, v1)] [] X := rfl
theorem k_Lt_conditionalSum {d : Nat} {v0 : Int} {X : pz_X} : pz_cal (d + 1) 47 [(2, v0)] X = pz_p bl_Lt_conditionalSum (pz_cal d) 0 0 0 [] [(2, v0), (9, 0)] [] X := rfl
theorem k_Lt_giveTo {d : Nat} {v0 v1 : Int} {X : pz_X} : pz_cal (d + 1) 48 [(2, v0), (2, v1)] X = pz_p bl_Lt_giveTo (pz_cal d) 0 0 0 [] [(2, v0), (2, v1)] [] X := rfl
theorem k_Mi_init {d : Nat} {v0 v1 : Int} {X : pz_X} : pz_cal (d + 1) 49 [(2, v0), (2, v1)] X = pz_p bl_Mi_init (pz_cal d) 3 16 0 [] [(2, v0), (2, v1)] [] X := rfl
theorem k_Mi_use {d : Nat} {v0 v1 v2 : Int} {X : pz_X} : pz_cal (d + 1) 50 [(2, v0), (2, v1), (2, v2)] X = pz_p bl_Mi_use (pz_cal d) 0 0 0 [] [(2, v0), (2, v1), (2, v2)] [] X := rfl
theorem k_Mi_moodOf {d : Nat} {v0 v1 v2 v3 v4 : Int} {X : pz_X} : pz_cal (d + 1) 51 [(2, v0), (0, v1), (0, v2), (0, v3), (0, v4)] X = pz_p bl_Mi_moodOf (pz_cal d) 0 0 0 [] [(2, v0), (0, v1), (0, v2), (0, v3), (0, v4), (9, 0), (9, 0)] [] X := rfl
theorem k_Mi_tell {d : Nat} {v0 v1 v2 v3 v4 : Int} {X : pz_X} : pz_cal (d + 1) 52 [(2, v0), (0, v1), (0, v2), (0, v3), (0, v4)] X = pz_p bl_Mi_tell (pz_cal d) 0 0 0 [] [(2, v0), (0, v1), (0, v2), (0, v3), (0, v4)] [] X := rfl
theorem k_Mi_habit {d : Nat} {v0 : Int} {X : pz_X} : pz_cal (d + 1) 53 [(2, v0)] X = pz_p bl_Mi_habit (pz_cal d) 0 0 0 [] [(2, v0)] [] X := rfl
theorem k_Mi_oddsOf {d : Nat} {v0 v1 v2 v3 v4 : Int} {X : pz_X} : pz_cal (d + 1) 54 [(2, v0), (0, v1), (0, v2), (0, v3), (0, v4)] X = pz_p bl_Mi_oddsOf (pz_cal d) 0 0 0 [] [(2, v0), (0, v1), (0, v2), (0, v3), (0, v4)] [] X := rfl
theorem k_Mi_reckon {d : Nat} {v0 v1 v2 v3 : Int} {X : pz_X} : pz_cal (d + 1) 55 [(2, v0), (0, v1), (0, v2), (0, v3)] X = pz_p bl_Mi_reckon (pz_cal d) 0 0 0 [] [(2, v0), (0, v1), (0, v2), (0, v3), (9, 0), (9, 0), (9, 0), (9, 0)] [] X := rfl
theorem k_Mi_courtInUse {d : Nat} {v0 : Int} {X : pz_X} : pz_cal (d + 1) 56 [(2, v0)] X = pz_p bl_Mi_courtInUse (pz_cal d) 0 0 0 [] [(2, v0)] [] X := rfl
theorem k_Mi_likeliest {d : Nat} {v0 v1 v2 v3 : Int} {X : pz_X} : pz_cal (d + 1) 57 [(2, v0), (0, v1), (0, v2), (0, v3)] X = pz_p bl_Mi_likeliest (pz_cal d) 0 0 0 [] [(2, v0), (0, v1), (0, v2), (0, v3), (9, 0), (9, 0), (9, 0), (9, 0)] [] X := rfl
theorem k_Pa_init {d : Nat} {v0 : Int} {X : pz_X} : pz_cal (d + 1) 58 [(2, v0)] X = pz_p bl_Pa_init (pz_cal d) 81 5840 0 [] [(2, v0), (9, 0)] [] X := rfl
theorem k_Pa_forget {d : Nat} {v0 : Int} {X : pz_X} : pz_cal (d + 1) 59 [(2, v0)] X = pz_p bl_Pa_forget (pz_cal d) 0 0 0 [] [(2, v0)] [] X := rfl
theorem k_Pa_size {d : Nat} {v0 : Int} {X : pz_X} : pz_cal (d + 1) 60 [(2, v0)] X = pz_p bl_Pa_size (pz_cal d) 0 0 0 [] [(2, v0)] [] X := rfl
theorem k_Pa_keep {d : Nat} {v0 v1 : Int} {X : pz_X} : pz_cal (d + 1) 61 [(2, v0), (2, v1)] X = pz_p bl_Pa_keep (pz_cal d) 0 0 0 [] [(2, v0), (2, v1)] [] X := rfl
theorem k_Pa_giveBack {d : Nat} {v0 v1 : Int} {X : pz_X} : pz_cal (d + 1) 62 [(2, v0), (2, v1)] X = pz_p bl_Pa_giveBack (pz_cal d) 0 0 0 [] [(2, v0), (2, v1), (9, 0)] [] X := rfl
theorem k_Sc_init {d : Nat} {v0 v1 : Int} {X : pz_X} : pz_cal (d + 1) 63 [(2, v0), (2, v1)] X = pz_p bl_Sc_init (pz_cal d) 30 1528 0 [] [(2, v0), (2, v1)] [] X := rfl
theorem k_Sc_weigh {d : Nat} {v0 v1 v2 : Int} {X : pz_X} : pz_cal (d + 1) 64 [(2, v0), (0, v1), (0, v2)] X = pz_p bl_Sc_weigh (pz_cal d) 0 0 0 [] [(2, v0), (0, v1), (0, v2), (9, 0), (9, 0)] [] X := rfl
theorem k_Sc_begin {d : Nat} {v0 v1 : Int} {X : pz_X} : pz_cal (d + 1) 65 [(2, v0), (0, v1)] X = pz_p bl_Sc_begin (pz_cal d) 0 0 0 [] [(2, v0), (0, v1)] [] X := rfl
theorem k_Sc_side {d : Nat} {v0 v1 : Int} {X : pz_X} : pz_cal (d + 1) 66 [(2, v0), (0, v1)] X = pz_p bl_Sc_side (pz_cal d) 0 0 0 [] [(2, v0), (0, v1)] [] X := rfl
theorem k_Sc_put {d : Nat} {v0 v1 v2 v3 v4 : Int} {X : pz_X} : pz_cal (d + 1) 67 [(2, v0), (0, v1), (0, v2), (0, v3), (0, v4)] X = pz_p bl_Sc_put (pz_cal d) 0 0 0 [] [(2, v0), (0, v1), (0, v2), (0, v3), (0, v4)] [] X := rfl
theorem k_Sc_heldBy {d : Nat} {v0 v1 v2 v3 : Int} {X : pz_X} : pz_cal (d + 1) 68 [(2, v0), (0, v1), (0, v2), (0, v3)] X = pz_p bl_Sc_heldBy (pz_cal d) 0 0 0 [] [(2, v0), (0, v1), (0, v2), (0, v3)] [] X := rfl
theorem k_Sc_rightBy {d : Nat} {v0 v1 v2 v3 : Int} {X : pz_X} : pz_cal (d + 1) 69 [(2, v0), (0, v1), (0, v2), (0, v3)] X = pz_p bl_Sc_rightBy (pz_cal d) 0 0 0 [] [(2, v0), (0, v1), (0, v2), (0, v3)] [] X := rfl
theorem k_Sc_meanBy {d : Nat} {v0 v1 v2 : Int} {X : pz_X} : pz_cal (d + 1) 70 [(2, v0), (0, v1), (0, v2)] X = pz_p bl_Sc_meanBy (pz_cal d) 0 0 0 [] [(2, v0), (0, v1), (0, v2)] [] X := rfl
theorem k_Sc_deedBy {d : Nat} {v0 v1 v2 v3 : Int} {X : pz_X} : pz_cal (d + 1) 71 [(2, v0), (0, v1), (0, v2), (0, v3)] X = pz_p bl_Sc_deedBy (pz_cal d) 0 0 0 [] [(2, v0), (0, v1), (0, v2), (0, v3), (9, 0), (9, 0)] [] X := rfl
theorem k_Sp_init {d : Nat} {v0 : Int} {X : pz_X} : pz_cal (d + 1) 72 [(2, v0)] X = pz_p bl_Sp_init (pz_cal d) 14 759 0 [] [(2, v0)] [] X := rfl
theorem k_Sp_begin {d : Nat} {v0 v1 : Int} {X : pz_X} : pz_cal (d + 1) 73 [(2, v0), (2, v1)] X = pz_p bl_Sp_begin (pz_cal d) 0 0 0 [] [(2, v0), (2, v1), (9, 0)] [] X := rfl
theorem k_Sp_put {d : Nat} {v0 v1 v2 : Int} {X : pz_X} : pz_cal (d + 1) 74 [(2, v0), (0, v1), (2, v2)] X = pz_p bl_Sp_put (pz_cal d) 0 0 0 [] [(2, v0), (0, v1), (2, v2), (9, 0)] [] X := rfl
theorem k_Sp_from {d : Nat} {v0 v1 v2 : Int} {X : pz_X} : pz_cal (d + 1) 75 [(2, v0), (0, v1), (0, v2)] X = pz_p bl_Sp_from (pz_cal d) 0 0 0 [] [(2, v0), (0, v1), (0, v2), (9, 0), (9, 0), (9, 0), (9, 0)] [] X := rfl
theorem k_Sp_build {d : Nat} {v0 v1 : Int} {X : pz_X} : pz_cal (d + 1) 76 [(2, v0), (0, v1)] X = pz_p bl_Sp_build (pz_cal d) 0 0 0 [] [(2, v0), (0, v1), (9, 0), (9, 0), (9, 0)] [] X := rfl
theorem k_Sp_extend {d : Nat} {v0 v1 v2 : Int} {X : pz_X} : pz_cal (d + 1) 77 [(2, v0), (0, v1), (0, v2)] X = pz_p bl_Sp_extend (pz_cal d) 0 0 0 [] [(2, v0), (0, v1), (0, v2), (9, 0), (9, 0), (9, 0), (9, 0), (9, 0), (9, 0), (9, 0), (9, 0), (9, 0)] [] X := rfl
theorem k_Sp_timesPoints {d : Nat} {v0 v1 : Int} {X : pz_X} : pz_cal (d + 1) 78 [(2, v0), (0, v1)] X = pz_p bl_Sp_timesPoints (pz_cal d) 0 0 0 [] [(2, v0), (0, v1), (9, 0), (9, 0), (9, 0), (9, 0)] [] X := rfl
theorem k_Sp_oddsAt {d : Nat} {v0 v1 v2 : Int} {X : pz_X} : pz_cal (d + 1) 79 [(2, v0), (0, v1), (0, v2)] X = pz_p bl_Sp_oddsAt (pz_cal d) 0 0 0 [] [(2, v0), (0, v1), (0, v2)] [] X := rfl
theorem k_Ta_init {d : Nat} {v0 : Int} {X : pz_X} : pz_cal (d + 1) 80 [(2, v0)] X = pz_p bl_Ta_init (pz_cal d) 1 240 0 [] [(2, v0)] [] X := rfl
theorem k_Ta_bytesOf {d : Nat} {v0 : Int} {X : pz_X} : pz_cal (d + 1) 81 [(0, v0)] X = pz_p bl_Ta_bytesOf (pz_cal d) 0 0 0 [] [(0, v0), (9, 0), (9, 0)] [] X := rfl
theorem k_Ta_size {d : Nat} {v0 : Int} {X : pz_X} : pz_cal (d + 1) 82 [(2, v0)] X = pz_p bl_Ta_size (pz_cal d) 0 0 0 [] [(2, v0)] [] X := rfl
theorem k_Ta_add {d : Nat} {v0 v1 : Int} {X : pz_X} : pz_cal (d + 1) 83 [(2, v0), (0, v1)] X = pz_p bl_Ta_add (pz_cal d) 0 0 0 [] [(2, v0), (0, v1), (9, 0), (9, 0)] [] X := rfl
theorem k_Ta_cutTo {d : Nat} {v0 v1 : Int} {X : pz_X} : pz_cal (d + 1) 84 [(2, v0), (0, v1)] X = pz_p bl_Ta_cutTo (pz_cal d) 0 0 0 [] [(2, v0), (0, v1)] [] X := rfl
theorem k_Ta_rewind {d : Nat} {v0 : Int} {X : pz_X} : pz_cal (d + 1) 85 [(2, v0)] X = pz_p bl_Ta_rewind (pz_cal d) 0 0 0 [] [(2, v0)] [] X := rfl
theorem k_Ta_sign {d : Nat} {v0 : Int} {X : pz_X} : pz_cal (d + 1) 86 [(2, v0)] X = pz_p bl_Ta_sign (pz_cal d) 0 0 0 [] [(2, v0)] [] X := rfl
theorem k_Ta_step {d : Nat} {v0 : Int} {X : pz_X} : pz_cal (d + 1) 87 [(2, v0)] X = pz_p bl_Ta_step (pz_cal d) 0 0 0 [] [(2, v0)] [] X := rfl
theorem k_Ta_number {d : Nat} {v0 v1 v2 : Int} {X : pz_X} : pz_cal (d + 1) 88 [(2, v0), (0, v1), (0, v2)] X = pz_p bl_Ta_number (pz_cal d) 0 0 0 [] [(2, v0), (0, v1), (0, v2), (9, 0), (9, 0)] [] X := rfl
theorem k_Ta_digitHere {d : Nat} {v0 : Int} {X : pz_X} : pz_cal (d + 1) 89 [(2, v0)] X = pz_p bl_Ta_digitHere (pz_cal d) 0 0 0 [] [(2, v0), (9, 0)] [] X := rfl
theorem k_Ta_fail {d : Nat} {v0 : Int} {X : pz_X} : pz_cal (d + 1) 90 [(2, v0)] X = pz_p bl_Ta_fail (pz_cal d) 0 0 0 [] [(2, v0)] [] X := rfl
theorem k_Ta_takes {d : Nat} {v0 v1 : Int} {X : pz_X} : pz_cal (d + 1) 91 [(2, v0), (0, v1)] X = pz_p bl_Ta_takes (pz_cal d) 0 0 0 [] [(2, v0), (0, v1), (9, 0)] [] X := rfl
theorem k_Ta_wants {d : Nat} {v0 v1 : Int} {X : pz_X} : pz_cal (d + 1) 92 [(2, v0), (0, v1)] X = pz_p bl_Ta_wants (pz_cal d) 0 0 0 [] [(2, v0), (0, v1)] [] X := rfl
theorem k_Ta_wrongAt {d : Nat} {v0 : Int} {X : pz_X} : pz_cal (d + 1) 93 [(2, v0)] X = pz_p bl_Ta_wrongAt (pz_cal d) 0 0 0 [] [(2, v0)] [] X := rfl
theorem k_CC_init {d : Nat} {v0 : Int} {X : pz_X} : pz_cal (d + 1) 94 [(2, v0)] X = pz_p bl_CC_init (pz_cal d) 146 9634 0 [] [(2, v0), (9, 0)] [] X := rfl
theorem k_CC_feed {d : Nat} {v0 v1 v2 v3 v4 v5 : Int} {X : pz_X} : pz_cal (d + 1) 95 [(2, v0), (0, v1), (0, v2), (0, v3), (0, v4), (0, v5)] X = pz_p bl_CC_feed (pz_cal d) 0 0 0 [] [(2, v0), (0, v1), (0, v2), (0, v3), (0, v4), (0, v5), (9, 0)] [] X := rfl
theorem k_CC_end {d : Nat} {v0 v1 : Int} {X : pz_X} : pz_cal (d + 1) 96 [(2, v0), (0, v1)] X = pz_p bl_CC_end (pz_cal d) 0 0 0 [] [(2, v0), (0, v1)] [] X := rfl
theorem k_CC_fault {d : Nat} {v0 v1 : Int} {X : pz_X} : pz_cal (d + 1) 97 [(2, v0), (0, v1)] X = pz_p bl_CC_fault (pz_cal d) 0 0 0 [] [(2, v0), (0, v1)] [] X := rfl
theorem k_CC_placeOf {d : Nat} {v0 v1 : Int} {X : pz_X} : pz_cal (d + 1) 98 [(0, v0), (2, v1)] X = pz_p bl_CC_placeOf (pz_cal d) 0 0 0 [] [(0, v0), (2, v1), (9, 0)] [] X := rfl
theorem k_CC_isIn {d : Nat} {v0 v1 : Int} {X : pz_X} : pz_cal (d + 1) 99 [(0, v0), (0, v1)] X = pz_p bl_CC_isIn (pz_cal d) 0 0 0 [] [(0, v0), (0, v1)] [] X := rfl
theorem k_CC_text {d : Nat} {v0 v1 : Int} {X : pz_X} : pz_cal (d + 1) 100 [(2, v0), (0, v1)] X = pz_p bl_CC_text (pz_cal d) 0 0 0 [] [(2, v0), (0, v1)] [] X := rfl
theorem k_CC_openCourt {d : Nat} {v0 : Int} {X : pz_X} : pz_cal (d + 1) 101 [(2, v0)] X = pz_p bl_CC_openCourt (pz_cal d) 0 0 0 [] [(2, v0)] [] X := rfl
theorem k_CC_tellLaw {d : Nat} {v0 : Int} {X : pz_X} : pz_cal (d + 1) 102 [(2, v0)] X = pz_p bl_CC_tellLaw (pz_cal d) 0 0 0 [] [(2, v0)] [] X := rfl
theorem k_CC_bench {d : Nat} {v0 v1 : Int} {X : pz_X} : pz_cal (d + 1) 103 [(2, v0), (0, v1)] X = pz_p bl_CC_bench (pz_cal d) 0 0 0 [] [(2, v0), (0, v1)] [] X := rfl
theorem k_CC_accused {d : Nat} {v0 v1 v2 : Int} {X : pz_X} : pz_cal (d + 1) 104 [(2, v0), (0, v1), (0, v2)] X = pz_p bl_CC_accused (pz_cal d) 0 0 0 [] [(2, v0), (0, v1), (0, v2)] [] X := rfl
theorem k_CC_law {d : Nat} {v0 v1 : Int} {X : pz_X} : pz_cal (d + 1) 105 [(2, v0), (0, v1)] X = pz_p bl_CC_law (pz_cal d) 0 0 0 [] [(2, v0), (0, v1)] [] X := rfl
theorem k_CC_count {d : Nat} {v0 v1 : Int} {X : pz_X} : pz_cal (d + 1) 106 [(2, v0), (0, v1)] X = pz_p bl_CC_count (pz_cal d) 0 0 0 [] [(2, v0), (0, v1)] [] X := rfl
theorem k_CC_mood {d : Nat} {v0 v1 v2 v3 v4 : Int} {X : pz_X} : pz_cal (d + 1) 107 [(2, v0), (0, v1), (0, v2), (0, v3), (0, v4)] X = pz_p bl_CC_mood (pz_cal d) 0 0 0 [] [(2, v0), (0, v1), (0, v2), (0, v3), (0, v4)] [] X := rfl
theorem k_CC_isPair {d : Nat} {v0 v1 v2 : Int} {X : pz_X} : pz_cal (d + 1) 108 [(2, v0), (0, v1), (0, v2)] X = pz_p bl_CC_isPair (pz_cal d) 0 0 0 [] [(2, v0), (0, v1), (0, v2)] [] X := rfl
theorem k_CC_isDeed {d : Nat} {v0 : Int} {X : pz_X} : pz_cal (d + 1) 109 [(0, v0)] X = pz_p bl_CC_isDeed (pz_cal d) 0 0 0 [] [(0, v0)] [] X := rfl
theorem k_CC_isBit {d : Nat} {v0 : Int} {X : pz_X} : pz_cal (d + 1) 110 [(0, v0)] X = pz_p bl_CC_isBit (pz_cal d) 0 0 0 [] [(0, v0)] [] X := rfl
theorem k_CC_thinkOf {d : Nat} {v0 v1 : Int} {X : pz_X} : pz_cal (d + 1) 111 [(2, v0), (2, v1)] X = pz_p bl_CC_thinkOf (pz_cal d) 0 0 0 [] [(2, v0), (2, v1)] [] X := rfl
theorem k_CC_lawAt {d : Nat} {v0 v1 : Int} {X : pz_X} : pz_cal (d + 1) 112 [(2, v0), (0, v1)] X = pz_p bl_CC_lawAt (pz_cal d) 0 0 0 [] [(2, v0), (0, v1)] [] X := rfl
theorem k_CC_odds {d : Nat} {v0 v1 v2 v3 v4 : Int} {X : pz_X} : pz_cal (d + 1) 113 [(2, v0), (0, v1), (0, v2), (0, v3), (0, v4)] X = pz_p bl_CC_odds (pz_cal d) 0 0 0 [] [(2, v0), (0, v1), (0, v2), (0, v3), (0, v4)] [] X := rfl
theorem k_CC_held {d : Nat} {v0 v1 v2 v3 : Int} {X : pz_X} : pz_cal (d + 1) 114 [(2, v0), (0, v1), (0, v2), (0, v3)] X = pz_p bl_CC_held (pz_cal d) 0 0 0 [] [(2, v0), (0, v1), (0, v2), (0, v3)] [] X := rfl
theorem k_CC_isCase {d : Nat} {v0 v1 v2 : Int} {X : pz_X} : pz_cal (d + 1) 115 [(2, v0), (0, v1), (0, v2)] X = pz_p bl_CC_isCase (pz_cal d) 0 0 0 [] [(2, v0), (0, v1), (0, v2)] [] X := rfl
theorem k_CC_isSet {d : Nat} {v0 v1 : Int} {X : pz_X} : pz_cal (d + 1) 116 [(2, v0), (0, v1)] X = pz_p bl_CC_isSet (pz_cal d) 0 0 0 [] [(2, v0), (0, v1)] [] X := rfl
theorem k_CC_right {d : Nat} {v0 v1 v2 : Int} {X : pz_X} : pz_cal (d + 1) 117 [(2, v0), (0, v1), (0, v2)] X = pz_p bl_CC_right (pz_cal d) 0 0 0 [] [(2, v0), (0, v1), (0, v2)] [] X := rfl
theorem k_CC_rightNow {d : Nat} {v0 v1 v2 : Int} {X : pz_X} : pz_cal (d + 1) 118 [(2, v0), (0, v1), (0, v2)] X = pz_p bl_CC_rightNow (pz_cal d) 0 0 0 [] [(2, v0), (0, v1), (0, v2)] [] X := rfl
theorem k_CC_hundredths {d : Nat} {v0 v1 : Int} {X : pz_X} : pz_cal (d + 1) 119 [(0, v0), (0, v1)] X = pz_p bl_CC_hundredths (pz_cal d) 0 0 0 [] [(0, v0), (0, v1)] [] X := rfl
theorem k_CC_mean {d : Nat} {v0 v1 v2 v3 : Int} {X : pz_X} : pz_cal (d + 1) 120 [(2, v0), (0, v1), (0, v2), (0, v3)] X = pz_p bl_CC_mean (pz_cal d) 0 0 0 [] [(2, v0), (0, v1), (0, v2), (0, v3)] [] X := rfl
theorem k_CC_likely {d : Nat} {v0 v1 v2 v3 : Int} {X : pz_X} : pz_cal (d + 1) 121 [(2, v0), (0, v1), (0, v2), (0, v3)] X = pz_p bl_CC_likely (pz_cal d) 0 0 0 [] [(2, v0), (0, v1), (0, v2), (0, v3)] [] X := rfl
theorem k_CC_quiet {d : Nat} {v0 v1 v2 v3 : Int} {X : pz_X} : pz_cal (d + 1) 122 [(2, v0), (0, v1), (0, v2), (0, v3)] X = pz_p bl_CC_quiet (pz_cal d) 0 0 0 [] [(2, v0), (0, v1), (0, v2), (0, v3), (9, 0), (9, 0)] [] X := rfl
theorem k_CC_share {d : Nat} {v0 v1 : Int} {X : pz_X} : pz_cal (d + 1) 123 [(0, v0), (0, v1)] X = pz_p bl_CC_share (pz_cal d) 0 0 0 [] [(0, v0), (0, v1)] [] X := rfl
theorem k_CC_surely {d : Nat} {v0 v1 v2 : Int} {X : pz_X} : pz_cal (d + 1) 124 [(2, v0), (0, v1), (0, v2)] X = pz_p bl_CC_surely (pz_cal d) 0 0 0 [] [(2, v0), (0, v1), (0, v2), (9, 0), (9, 0)] [] X := rfl
theorem k_CC_noisy {d : Nat} {v0 v1 v2 : Int} {X : pz_X} : pz_cal (d + 1) 125 [(2, v0), (0, v1), (0, v2)] X = pz_p bl_CC_noisy (pz_cal d) 0 0 0 [] [(2, v0), (0, v1), (0, v2), (9, 0), (9, 0), (9, 0), (9, 0)] [] X := rfl
theorem k_CC_purrsApart {d : Nat} {v0 v1 v2 : Int} {X : pz_X} : pz_cal (d + 1) 126 [(2, v0), (0, v1), (0, v2)] X = pz_p bl_CC_purrsApart (pz_cal d) 0 0 0 [] [(2, v0), (0, v1), (0, v2)] [] X := rfl
theorem k_CC_alike {d : Nat} {v0 v1 v2 v3 v4 : Int} {X : pz_X} : pz_cal (d + 1) 127 [(2, v0), (0, v1), (0, v2), (0, v3), (0, v4)] X = pz_p bl_CC_alike (pz_cal d) 0 0 0 [] [(2, v0), (0, v1), (0, v2), (0, v3), (0, v4), (9, 0), (9, 0)] [] X := rfl
theorem k_CC_fish {d : Nat} {v0 v1 : Int} {X : pz_X} : pz_cal (d + 1) 128 [(2, v0), (0, v1)] X = pz_p bl_CC_fish (pz_cal d) 0 0 0 [] [(2, v0), (0, v1)] [] X := rfl
theorem k_CC_nights {d : Nat} {v0 v1 : Int} {X : pz_X} : pz_cal (d + 1) 129 [(2, v0), (0, v1)] X = pz_p bl_CC_nights (pz_cal d) 0 0 0 [] [(2, v0), (0, v1), (9, 0)] [] X := rfl
theorem k_CC_heat {d : Nat} {v0 v1 : Int} {X : pz_X} : pz_cal (d + 1) 130 [(2, v0), (0, v1)] X = pz_p bl_CC_heat (pz_cal d) 0 0 0 [] [(2, v0), (0, v1)] [] X := rfl
theorem k_CC_milk {d : Nat} {v0 v1 v2 : Int} {X : pz_X} : pz_cal (d + 1) 131 [(2, v0), (0, v1), (0, v2)] X = pz_p bl_CC_milk (pz_cal d) 0 0 0 [] [(2, v0), (0, v1), (0, v2), (9, 0)] [] X := rfl
theorem k_CC_retire {d : Nat} {v0 v1 v2 : Int} {X : pz_X} : pz_cal (d + 1) 132 [(2, v0), (0, v1), (0, v2)] X = pz_p bl_CC_retire (pz_cal d) 0 0 0 [] [(2, v0), (0, v1), (0, v2), (9, 0)] [] X := rfl
theorem k_CC_hear {d : Nat} {v0 v1 v2 v3 : Int} {X : pz_X} : pz_cal (d + 1) 133 [(2, v0), (0, v1), (0, v2), (1, v3)] X = pz_p bl_CC_hear (pz_cal d) 0 0 0 [] [(2, v0), (0, v1), (0, v2), (1, v3), (9, 0), (9, 0), (9, 0), (9, 0), (9, 0)] [] X := rfl
theorem k_CC_entry {d : Nat} {v0 v1 v2 : Int} {X : pz_X} : pz_cal (d + 1) 134 [(0, v0), (0, v1), (0, v2)] X = pz_p bl_CC_entry (pz_cal d) 0 0 0 [] [(0, v0), (0, v1), (0, v2)] [] X := rfl
theorem k_CC_undo {d : Nat} {v0 : Int} {X : pz_X} : pz_cal (d + 1) 135 [(2, v0)] X = pz_p bl_CC_undo (pz_cal d) 0 0 0 [] [(2, v0)] [] X := rfl
theorem k_CC_image {d : Nat} {v0 : Int} {X : pz_X} : pz_cal (d + 1) 136 [(2, v0)] X = pz_p bl_CC_image (pz_cal d) 0 0 0 [] [(2, v0)] [] X := rfl
theorem k_CC_back {d : Nat} {v0 : Int} {X : pz_X} : pz_cal (d + 1) 137 [(2, v0)] X = pz_p bl_CC_back (pz_cal d) 0 0 0 [] [(2, v0)] [] X := rfl
theorem k_CC_log {d : Nat} {v0 v1 v2 : Int} {X : pz_X} : pz_cal (d + 1) 138 [(2, v0), (0, v1), (0, v2)] X = pz_p bl_CC_log (pz_cal d) 0 0 0 [] [(2, v0), (0, v1), (0, v2)] [] X := rfl
theorem k_CC_partOf {d : Nat} {v0 v1 : Int} {X : pz_X} : pz_cal (d + 1) 139 [(0, v0), (0, v1)] X = pz_p bl_CC_partOf (pz_cal d) 0 0 0 [] [(0, v0), (0, v1)] [] X := rfl
theorem k_CC_catOf {d : Nat} {v0 : Int} {X : pz_X} : pz_cal (d + 1) 140 [(0, v0)] X = pz_p bl_CC_catOf (pz_cal d) 0 0 0 [] [(0, v0)] [] X := rfl
theorem k_CC_accusedOf {d : Nat} {v0 : Int} {X : pz_X} : pz_cal (d + 1) 141 [(0, v0)] X = pz_p bl_CC_accusedOf (pz_cal d) 0 0 0 [] [(0, v0)] [] X := rfl
theorem k_CC_deedOf {d : Nat} {v0 : Int} {X : pz_X} : pz_cal (d + 1) 142 [(0, v0)] X = pz_p bl_CC_deedOf (pz_cal d) 0 0 0 [] [(0, v0)] [] X := rfl
theorem k_CC_often {d : Nat} {v0 v1 v2 : Int} {X : pz_X} : pz_cal (d + 1) 143 [(2, v0), (0, v1), (0, v2)] X = pz_p bl_CC_often (pz_cal d) 0 0 0 [] [(2, v0), (0, v1), (0, v2), (9, 0), (9, 0)] [] X := rfl
theorem k_CC_harsh {d : Nat} {v0 : Int} {X : pz_X} : pz_cal (d + 1) 144 [(2, v0)] X = pz_p bl_CC_harsh (pz_cal d) 0 0 0 [] [(2, v0), (9, 0), (9, 0), (9, 0), (9, 0)] [] X := rfl
theorem k_CC_pointsBroughtBy {d : Nat} {v0 v1 : Int} {X : pz_X} : pz_cal (d + 1) 145 [(2, v0), (0, v1)] X = pz_p bl_CC_pointsBroughtBy (pz_cal d) 0 0 0 [] [(2, v0), (0, v1), (9, 0), (9, 0)] [] X := rfl
theorem k_CC_ask {d : Nat} {v0 v1 v2 v3 : Int} {X : pz_X} : pz_cal (d + 1) 146 [(2, v0), (0, v1), (0, v2), (0, v3)] X = pz_p bl_CC_ask (pz_cal d) 0 0 0 [] [(2, v0), (0, v1), (0, v2), (0, v3), (9, 0), (9, 0), (9, 0), (9, 0), (9, 0), (9, 0)] [] X := rfl
theorem k_CC_mirrored {d : Nat} {v0 : Int} {X : pz_X} : pz_cal (d + 1) 147 [(0, v0)] X = pz_p bl_CC_mirrored (pz_cal d) 0 0 0 [] [(0, v0), (9, 0), (9, 0)] [] X := rfl
theorem k_CC_three {d : Nat} {v0 v1 : Int} {X : pz_X} : pz_cal (d + 1) 148 [(2, v0), (0, v1)] X = pz_p bl_CC_three (pz_cal d) 0 0 0 [] [(2, v0), (0, v1), (9, 0), (9, 0), (9, 0), (9, 0), (9, 0), (9, 0), (9, 0)] [] X := rfl
theorem k_CC_isThreeToOne {d : Nat} {v0 v1 : Int} {X : pz_X} : pz_cal (d + 1) 149 [(2, v0), (0, v1)] X = pz_p bl_CC_isThreeToOne (pz_cal d) 0 0 0 [] [(2, v0), (0, v1), (9, 0), (9, 0)] [] X := rfl
theorem k_CC_spare {d : Nat} {v0 v1 v2 : Int} {X : pz_X} : pz_cal (d + 1) 150 [(2, v0), (0, v1), (0, v2)] X = pz_p bl_CC_spare (pz_cal d) 0 0 0 [] [(2, v0), (0, v1), (0, v2), (9, 0), (9, 0), (9, 0), (9, 0), (9, 0)] [] X := rfl
theorem k_CC_bar {d : Nat} {v0 v1 v2 v3 : Int} {X : pz_X} : pz_cal (d + 1) 151 [(2, v0), (0, v1), (0, v2), (0, v3)] X = pz_p bl_CC_bar (pz_cal d) 0 0 0 [] [(2, v0), (0, v1), (0, v2), (0, v3), (9, 0), (9, 0), (9, 0), (9, 0)] [] X := rfl
theorem k_CC_moonlit {d : Nat} {v0 v1 v2 v3 : Int} {X : pz_X} : pz_cal (d + 1) 152 [(2, v0), (0, v1), (0, v2), (0, v3)] X = pz_p bl_CC_moonlit (pz_cal d) 0 0 0 [] [(2, v0), (0, v1), (0, v2), (0, v3), (9, 0), (9, 0), (9, 0), (9, 0)] [] X := rfl
theorem k_CC_mercy {d : Nat} {v0 v1 v2 v3 v4 : Int} {X : pz_X} : pz_cal (d + 1) 153 [(2, v0), (0, v1), (0, v2), (0, v3), (0, v4)] X = pz_p bl_CC_mercy (pz_cal d) 0 0 0 [] [(2, v0), (0, v1), (0, v2), (0, v3), (0, v4), (9, 0), (9, 0), (9, 0), (9, 0), (9, 0)] [] X := rfl
theorem k_CC_weighTreats {d : Nat} {v0 v1 v2 : Int} {X : pz_X} : pz_cal (d + 1) 154 [(2, v0), (0, v1), (0, v2)] X = pz_p bl_CC_weighTreats (pz_cal d) 0 0 0 [] [(2, v0), (0, v1), (0, v2), (9, 0), (9, 0), (9, 0)] [] X := rfl
theorem k_CC_fishIn {d : Nat} {v0 v1 : Int} {X : pz_X} : pz_cal (d + 1) 155 [(0, v0), (0, v1)] X = pz_p bl_CC_fishIn (pz_cal d) 0 0 0 [] [(0, v0), (0, v1), (9, 0), (9, 0)] [] X := rfl
theorem k_CC_treatAt {d : Nat} {v0 v1 v2 : Int} {X : pz_X} : pz_cal (d + 1) 156 [(0, v0), (0, v1), (0, v2)] X = pz_p bl_CC_treatAt (pz_cal d) 0 0 0 [] [(0, v0), (0, v1), (0, v2)] [] X := rfl
theorem k_CC_isMerciful {d : Nat} {v0 v1 v2 v3 : Int} {X : pz_X} : pz_cal (d + 1) 157 [(2, v0), (0, v1), (0, v2), (0, v3)] X = pz_p bl_CC_isMerciful (pz_cal d) 0 0 0 [] [(2, v0), (0, v1), (0, v2), (0, v3), (9, 0), (9, 0)] [] X := rfl
theorem k_CC_rowOf {d : Nat} {v0 v1 : Int} {X : pz_X} : pz_cal (d + 1) 158 [(0, v0), (0, v1)] X = pz_p bl_CC_rowOf (pz_cal d) 0 0 0 [] [(0, v0), (0, v1), (9, 0), (9, 0)] [] X := rfl
theorem k_CC_appeals {d : Nat} {v0 v1 v2 v3 : Int} {X : pz_X} : pz_cal (d + 1) 159 [(2, v0), (0, v1), (0, v2), (0, v3)] X = pz_p bl_CC_appeals (pz_cal d) 0 0 0 [] [(2, v0), (0, v1), (0, v2), (0, v3), (9, 0), (9, 0)] [] X := rfl
theorem k_CC_brothers {d : Nat} {v0 v1 v2 v3 : Int} {X : pz_X} : pz_cal (d + 1) 160 [(2, v0), (0, v1), (0, v2), (0, v3)] X = pz_p bl_CC_brothers (pz_cal d) 0 0 0 [] [(2, v0), (0, v1), (0, v2), (0, v3), (9, 0), (9, 0)] [] X := rfl
theorem k_CC_heldByGuilt {d : Nat} {v0 v1 v2 : Int} {X : pz_X} : pz_cal (d + 1) 161 [(2, v0), (0, v1), (0, v2)] X = pz_p bl_CC_heldByGuilt (pz_cal d) 0 0 0 [] [(2, v0), (0, v1), (0, v2), (9, 0), (9, 0)] [] X := rfl
theorem k_CC_free {d : Nat} {v0 v1 : Int} {X : pz_X} : pz_cal (d + 1) 162 [(2, v0), (0, v1)] X = pz_p bl_CC_free (pz_cal d) 0 0 0 [] [(2, v0), (0, v1), (9, 0), (9, 0)] [] X := rfl
theorem k_CC_rests {d : Nat} {v0 v1 v2 : Int} {X : pz_X} : pz_cal (d + 1) 163 [(2, v0), (0, v1), (0, v2)] X = pz_p bl_CC_rests (pz_cal d) 0 0 0 [] [(2, v0), (0, v1), (0, v2), (9, 0), (9, 0), (9, 0)] [] X := rfl
theorem k_CC_wash {d : Nat} {v0 v1 : Int} {X : pz_X} : pz_cal (d + 1) 164 [(2, v0), (0, v1)] X = pz_p bl_CC_wash (pz_cal d) 0 0 0 [] [(2, v0), (0, v1), (9, 0), (9, 0), (9, 0)] [] X := rfl
theorem k_CC_isRest {d : Nat} {v0 v1 v2 : Int} {X : pz_X} : pz_cal (d + 1) 165 [(2, v0), (0, v1), (0, v2)] X = pz_p bl_CC_isRest (pz_cal d) 0 0 0 [] [(2, v0), (0, v1), (0, v2), (9, 0), (9, 0), (9, 0)] [] X := rfl
theorem k_CC_washedAt {d : Nat} {v0 v1 v2 : Int} {X : pz_X} : pz_cal (d + 1) 166 [(2, v0), (0, v1), (0, v2)] X = pz_p bl_CC_washedAt (pz_cal d) 0 0 0 [] [(2, v0), (0, v1), (0, v2), (9, 0)] [] X := rfl
theorem k_CC_see {d : Nat} {v0 v1 v2 v3 : Int} {X : pz_X} : pz_cal (d + 1) 167 [(2, v0), (0, v1), (0, v2), (0, v3)] X = pz_p bl_CC_see (pz_cal d) 0 0 0 [] [(2, v0), (0, v1), (0, v2), (0, v3)] [] X := rfl
theorem k_CC_guess {d : Nat} {v0 v1 : Int} {X : pz_X} : pz_cal (d + 1) 168 [(2, v0), (0, v1)] X = pz_p bl_CC_guess (pz_cal d) 0 0 0 [] [(2, v0), (0, v1), (9, 0), (9, 0), (9, 0), (9, 0), (9, 0)] [] X := rfl
theorem k_CC_partsSeen {d : Nat} {v0 v1 v2 : Int} {X : pz_X} : pz_cal (d + 1) 169 [(2, v0), (0, v1), (0, v2)] X = pz_p bl_CC_partsSeen (pz_cal d) 0 0 0 [] [(2, v0), (0, v1), (0, v2), (9, 0), (9, 0)] [] X := rfl
theorem k_CC_drank {d : Nat} {v0 v1 : Int} {X : pz_X} : pz_cal (d + 1) 170 [(2, v0), (0, v1)] X = pz_p bl_CC_drank (pz_cal d) 0 0 0 [] [(2, v0), (0, v1), (9, 0), (9, 0), (9, 0), (9, 0)] [] X := rfl
theorem k_CC_possibleBy {d : Nat} {v0 v1 : Int} {X : pz_X} : pz_cal (d + 1) 171 [(2, v0), (0, v1)] X = pz_p bl_CC_possibleBy (pz_cal d) 0 0 0 [] [(2, v0), (0, v1), (9, 0), (9, 0)] [] X := rfl
theorem k_CC_canBe {d : Nat} {v0 v1 v2 : Int} {X : pz_X} : pz_cal (d + 1) 172 [(2, v0), (0, v1), (0, v2)] X = pz_p bl_CC_canBe (pz_cal d) 0 0 0 [] [(2, v0), (0, v1), (0, v2), (9, 0)] [] X := rfl
theorem k_CC_isDrunkBy {d : Nat} {v0 v1 v2 v3 : Int} {X : pz_X} : pz_cal (d + 1) 173 [(2, v0), (0, v1), (0, v2), (0, v3)] X = pz_p bl_CC_isDrunkBy (pz_cal d) 0 0 0 [] [(2, v0), (0, v1), (0, v2), (0, v3), (9, 0), (9, 0)] [] X := rfl
theorem k_CC_sure {d : Nat} {v0 : Int} {X : pz_X} : pz_cal (d + 1) 174 [(2, v0)] X = pz_p bl_CC_sure (pz_cal d) 0 0 0 [] [(2, v0), (9, 0), (9, 0), (9, 0), (9, 0)] [] X := rfl
theorem k_CC_fits {d : Nat} {v0 v1 : Int} {X : pz_X} : pz_cal (d + 1) 175 [(2, v0), (0, v1)] X = pz_p bl_CC_fits (pz_cal d) 0 0 0 [] [(2, v0), (0, v1), (9, 0), (9, 0), (9, 0), (9, 0)] [] X := rfl
theorem k_CC_fitting {d : Nat} {v0 v1 : Int} {X : pz_X} : pz_cal (d + 1) 176 [(2, v0), (0, v1)] X = pz_p bl_CC_fitting (pz_cal d) 0 0 0 [] [(2, v0), (0, v1), (9, 0), (9, 0), (9, 0), (9, 0), (9, 0)] [] X := rfl
theorem k_CC_cat {d : Nat} {v0 v1 v2 : Int} {X : pz_X} : pz_cal (d + 1) 177 [(2, v0), (0, v1), (0, v2)] X = pz_p bl_CC_cat (pz_cal d) 0 0 0 [] [(2, v0), (0, v1), (0, v2)] [] X := rfl
theorem k_Mo_init {d : Nat} {v0 : Int} {X : pz_X} : pz_cal (d + 1) 178 [(2, v0)] X = pz_p bl_Mo_init (pz_cal d) 30 17015 0 [] [(2, v0)] [] X := rfl
theorem k_Mo_thrown {d : Nat} {v0 : Int} {X : pz_X} : pz_cal (d + 1) 179 [(2, v0)] X = pz_p bl_Mo_thrown (pz_cal d) 0 0 0 [] [(2, v0)] [] X := rfl
theorem k_Mo_feed {d : Nat} {v0 v1 v2 v3 v4 v5 : Int} {X : pz_X} : pz_cal (d + 1) 180 [(2, v0), (0, v1), (0, v2), (0, v3), (0, v4), (0, v5)] X = pz_p bl_Mo_feed (pz_cal d) 0 0 0 [] [(2, v0), (0, v1), (0, v2), (0, v3), (0, v4), (0, v5), (9, 0), (9, 0), (9, 0)] [] X := rfl
theorem k_Mo_byteOf {d : Nat} {v0 v1 v2 v3 v4 v5 : Int} {X : pz_X} : pz_cal (d + 1) 181 [(0, v0), (0, v1), (0, v2), (0, v3), (0, v4), (0, v5)] X = pz_p bl_Mo_byteOf (pz_cal d) 0 0 0 [] [(0, v0), (0, v1), (0, v2), (0, v3), (0, v4), (0, v5), (9, 0)] [] X := rfl
theorem k_Mo_end {d : Nat} {v0 v1 : Int} {X : pz_X} : pz_cal (d + 1) 182 [(2, v0), (0, v1)] X = pz_p bl_Mo_end (pz_cal d) 0 0 0 [] [(2, v0), (0, v1)] [] X := rfl
theorem k_Mo_fault {d : Nat} {v0 v1 : Int} {X : pz_X} : pz_cal (d + 1) 183 [(2, v0), (0, v1)] X = pz_p bl_Mo_fault (pz_cal d) 0 0 0 [] [(2, v0), (0, v1)] [] X := rfl
theorem k_Mo_readCourt {d : Nat} {v0 : Int} {X : pz_X} : pz_cal (d + 1) 184 [(2, v0)] X = pz_p bl_Mo_readCourt (pz_cal d) 0 0 0 [] [(2, v0), (9, 0), (9, 0), (9, 0)] [] X := rfl
theorem k_Mo_usual {d : Nat} {v0 v1 : Int} {X : pz_X} : pz_cal (d + 1) 185 [(0, v0), (0, v1)] X = pz_p bl_Mo_usual (pz_cal d) 0 0 0 [] [(0, v0), (0, v1)] [] X := rfl
theorem k_Mo_look {d : Nat} {v0 : Int} {X : pz_X} : pz_cal (d + 1) 186 [(2, v0)] X = pz_p bl_Mo_look (pz_cal d) 0 0 0 [] [(2, v0)] [] X := rfl
theorem k_Mo_here {d : Nat} {v0 : Int} {X : pz_X} : pz_cal (d + 1) 187 [(2, v0)] X = pz_p bl_Mo_here (pz_cal d) 0 0 0 [] [(2, v0)] [] X := rfl
theorem k_Mo_items {d : Nat} {v0 v1 v2 v3 v4 : Int} {X : pz_X} : pz_cal (d + 1) 188 [(2, v0), (0, v1), (2, v2), (0, v3), (0, v4)] X = pz_p bl_Mo_items (pz_cal d) 0 0 0 [] [(2, v0), (0, v1), (2, v2), (0, v3), (0, v4), (9, 0), (9, 0)] [] X := rfl
theorem k_Mo_itemOf {d : Nat} {v0 v1 : Int} {X : pz_X} : pz_cal (d + 1) 189 [(0, v0), (0, v1)] X = pz_p bl_Mo_itemOf (pz_cal d) 0 0 0 [] [(0, v0), (0, v1)] [] X := rfl
theorem k_Mo_deedOf {d : Nat} {v0 : Int} {X : pz_X} : pz_cal (d + 1) 190 [(0, v0)] X = pz_p bl_Mo_deedOf (pz_cal d) 0 0 0 [] [(0, v0)] [] X := rfl
theorem k_Mo_has {d : Nat} {v0 v1 : Int} {X : pz_X} : pz_cal (d + 1) 191 [(0, v0), (0, v1)] X = pz_p bl_Mo_has (pz_cal d) 0 0 0 [] [(0, v0), (0, v1)] [] X := rfl
theorem k_Mo_highest {d : Nat} {v0 v1 : Int} {X : pz_X} : pz_cal (d + 1) 192 [(0, v0), (0, v1)] X = pz_p bl_Mo_highest (pz_cal d) 0 0 0 [] [(0, v0), (0, v1)] [] X := rfl
theorem k_Mo_number {d : Nat} {v0 v1 : Int} {X : pz_X} : pz_cal (d + 1) 193 [(2, v0), (0, v1)] X = pz_p bl_Mo_number (pz_cal d) 0 0 0 [] [(2, v0), (0, v1), (9, 0)] [] X := rfl
theorem k_Mo_isDigit {d : Nat} {v0 : Int} {X : pz_X} : pz_cal (d + 1) 194 [(0, v0)] X = pz_p bl_Mo_isDigit (pz_cal d) 0 0 0 [] [(0, v0)] [] X := rfl
theorem k_Mo_bad {d : Nat} {v0 : Int} {X : pz_X} : pz_cal (d + 1) 195 [(2, v0)] X = pz_p bl_Mo_bad (pz_cal d) 0 0 0 [] [(2, v0)] [] X := rfl
theorem k_Mo_readLaw {d : Nat} {v0 v1 : Int} {X : pz_X} : pz_cal (d + 1) 196 [(2, v0), (0, v1)] X = pz_p bl_Mo_readLaw (pz_cal d) 0 0 0 [] [(2, v0), (0, v1)] [] X := rfl
theorem k_Mo_open {d : Nat} {v0 v1 : Int} {X : pz_X} : pz_cal (d + 1) 197 [(2, v0), (0, v1)] X = pz_p bl_Mo_open (pz_cal d) 0 0 0 [] [(2, v0), (0, v1)] [] X := rfl
theorem k_Mo_clause {d : Nat} {v0 : Int} {X : pz_X} : pz_cal (d + 1) 198 [(2, v0)] X = pz_p bl_Mo_clause (pz_cal d) 0 0 0 [] [(2, v0), (9, 0), (9, 0)] [] X := rfl
theorem k_Mo_condition {d : Nat} {v0 : Int} {X : pz_X} : pz_cal (d + 1) 199 [(2, v0)] X = pz_p bl_Mo_condition (pz_cal d) 0 0 0 [] [(2, v0)] [] X := rfl
theorem k_Mo_unit {d : Nat} {v0 : Int} {X : pz_X} : pz_cal (d + 1) 200 [(2, v0)] X = pz_p bl_Mo_unit (pz_cal d) 0 0 0 [] [(2, v0), (9, 0)] [] X := rfl
theorem k_Mo_opens {d : Nat} {v0 : Int} {X : pz_X} : pz_cal (d + 1) 201 [(2, v0)] X = pz_p bl_Mo_opens (pz_cal d) 0 0 0 [] [(2, v0)] [] X := rfl
theorem k_Mo_put {d : Nat} {v0 v1 v2 : Int} {X : pz_X} : pz_cal (d + 1) 202 [(2, v0), (0, v1), (0, v2)] X = pz_p bl_Mo_put (pz_cal d) 0 0 0 [] [(2, v0), (0, v1), (0, v2)] [] X := rfl
theorem k_Mo_closes {d : Nat} {v0 v1 : Int} {X : pz_X} : pz_cal (d + 1) 203 [(2, v0), (0, v1)] X = pz_p bl_Mo_closes (pz_cal d) 0 0 0 [] [(2, v0), (0, v1)] [] X := rfl
theorem k_Mo_sum {d : Nat} {v0 : Int} {X : pz_X} : pz_cal (d + 1) 204 [(2, v0)] X = pz_p bl_Mo_sum (pz_cal d) 0 0 0 [] [(2, v0), (9, 0)] [] X := rfl
theorem k_Mo_term {d : Nat} {v0 : Int} {X : pz_X} : pz_cal (d + 1) 205 [(2, v0)] X = pz_p bl_Mo_term (pz_cal d) 0 0 0 [] [(2, v0), (9, 0)] [] X := rfl
theorem k_Mo_atom {d : Nat} {v0 : Int} {X : pz_X} : pz_cal (d + 1) 206 [(2, v0)] X = pz_p bl_Mo_atom (pz_cal d) 0 0 0 [] [(2, v0), (9, 0)] [] X := rfl
theorem k_Mo_plainNumber {d : Nat} {v0 : Int} {X : pz_X} : pz_cal (d + 1) 207 [(2, v0)] X = pz_p bl_Mo_plainNumber (pz_cal d) 0 0 0 [] [(2, v0), (9, 0), (9, 0)] [] X := rfl
theorem k_Mo_letterOf {d : Nat} {v0 : Int} {X : pz_X} : pz_cal (d + 1) 208 [(0, v0)] X = pz_p bl_Mo_letterOf (pz_cal d) 0 0 0 [] [(0, v0)] [] X := rfl
theorem k_Mo_compare {d : Nat} {v0 : Int} {X : pz_X} : pz_cal (d + 1) 209 [(2, v0)] X = pz_p bl_Mo_compare (pz_cal d) 0 0 0 [] [(2, v0), (9, 0)] [] X := rfl
theorem k_Mo_isSign {d : Nat} {v0 : Int} {X : pz_X} : pz_cal (d + 1) 210 [(0, v0)] X = pz_p bl_Mo_isSign (pz_cal d) 0 0 0 [] [(0, v0)] [] X := rfl
theorem k_Mo_goOnAnd {d : Nat} {v0 : Int} {X : pz_X} : pz_cal (d + 1) 211 [(2, v0)] X = pz_p bl_Mo_goOnAnd (pz_cal d) 0 0 0 [] [(2, v0)] [] X := rfl
theorem k_Mo_goOnOr {d : Nat} {v0 : Int} {X : pz_X} : pz_cal (d + 1) 212 [(2, v0)] X = pz_p bl_Mo_goOnOr (pz_cal d) 0 0 0 [] [(2, v0)] [] X := rfl
theorem k_Mo_atEnd {d : Nat} {v0 : Int} {X : pz_X} : pz_cal (d + 1) 213 [(2, v0)] X = pz_p bl_Mo_atEnd (pz_cal d) 0 0 0 [] [(2, v0)] [] X := rfl
theorem k_Mo_text {d : Nat} {v0 v1 : Int} {X : pz_X} : pz_cal (d + 1) 214 [(2, v0), (0, v1)] X = pz_p bl_Mo_text (pz_cal d) 0 0 0 [] [(2, v0), (0, v1)] [] X := rfl
theorem k_Mo_takeCourt {d : Nat} {v0 : Int} {X : pz_X} : pz_cal (d + 1) 215 [(2, v0)] X = pz_p bl_Mo_takeCourt (pz_cal d) 0 0 0 [] [(2, v0), (9, 0), (9, 0)] [] X := rfl
theorem k_Mo_bench {d : Nat} {v0 v1 : Int} {X : pz_X} : pz_cal (d + 1) 216 [(2, v0), (0, v1)] X = pz_p bl_Mo_bench (pz_cal d) 0 0 0 [] [(2, v0), (0, v1)] [] X := rfl
theorem k_Mo_in {d : Nat} {v0 v1 v2 : Int} {X : pz_X} : pz_cal (d + 1) 217 [(0, v0), (0, v1), (0, v2)] X = pz_p bl_Mo_in (pz_cal d) 0 0 0 [] [(0, v0), (0, v1), (0, v2)] [] X := rfl
theorem k_Mo_cat {d : Nat} {v0 v1 v2 : Int} {X : pz_X} : pz_cal (d + 1) 218 [(2, v0), (0, v1), (0, v2)] X = pz_p bl_Mo_cat (pz_cal d) 0 0 0 [] [(2, v0), (0, v1), (0, v2)] [] X := rfl
theorem k_Mo_isCat {d : Nat} {v0 v1 : Int} {X : pz_X} : pz_cal (d + 1) 219 [(2, v0), (0, v1)] X = pz_p bl_Mo_isCat (pz_cal d) 0 0 0 [] [(2, v0), (0, v1)] [] X := rfl
theorem k_Mo_accused {d : Nat} {v0 v1 v2 : Int} {X : pz_X} : pz_cal (d + 1) 220 [(2, v0), (0, v1), (0, v2)] X = pz_p bl_Mo_accused (pz_cal d) 0 0 0 [] [(2, v0), (0, v1), (0, v2)] [] X := rfl
theorem k_Mo_isAccused {d : Nat} {v0 v1 : Int} {X : pz_X} : pz_cal (d + 1) 221 [(2, v0), (0, v1)] X = pz_p bl_Mo_isAccused (pz_cal d) 0 0 0 [] [(2, v0), (0, v1)] [] X := rfl
theorem k_Mo_law {d : Nat} {v0 v1 : Int} {X : pz_X} : pz_cal (d + 1) 222 [(2, v0), (0, v1)] X = pz_p bl_Mo_law (pz_cal d) 0 0 0 [] [(2, v0), (0, v1)] [] X := rfl
theorem k_Mo_mood {d : Nat} {v0 v1 v2 v3 v4 : Int} {X : pz_X} : pz_cal (d + 1) 223 [(2, v0), (0, v1), (0, v2), (0, v3), (0, v4)] X = pz_p bl_Mo_mood (pz_cal d) 0 0 0 [] [(2, v0), (0, v1), (0, v2), (0, v3), (0, v4)] [] X := rfl
theorem k_Mo_isDeed {d : Nat} {v0 : Int} {X : pz_X} : pz_cal (d + 1) 224 [(0, v0)] X = pz_p bl_Mo_isDeed (pz_cal d) 0 0 0 [] [(0, v0)] [] X := rfl
theorem k_Mo_isSide {d : Nat} {v0 : Int} {X : pz_X} : pz_cal (d + 1) 225 [(0, v0)] X = pz_p bl_Mo_isSide (pz_cal d) 0 0 0 [] [(0, v0)] [] X := rfl
theorem k_Mo_moodOf {d : Nat} {v0 v1 v2 v3 v4 : Int} {X : pz_X} : pz_cal (d + 1) 226 [(2, v0), (0, v1), (0, v2), (0, v3), (0, v4)] X = pz_p bl_Mo_moodOf (pz_cal d) 0 0 0 [] [(2, v0), (0, v1), (0, v2), (0, v3), (0, v4), (9, 0)] [] X := rfl
theorem k_Mo_plainMood {d : Nat} {v0 v1 v2 v3 v4 : Int} {X : pz_X} : pz_cal (d + 1) 227 [(2, v0), (0, v1), (0, v2), (0, v3), (0, v4)] X = pz_p bl_Mo_plainMood (pz_cal d) 0 0 0 [] [(2, v0), (0, v1), (0, v2), (0, v3), (0, v4), (9, 0)] [] X := rfl
theorem k_Mo_worthOf {d : Nat} {v0 v1 : Int} {X : pz_X} : pz_cal (d + 1) 228 [(2, v0), (0, v1)] X = pz_p bl_Mo_worthOf (pz_cal d) 0 0 0 [] [(2, v0), (0, v1), (9, 0)] [] X := rfl
theorem k_Mo_workOut {d : Nat} {v0 v1 v2 v3 : Int} {X : pz_X} : pz_cal (d + 1) 229 [(2, v0), (0, v1), (0, v2), (0, v3)] X = pz_p bl_Mo_workOut (pz_cal d) 0 0 0 [] [(2, v0), (0, v1), (0, v2), (0, v3), (9, 0), (9, 0)] [] X := rfl
theorem k_Mo_worked {d : Nat} {v0 v1 v2 : Int} {X : pz_X} : pz_cal (d + 1) 230 [(0, v0), (1, v1), (1, v2)] X = pz_p bl_Mo_worked (pz_cal d) 0 0 0 [] [(0, v0), (1, v1), (9, 0), (1, v2), (9, 0)] [] X := rfl
theorem k_Mo_bounded {d : Nat} {v0 : Int} {X : pz_X} : pz_cal (d + 1) 231 [(1, v0)] X = pz_p bl_Mo_bounded (pz_cal d) 0 0 0 [] [(1, v0), (9, 0)] [] X := rfl
theorem k_Mo_odds {d : Nat} {v0 v1 v2 v3 v4 : Int} {X : pz_X} : pz_cal (d + 1) 232 [(2, v0), (0, v1), (0, v2), (0, v3), (0, v4)] X = pz_p bl_Mo_odds (pz_cal d) 0 0 0 [] [(2, v0), (0, v1), (0, v2), (0, v3), (0, v4)] [] X := rfl
theorem k_Mo_oddsOf {d : Nat} {v0 v1 v2 v3 v4 : Int} {X : pz_X} : pz_cal (d + 1) 233 [(2, v0), (0, v1), (0, v2), (0, v3), (0, v4)] X = pz_p bl_Mo_oddsOf (pz_cal d) 0 0 0 [] [(2, v0), (0, v1), (0, v2), (0, v3), (0, v4)] [] X := rfl
theorem k_Mo_layOdds {d : Nat} {v0 v1 v2 v3 : Int} {X : pz_X} : pz_cal (d + 1) 234 [(2, v0), (0, v1), (0, v2), (0, v3)] X = pz_p bl_Mo_layOdds (pz_cal d) 0 0 0 [] [(2, v0), (0, v1), (0, v2), (0, v3), (9, 0), (9, 0), (9, 0), (9, 0), (9, 0)] [] X := rfl
theorem k_Mo_held {d : Nat} {v0 v1 v2 v3 : Int} {X : pz_X} : pz_cal (d + 1) 235 [(2, v0), (0, v1), (0, v2), (0, v3)] X = pz_p bl_Mo_held (pz_cal d) 0 0 0 [] [(2, v0), (0, v1), (0, v2), (0, v3)] [] X := rfl
theorem k_Mo_isSet {d : Nat} {v0 v1 : Int} {X : pz_X} : pz_cal (d + 1) 236 [(2, v0), (0, v1)] X = pz_p bl_Mo_isSet (pz_cal d) 0 0 0 [] [(2, v0), (0, v1), (9, 0)] [] X := rfl
theorem k_Mo_isSitting {d : Nat} {v0 v1 : Int} {X : pz_X} : pz_cal (d + 1) 237 [(2, v0), (0, v1)] X = pz_p bl_Mo_isSitting (pz_cal d) 0 0 0 [] [(2, v0), (0, v1)] [] X := rfl
theorem k_Mo_heldBy {d : Nat} {v0 v1 v2 v3 : Int} {X : pz_X} : pz_cal (d + 1) 238 [(2, v0), (0, v1), (0, v2), (0, v3)] X = pz_p bl_Mo_heldBy (pz_cal d) 0 0 0 [] [(2, v0), (0, v1), (0, v2), (0, v3)] [] X := rfl
theorem k_Mo_layParts {d : Nat} {v0 v1 v2 v3 : Int} {X : pz_X} : pz_cal (d + 1) 239 [(2, v0), (0, v1), (0, v2), (0, v3)] X = pz_p bl_Mo_layParts (pz_cal d) 0 0 0 [] [(2, v0), (0, v1), (0, v2), (0, v3), (9, 0), (9, 0)] [] X := rfl
theorem k_Mo_spread {d : Nat} {v0 v1 : Int} {X : pz_X} : pz_cal (d + 1) 240 [(2, v0), (0, v1)] X = pz_p bl_Mo_spread (pz_cal d) 0 0 0 [] [(2, v0), (0, v1), (9, 0), (9, 0), (9, 0), (9, 0), (9, 0)] [] X := rfl
theorem k_Mo_partsFrom {d : Nat} {v0 v1 : Int} {X : pz_X} : pz_cal (d + 1) 241 [(2, v0), (0, v1)] X = pz_p bl_Mo_partsFrom (pz_cal d) 0 0 0 [] [(2, v0), (0, v1), (9, 0), (9, 0), (9, 0)] [] X := rfl
theorem k_Mo_right {d : Nat} {v0 v1 v2 : Int} {X : pz_X} : pz_cal (d + 1) 242 [(2, v0), (0, v1), (0, v2)] X = pz_p bl_Mo_right (pz_cal d) 0 0 0 [] [(2, v0), (0, v1), (0, v2)] [] X := rfl
theorem k_Mo_rightBy {d : Nat} {v0 v1 v2 : Int} {X : pz_X} : pz_cal (d + 1) 243 [(2, v0), (0, v1), (0, v2)] X = pz_p bl_Mo_rightBy (pz_cal d) 0 0 0 [] [(2, v0), (0, v1), (0, v2)] [] X := rfl
theorem k_Mo_rightOf {d : Nat} {v0 v1 v2 v3 : Int} {X : pz_X} : pz_cal (d + 1) 244 [(2, v0), (0, v1), (1, v2), (1, v3)] X = pz_p bl_Mo_rightOf (pz_cal d) 0 0 0 [] [(2, v0), (0, v1), (1, v2), (9, 0), (1, v3), (9, 0)] [] X := rfl
theorem k_Mo_fish {d : Nat} {v0 v1 : Int} {X : pz_X} : pz_cal (d + 1) 245 [(2, v0), (0, v1)] X = pz_p bl_Mo_fish (pz_cal d) 0 0 0 [] [(2, v0), (0, v1)] [] X := rfl
theorem k_Mo_keep {d : Nat} {v0 : Int} {X : pz_X} : pz_cal (d + 1) 246 [(2, v0)] X = pz_p bl_Mo_keep (pz_cal d) 0 0 0 [] [(2, v0), (9, 0)] [] X := rfl
theorem k_Mo_nights {d : Nat} {v0 v1 : Int} {X : pz_X} : pz_cal (d + 1) 247 [(2, v0), (0, v1)] X = pz_p bl_Mo_nights (pz_cal d) 0 0 0 [] [(2, v0), (0, v1), (9, 0)] [] X := rfl
theorem k_Mo_heat {d : Nat} {v0 v1 : Int} {X : pz_X} : pz_cal (d + 1) 248 [(2, v0), (0, v1)] X = pz_p bl_Mo_heat (pz_cal d) 0 0 0 [] [(2, v0), (0, v1)] [] X := rfl
theorem k_Mo_told {d : Nat} {v0 v1 v2 : Int} {X : pz_X} : pz_cal (d + 1) 249 [(2, v0), (0, v1), (0, v2)] X = pz_p bl_Mo_told (pz_cal d) 0 0 0 [] [(2, v0), (0, v1), (0, v2)] [] X := rfl
theorem k_Mo_milk {d : Nat} {v0 v1 v2 : Int} {X : pz_X} : pz_cal (d + 1) 250 [(2, v0), (0, v1), (0, v2)] X = pz_p bl_Mo_milk (pz_cal d) 0 0 0 [] [(2, v0), (0, v1), (0, v2)] [] X := rfl
theorem k_Mo_retire {d : Nat} {v0 v1 v2 : Int} {X : pz_X} : pz_cal (d + 1) 251 [(2, v0), (0, v1), (0, v2)] X = pz_p bl_Mo_retire (pz_cal d) 0 0 0 [] [(2, v0), (0, v1), (0, v2)] [] X := rfl
theorem k_Mo_hear {d : Nat} {v0 v1 v2 v3 : Int} {X : pz_X} : pz_cal (d + 1) 252 [(2, v0), (0, v1), (0, v2), (1, v3)] X = pz_p bl_Mo_hear (pz_cal d) 0 0 0 [] [(2, v0), (0, v1), (0, v2), (1, v3), (9, 0), (9, 0), (9, 0), (9, 0)] [] X := rfl
theorem k_Mo_draw {d : Nat} {v0 v1 : Int} {X : pz_X} : pz_cal (d + 1) 253 [(2, v0), (0, v1)] X = pz_p bl_Mo_draw (pz_cal d) 0 0 0 [] [(2, v0), (0, v1)] [] X := rfl
theorem k_Mo_drawDeed {d : Nat} {v0 : Int} {X : pz_X} : pz_cal (d + 1) 254 [(2, v0)] X = pz_p bl_Mo_drawDeed (pz_cal d) 0 0 0 [] [(2, v0), (9, 0), (9, 0), (9, 0), (9, 0)] [] X := rfl
theorem k_Mo_note {d : Nat} {v0 v1 v2 v3 : Int} {X : pz_X} : pz_cal (d + 1) 255 [(2, v0), (0, v1), (0, v2), (0, v3)] X = pz_p bl_Mo_note (pz_cal d) 0 0 0 [] [(2, v0), (0, v1), (0, v2), (0, v3), (9, 0)] [] X := rfl
theorem k_Mo_undo {d : Nat} {v0 : Int} {X : pz_X} : pz_cal (d + 1) 256 [(2, v0)] X = pz_p bl_Mo_undo (pz_cal d) 0 0 0 [] [(2, v0), (9, 0)] [] X := rfl
theorem k_Mo_log {d : Nat} {v0 v1 v2 : Int} {X : pz_X} : pz_cal (d + 1) 257 [(2, v0), (0, v1), (0, v2)] X = pz_p bl_Mo_log (pz_cal d) 0 0 0 [] [(2, v0), (0, v1), (0, v2)] [] X := rfl
theorem k_Mo_logAt {d : Nat} {v0 v1 v2 : Int} {X : pz_X} : pz_cal (d + 1) 258 [(2, v0), (0, v1), (0, v2)] X = pz_p bl_Mo_logAt (pz_cal d) 0 0 0 [] [(2, v0), (0, v1), (0, v2)] [] X := rfl
theorem k_Mo_ask {d : Nat} {v0 v1 v2 v3 : Int} {X : pz_X} : pz_cal (d + 1) 259 [(2, v0), (0, v1), (0, v2), (0, v3)] X = pz_p bl_Mo_ask (pz_cal d) 0 0 0 [] [(2, v0), (0, v1), (0, v2), (0, v3), (9, 0), (9, 0), (9, 0), (9, 0)] [] X := rfl
theorem k_Mo_three {d : Nat} {v0 v1 : Int} {X : pz_X} : pz_cal (d + 1) 260 [(2, v0), (0, v1)] X = pz_p bl_Mo_three (pz_cal d) 0 0 0 [] [(2, v0), (0, v1), (9, 0), (9, 0), (9, 0), (9, 0)] [] X := rfl
theorem k_Mo_spare {d : Nat} {v0 v1 v2 : Int} {X : pz_X} : pz_cal (d + 1) 261 [(2, v0), (0, v1), (0, v2)] X = pz_p bl_Mo_spare (pz_cal d) 0 0 0 [] [(2, v0), (0, v1), (0, v2), (9, 0), (9, 0), (9, 0), (9, 0), (9, 0)] [] X := rfl
theorem k_Mo_sitting {d : Nat} {v0 : Int} {X : pz_X} : pz_cal (d + 1) 262 [(2, v0)] X = pz_p bl_Mo_sitting (pz_cal d) 0 0 0 [] [(2, v0), (9, 0), (9, 0)] [] X := rfl
theorem k_Mo_mercy {d : Nat} {v0 v1 v2 v3 v4 : Int} {X : pz_X} : pz_cal (d + 1) 263 [(2, v0), (0, v1), (0, v2), (0, v3), (0, v4)] X = pz_p bl_Mo_mercy (pz_cal d) 0 0 0 [] [(2, v0), (0, v1), (0, v2), (0, v3), (0, v4), (9, 0), (9, 0), (9, 0), (9, 0)] [] X := rfl
theorem k_Mo_putFish {d : Nat} {v0 v1 v2 v3 : Int} {X : pz_X} : pz_cal (d + 1) 264 [(2, v0), (0, v1), (0, v2), (0, v3)] X = pz_p bl_Mo_putFish (pz_cal d) 0 0 0 [] [(2, v0), (0, v1), (0, v2), (0, v3), (9, 0), (9, 0), (9, 0)] [] X := rfl
theorem k_Mo_appeals {d : Nat} {v0 v1 v2 v3 : Int} {X : pz_X} : pz_cal (d + 1) 265 [(2, v0), (0, v1), (0, v2), (0, v3)] X = pz_p bl_Mo_appeals (pz_cal d) 0 0 0 [] [(2, v0), (0, v1), (0, v2), (0, v3), (9, 0), (9, 0), (9, 0), (9, 0)] [] X := rfl
theorem k_Mo_alike {d : Nat} {v0 v1 v2 v3 v4 : Int} {X : pz_X} : pz_cal (d + 1) 266 [(2, v0), (0, v1), (0, v2), (0, v3), (0, v4)] X = pz_p bl_Mo_alike (pz_cal d) 0 0 0 [] [(2, v0), (0, v1), (0, v2), (0, v3), (0, v4), (9, 0), (9, 0), (9, 0)] [] X := rfl
theorem k_Mo_rests {d : Nat} {v0 v1 v2 : Int} {X : pz_X} : pz_cal (d + 1) 267 [(2, v0), (0, v1), (0, v2)] X = pz_p bl_Mo_rests (pz_cal d) 0 0 0 [] [(2, v0), (0, v1), (0, v2), (9, 0), (9, 0), (9, 0)] [] X := rfl
theorem k_Mo_isRest {d : Nat} {v0 v1 v2 v3 : Int} {X : pz_X} : pz_cal (d + 1) 268 [(2, v0), (0, v1), (0, v2), (0, v3)] X = pz_p bl_Mo_isRest (pz_cal d) 0 0 0 [] [(2, v0), (0, v1), (0, v2), (0, v3), (9, 0), (9, 0), (9, 0)] [] X := rfl
theorem k_Mo_washed {d : Nat} {v0 v1 v2 v3 : Int} {X : pz_X} : pz_cal (d + 1) 269 [(2, v0), (0, v1), (0, v2), (0, v3)] X = pz_p bl_Mo_washed (pz_cal d) 0 0 0 [] [(2, v0), (0, v1), (0, v2), (0, v3), (9, 0), (9, 0)] [] X := rfl
theorem k_Mo_surely {d : Nat} {v0 v1 v2 : Int} {X : pz_X} : pz_cal (d + 1) 270 [(2, v0), (0, v1), (0, v2)] X = pz_p bl_Mo_surely (pz_cal d) 0 0 0 [] [(2, v0), (0, v1), (0, v2), (9, 0), (9, 0)] [] X := rfl
theorem k_Mo_noisy {d : Nat} {v0 v1 v2 : Int} {X : pz_X} : pz_cal (d + 1) 271 [(2, v0), (0, v1), (0, v2)] X = pz_p bl_Mo_noisy (pz_cal d) 0 0 0 [] [(2, v0), (0, v1), (0, v2), (9, 0), (9, 0), (9, 0), (9, 0)] [] X := rfl
theorem k_Mo_mean {d : Nat} {v0 v1 v2 v3 : Int} {X : pz_X} : pz_cal (d + 1) 272 [(2, v0), (0, v1), (0, v2), (0, v3)] X = pz_p bl_Mo_mean (pz_cal d) 0 0 0 [] [(2, v0), (0, v1), (0, v2), (0, v3), (9, 0), (9, 0), (9, 0)] [] X := rfl
theorem k_Mo_likely {d : Nat} {v0 v1 v2 v3 : Int} {X : pz_X} : pz_cal (d + 1) 273 [(2, v0), (0, v1), (0, v2), (0, v3)] X = pz_p bl_Mo_likely (pz_cal d) 0 0 0 [] [(2, v0), (0, v1), (0, v2), (0, v3)] [] X := rfl
theorem k_Mo_likelyOf {d : Nat} {v0 v1 v2 v3 : Int} {X : pz_X} : pz_cal (d + 1) 274 [(2, v0), (0, v1), (0, v2), (0, v3)] X = pz_p bl_Mo_likelyOf (pz_cal d) 0 0 0 [] [(2, v0), (0, v1), (0, v2), (0, v3), (9, 0), (9, 0)] [] X := rfl
theorem k_Mo_quiet {d : Nat} {v0 v1 v2 v3 : Int} {X : pz_X} : pz_cal (d + 1) 275 [(2, v0), (0, v1), (0, v2), (0, v3)] X = pz_p bl_Mo_quiet (pz_cal d) 0 0 0 [] [(2, v0), (0, v1), (0, v2), (0, v3), (9, 0), (9, 0), (9, 0)] [] X := rfl
theorem k_Mo_bar {d : Nat} {v0 v1 v2 v3 : Int} {X : pz_X} : pz_cal (d + 1) 276 [(2, v0), (0, v1), (0, v2), (0, v3)] X = pz_p bl_Mo_bar (pz_cal d) 0 0 0 [] [(2, v0), (0, v1), (0, v2), (0, v3), (9, 0), (9, 0), (9, 0), (9, 0), (9, 0), (9, 0)] [] X := rfl
theorem k_Mo_moonlit {d : Nat} {v0 v1 v2 v3 : Int} {X : pz_X} : pz_cal (d + 1) 277 [(2, v0), (0, v1), (0, v2), (0, v3)] X = pz_p bl_Mo_moonlit (pz_cal d) 0 0 0 [] [(2, v0), (0, v1), (0, v2), (0, v3), (9, 0), (9, 0), (9, 0), (9, 0), (9, 0)] [] X := rfl
theorem k_Mo_brothers {d : Nat} {v0 v1 v2 v3 : Int} {X : pz_X} : pz_cal (d + 1) 278 [(2, v0), (0, v1), (0, v2), (0, v3)] X = pz_p bl_Mo_brothers (pz_cal d) 0 0 0 [] [(2, v0), (0, v1), (0, v2), (0, v3), (9, 0), (9, 0), (9, 0), (9, 0)] [] X := rfl
theorem k_Mo_heldAnyway {d : Nat} {v0 v1 v2 : Int} {X : pz_X} : pz_cal (d + 1) 279 [(2, v0), (0, v1), (0, v2)] X = pz_p bl_Mo_heldAnyway (pz_cal d) 0 0 0 [] [(2, v0), (0, v1), (0, v2)] [] X := rfl
theorem k_Mo_see {d : Nat} {v0 v1 v2 v3 : Int} {X : pz_X} : pz_cal (d + 1) 280 [(2, v0), (0, v1), (0, v2), (0, v3)] X = pz_p bl_Mo_see (pz_cal d) 0 0 0 [] [(2, v0), (0, v1), (0, v2), (0, v3)] [] X := rfl
theorem k_Mo_guess {d : Nat} {v0 v1 : Int} {X : pz_X} : pz_cal (d + 1) 281 [(2, v0), (0, v1)] X = pz_p bl_Mo_guess (pz_cal d) 0 0 0 [] [(2, v0), (0, v1), (9, 0), (9, 0), (9, 0), (9, 0)] [] X := rfl
theorem k_Mo_seenParts {d : Nat} {v0 v1 v2 : Int} {X : pz_X} : pz_cal (d + 1) 282 [(2, v0), (0, v1), (0, v2)] X = pz_p bl_Mo_seenParts (pz_cal d) 0 0 0 [] [(2, v0), (0, v1), (0, v2), (9, 0), (9, 0), (9, 0)] [] X := rfl
theorem k_Mo_drank {d : Nat} {v0 v1 : Int} {X : pz_X} : pz_cal (d + 1) 283 [(2, v0), (0, v1)] X = pz_p bl_Mo_drank (pz_cal d) 0 0 0 [] [(2, v0), (0, v1), (9, 0), (9, 0)] [] X := rfl
theorem k_Mo_couldDrink {d : Nat} {v0 v1 : Int} {X : pz_X} : pz_cal (d + 1) 284 [(2, v0), (0, v1)] X = pz_p bl_Mo_couldDrink (pz_cal d) 0 0 0 [] [(2, v0), (0, v1), (9, 0), (9, 0)] [] X := rfl
theorem k_Mo_couldBe {d : Nat} {v0 v1 v2 : Int} {X : pz_X} : pz_cal (d + 1) 285 [(2, v0), (0, v1), (0, v2)] X = pz_p bl_Mo_couldBe (pz_cal d) 0 0 0 [] [(2, v0), (0, v1), (0, v2), (9, 0)] [] X := rfl
theorem k_Mo_sure {d : Nat} {v0 : Int} {X : pz_X} : pz_cal (d + 1) 286 [(2, v0)] X = pz_p bl_Mo_sure (pz_cal d) 0 0 0 [] [(2, v0), (9, 0), (9, 0)] [] X := rfl
theorem k_Mo_fits {d : Nat} {v0 v1 : Int} {X : pz_X} : pz_cal (d + 1) 287 [(2, v0), (0, v1)] X = pz_p bl_Mo_fits (pz_cal d) 0 0 0 [] [(2, v0), (0, v1), (9, 0), (9, 0), (9, 0), (9, 0), (9, 0)] [] X := rfl
theorem k_Mo_fitting {d : Nat} {v0 : Int} {X : pz_X} : pz_cal (d + 1) 288 [(2, v0)] X = pz_p bl_Mo_fitting (pz_cal d) 0 0 0 [] [(2, v0), (9, 0), (9, 0)] [] X := rfl
theorem k_Mo_often {d : Nat} {v0 v1 v2 : Int} {X : pz_X} : pz_cal (d + 1) 289 [(2, v0), (0, v1), (0, v2)] X = pz_p bl_Mo_often (pz_cal d) 0 0 0 [] [(2, v0), (0, v1), (0, v2), (9, 0), (9, 0)] [] X := rfl
theorem k_Mo_harsh {d : Nat} {v0 : Int} {X : pz_X} : pz_cal (d + 1) 290 [(2, v0)] X = pz_p bl_Mo_harsh (pz_cal d) 0 0 0 [] [(2, v0), (9, 0), (9, 0), (9, 0), (9, 0), (9, 0)] [] X := rfl
theorem k_Mo_free {d : Nat} {v0 v1 : Int} {X : pz_X} : pz_cal (d + 1) 291 [(2, v0), (0, v1)] X = pz_p bl_Mo_free (pz_cal d) 0 0 0 [] [(2, v0), (0, v1), (9, 0), (9, 0), (9, 0)] [] X := rfl
theorem k_Mo_image {d : Nat} {v0 : Int} {X : pz_X} : pz_cal (d + 1) 292 [(2, v0)] X = pz_p bl_Mo_image (pz_cal d) 0 0 0 [] [(2, v0), (9, 0)] [] X := rfl
theorem k_Mo_back {d : Nat} {v0 : Int} {X : pz_X} : pz_cal (d + 1) 293 [(2, v0)] X = pz_p bl_Mo_back (pz_cal d) 0 0 0 [] [(2, v0), (9, 0)] [] X := rfl
theorem k_Mo_count {d : Nat} {v0 v1 : Int} {X : pz_X} : pz_cal (d + 1) 294 [(2, v0), (0, v1)] X = pz_p bl_Mo_count (pz_cal d) 0 0 0 [] [(2, v0), (0, v1)] [] X := rfl
theorem k_Jd_bitCount {d : Nat} {v0 : Int} {X : pz_X} : pz_cal (d + 1) 295 [(0, v0)] X = pz_p bl_Jd_bitCount (pz_cal d) 0 0 0 [] [(0, v0)] [] X := rfl
/-- the shapes of the cells once both objects are made -/
def pz_SH : List (Nat × Nat) := [(10, 17), (9, 4), (100, 240), (1, 3), (0, 1), (100, 144), (4, 3), (100, 240), (102, 4), (0, 1), (100, 144), (0, 1), (100, 144), (0, 1), (100, 144), (6, 3), (103, 40), (0, 1), (100, 144), (0, 1), (100, 144), (0, 1), (100, 144), (0, 1), (100, 144), (0, 1), (100, 144), (0, 1), (100, 144), (0, 1), (100, 144), (0, 1), (100, 144), (0, 1), (100, 144), (0, 1), (100, 144), (0, 1), (100, 144), (0, 1), (100, 144), (0, 1), (100, 144), (0, 1), (100, 144), (0, 1), (100, 144), (0, 1), (100, 144), (0, 1), (100, 144), (0, 1), (100, 144), (0, 1), (100, 144), (0, 1), (100, 144), (0, 1), (100, 144), (0, 1), (100, 144), (0, 1), (100, 144), (0, 1), (100, 144), (0, 1), (100, 144), (0, 1), (100, 144), (0, 1), (100, 144), (0, 1), (100, 144), (0, 1), (100, 144), (0, 1), (100, 144), (0, 1), (100, 144), (0, 1), (100, 144), (0, 1), (100, 144), (0, 1), (100, 144), (0, 1), (100, 144), (0, 1), (100, 144), (0, 1), (100, 144), (0, 1), (100, 144), (0, 1), (100, 144), (0, 1), (100, 144), (100, 16), (100, 16), (5, 5), (100, 8), (100, 4), (100, 4), (7, 3), (8, 5), (104, 9), (101, 73), (101, 73), (101, 73), (101, 73), (101, 73), (101, 73), (101, 73), (101, 73), (101, 73), (100, 9), (100, 64), (100, 16), (100, 4), (8, 5), (104, 9), (101, 73), (101, 73), (101, 73), (101, 73), (101, 73), (101, 73), (101, 73), (101, 73), (101, 73), (100, 9), (100, 64), (100, 16), (100, 4), (2, 1), (3, 3), (100, 240), (100, 40), (3, 3), (100, 240), (100, 40), (3, 3), (100, 240), (100, 40), (3, 3), (100, 240), (100, 40), (11, 50), (100, 240), (100, 2600), (100, 2600), (100, 5), (100, 5), (100, 700), (100, 700), (100, 700), (100, 8), (100, 80), (100, 7), (100, 48), (100, 18), (100, 4), (100, 32), (100, 6), (100, 6), (100, 213), (101, 4), (101, 80), (101, 80), (100, 8520), (100, 8), (101, 4), (101, 80), (100, 16), (100, 16), (100, 16), (100, 6), (100, 213), (101, 1)]
def pz_SS (L : Nat) : List (Nat × Nat) := [(112, 3), (110, 3), (110, 3), (112, 7), (110, 7), (110, 7), (112, 6), (110, 6), (110, 6), (112, 8), (110, L)]
theorem h_0 {ss : List (Nat × Nat)} {c : Nat × Nat × Nat} {M : pz_M} : pz_sh ((pz_SH, ss, c), M) 0 = some (10, 17) := rfl
theorem h_1 {ss : List (Nat × Nat)} {c : Nat × Nat × Nat} {M : pz_M} : pz_sh ((pz_SH, ss, c), M) 1 = some (9, 4) := rfl
theorem h_2 {ss : List (Nat × Nat)} {c : Nat × Nat × Nat} {M : pz_M} : pz_sh ((pz_SH, ss, c), M) 2 = some (100, 240) := rfl
theorem h_3 {ss : List (Nat × Nat)} {c : Nat × Nat × Nat} {M : pz_M} : pz_sh ((pz_SH, ss, c), M) 3 = some (1, 3) := rfl
theorem h_4 {ss : List (Nat × Nat)} {c : Nat × Nat × Nat} {M : pz_M} : pz_sh ((pz_SH, ss, c), M) 4 = some (0, 1) := rfl
theorem h_5 {ss : List (Nat × Nat)} {c : Nat × Nat × Nat} {M : pz_M} : pz_sh ((pz_SH, ss, c), M) 5 = some (100, 144) := rfl
theorem h_6 {ss : List (Nat × Nat)} {c : Nat × Nat × Nat} {M : pz_M} : pz_sh ((pz_SH, ss, c), M) 6 = some (4, 3) := rfl
theorem h_7 {ss : List (Nat × Nat)} {c : Nat × Nat × Nat} {M : pz_M} : pz_sh ((pz_SH, ss, c), M) 7 = some (100, 240) := rfl
theorem h_8 {ss : List (Nat × Nat)} {c : Nat × Nat × Nat} {M : pz_M} : pz_sh ((pz_SH, ss, c), M) 8 = some (102, 4) := rfl
theorem h_9 {ss : List (Nat × Nat)} {c : Nat × Nat × Nat} {M : pz_M} : pz_sh ((pz_SH, ss, c), M) 9 = some (0, 1) := rfl
theorem h_10 {ss : List (Nat × Nat)} {c : Nat × Nat × Nat} {M : pz_M} : pz_sh ((pz_SH, ss, c), M) 10 = some (100, 144) := rfl
theorem h_11 {ss : List (Nat × Nat)} {c : Nat × Nat × Nat} {M : pz_M} : pz_sh ((pz_SH, ss, c), M) 11 = some (0, 1) := rfl
theorem h_12 {ss : List (Nat × Nat)} {c : Nat × Nat × Nat} {M : pz_M} : pz_sh ((pz_SH, ss, c), M) 12 = some (100, 144) := rfl
theorem h_13 {ss : List (Nat × Nat)} {c : Nat × Nat × Nat} {M : pz_M} : pz_sh ((pz_SH, ss, c), M) 13 = some (0, 1) := rfl
theorem h_14 {ss : List (Nat × Nat)} {c : Nat × Nat × Nat} {M : pz_M} : pz_sh ((pz_SH, ss, c), M) 14 = some (100, 144) := rfl
theorem h_15 {ss : List (Nat × Nat)} {c : Nat × Nat × Nat} {M : pz_M} : pz_sh ((pz_SH, ss, c), M) 15 = some (6, 3) := rfl
theorem h_16 {ss : List (Nat × Nat)} {c : Nat × Nat × Nat} {M : pz_M} : pz_sh ((pz_SH, ss, c), M) 16 = some (103, 40) := rfl
theorem h_17 {ss : List (Nat × Nat)} {c : Nat × Nat × Nat} {M : pz_M} : pz_sh ((pz_SH, ss, c), M) 17 = some (0, 1) := rfl
theorem h_18 {ss : List (Nat × Nat)} {c : Nat × Nat × Nat} {M : pz_M} : pz_sh ((pz_SH, ss, c), M) 18 = some (100, 144) := rfl
theorem h_19 {ss : List (Nat × Nat)} {c : Nat × Nat × Nat} {M : pz_M} : pz_sh ((pz_SH, ss, c), M) 19 = some (0, 1) := rfl
theorem h_20 {ss : List (Nat × Nat)} {c : Nat × Nat × Nat} {M : pz_M} : pz_sh ((pz_SH, ss, c), M) 20 = some (100, 144) := rfl
theorem h_21 {ss : List (Nat × Nat)} {c : Nat × Nat × Nat} {M : pz_M} : pz_sh ((pz_SH, ss, c), M) 21 = some (0, 1) := rfl
theorem h_22 {ss : List (Nat × Nat)} {c : Nat × Nat × Nat} {M : pz_M} : pz_sh ((pz_SH, ss, c), M) 22 = some (100, 144) := rfl
theorem h_23 {ss : List (Nat × Nat)} {c : Nat × Nat × Nat} {M : pz_M} : pz_sh ((pz_SH, ss, c), M) 23 = some (0, 1) := rfl
theorem h_24 {ss : List (Nat × Nat)} {c : Nat × Nat × Nat} {M : pz_M} : pz_sh ((pz_SH, ss, c), M) 24 = some (100, 144) := rfl
theorem h_25 {ss : List (Nat × Nat)} {c : Nat × Nat × Nat} {M : pz_M} : pz_sh ((pz_SH, ss, c), M) 25 = some (0, 1) := rfl
theorem h_26 {ss : List (Nat × Nat)} {c : Nat × Nat × Nat} {M : pz_M} : pz_sh ((pz_SH, ss, c), M) 26 = some (100, 144) := rfl
theorem h_27 {ss : List (Nat × Nat)} {c : Nat × Nat × Nat} {M : pz_M} : pz_sh ((pz_SH, ss, c), M) 27 = some (0, 1) := rfl
theorem h_28 {ss : List (Nat × Nat)} {c : Nat × Nat × Nat} {M : pz_M} : pz_sh ((pz_SH, ss, c), M) 28 = some (100, 144) := rfl
theorem h_29 {ss : List (Nat × Nat)} {c : Nat × Nat × Nat} {M : pz_M} : pz_sh ((pz_SH, ss, c), M) 29 = some (0, 1) := rfl
theorem h_30 {ss : List (Nat × Nat)} {c : Nat × Nat × Nat} {M : pz_M} : pz_sh ((pz_SH, ss, c), M) 30 = some (100, 144) := rfl
theorem h_31 {ss : List (Nat × Nat)} {c : Nat × Nat × Nat} {M : pz_M} : pz_sh ((pz_SH, ss, c), M) 31 = some (0, 1) := rfl
theorem h_32 {ss : List (Nat × Nat)} {c : Nat × Nat × Nat} {M : pz_M} : pz_sh ((pz_SH, ss, c), M) 32 = some (100, 144) := rfl
theorem h_33 {ss : List (Nat × Nat)} {c : Nat × Nat × Nat} {M : pz_M} : pz_sh ((pz_SH, ss, c), M) 33 = some (0, 1) := rfl
theorem h_34 {ss : List (Nat × Nat)} {c : Nat × Nat × Nat} {M : pz_M} : pz_sh ((pz_SH, ss, c), M) 34 = some (100, 144) := rfl
theorem h_35 {ss : List (Nat × Nat)} {c : Nat × Nat × Nat} {M : pz_M} : pz_sh ((pz_SH, ss, c), M) 35 = some (0, 1) := rfl
theorem h_36 {ss : List (Nat × Nat)} {c : Nat × Nat × Nat} {M : pz_M} : pz_sh ((pz_SH, ss, c), M) 36 = some (100, 144) := rfl
theorem h_37 {ss : List (Nat × Nat)} {c : Nat × Nat × Nat} {M : pz_M} : pz_sh ((pz_SH, ss, c), M) 37 = some (0, 1) := rfl
theorem h_38 {ss : List (Nat × Nat)} {c : Nat × Nat × Nat} {M : pz_M} : pz_sh ((pz_SH, ss, c), M) 38 = some (100, 144) := rfl
theorem h_39 {ss : List (Nat × Nat)} {c : Nat × Nat × Nat} {M : pz_M} : pz_sh ((pz_SH, ss, c), M) 39 = some (0, 1) := rfl
theorem h_40 {ss : List (Nat × Nat)} {c : Nat × Nat × Nat} {M : pz_M} : pz_sh ((pz_SH, ss, c), M) 40 = some (100, 144) := rfl
theorem h_41 {ss : List (Nat × Nat)} {c : Nat × Nat × Nat} {M : pz_M} : pz_sh ((pz_SH, ss, c), M) 41 = some (0, 1) := rfl
theorem h_42 {ss : List (Nat × Nat)} {c : Nat × Nat × Nat} {M : pz_M} : pz_sh ((pz_SH, ss, c), M) 42 = some (100, 144) := rfl
theorem h_43 {ss : List (Nat × Nat)} {c : Nat × Nat × Nat} {M : pz_M} : pz_sh ((pz_SH, ss, c), M) 43 = some (0, 1) := rfl
theorem h_44 {ss : List (Nat × Nat)} {c : Nat × Nat × Nat} {M : pz_M} : pz_sh ((pz_SH, ss, c), M) 44 = some (100, 144) := rfl
theorem h_45 {ss : List (Nat × Nat)} {c : Nat × Nat × Nat} {M : pz_M} : pz_sh ((pz_SH, ss, c), M) 45 = some (0, 1) := rfl
theorem h_46 {ss : List (Nat × Nat)} {c : Nat × Nat × Nat} {M : pz_M} : pz_sh ((pz_SH, ss, c), M) 46 = some (100, 144) := rfl
theorem h_47 {ss : List (Nat × Nat)} {c : Nat × Nat × Nat} {M : pz_M} : pz_sh ((pz_SH, ss, c), M) 47 = some (0, 1) := rfl
theorem h_48 {ss : List (Nat × Nat)} {c : Nat × Nat × Nat} {M : pz_M} : pz_sh ((pz_SH, ss, c), M) 48 = some (100, 144) := rfl
theorem h_49 {ss : List (Nat × Nat)} {c : Nat × Nat × Nat} {M : pz_M} : pz_sh ((pz_SH, ss, c), M) 49 = some (0, 1) := rfl
theorem h_50 {ss : List (Nat × Nat)} {c : Nat × Nat × Nat} {M : pz_M} : pz_sh ((pz_SH, ss, c), M) 50 = some (100, 144) := rfl
theorem h_51 {ss : List (Nat × Nat)} {c : Nat × Nat × Nat} {M : pz_M} : pz_sh ((pz_SH, ss, c), M) 51 = some (0, 1) := rfl
theorem h_52 {ss : List (Nat × Nat)} {c : Nat × Nat × Nat} {M : pz_M} : pz_sh ((pz_SH, ss, c), M) 52 = some (100, 144) := rfl
theorem h_53 {ss : List (Nat × Nat)} {c : Nat × Nat × Nat} {M : pz_M} : pz_sh ((pz_SH, ss, c), M) 53 = some (0, 1) := rfl
theorem h_54 {ss : List (Nat × Nat)} {c : Nat × Nat × Nat} {M : pz_M} : pz_sh ((pz_SH, ss, c), M) 54 = some (100, 144) := rfl
theorem h_55 {ss : List (Nat × Nat)} {c : Nat × Nat × Nat} {M : pz_M} : pz_sh ((pz_SH, ss, c), M) 55 = some (0, 1) := rfl
theorem h_56 {ss : List (Nat × Nat)} {c : Nat × Nat × Nat} {M : pz_M} : pz_sh ((pz_SH, ss, c), M) 56 = some (100, 144) := rfl
theorem h_57 {ss : List (Nat × Nat)} {c : Nat × Nat × Nat} {M : pz_M} : pz_sh ((pz_SH, ss, c), M) 57 = some (0, 1) := rfl
theorem h_58 {ss : List (Nat × Nat)} {c : Nat × Nat × Nat} {M : pz_M} : pz_sh ((pz_SH, ss, c), M) 58 = some (100, 144) := rfl
theorem h_59 {ss : List (Nat × Nat)} {c : Nat × Nat × Nat} {M : pz_M} : pz_sh ((pz_SH, ss, c), M) 59 = some (0, 1) := rfl
theorem h_60 {ss : List (Nat × Nat)} {c : Nat × Nat × Nat} {M : pz_M} : pz_sh ((pz_SH, ss, c), M) 60 = some (100, 144) := rfl
theorem h_61 {ss : List (Nat × Nat)} {c : Nat × Nat × Nat} {M : pz_M} : pz_sh ((pz_SH, ss, c), M) 61 = some (0, 1) := rfl
theorem h_62 {ss : List (Nat × Nat)} {c : Nat × Nat × Nat} {M : pz_M} : pz_sh ((pz_SH, ss, c), M) 62 = some (100, 144) := rfl
theorem h_63 {ss : List (Nat × Nat)} {c : Nat × Nat × Nat} {M : pz_M} : pz_sh ((pz_SH, ss, c), M) 63 = some (0, 1) := rfl
theorem h_64 {ss : List (Nat × Nat)} {c : Nat × Nat × Nat} {M : pz_M} : pz_sh ((pz_SH, ss, c), M) 64 = some (100, 144) := rfl
theorem h_65 {ss : List (Nat × Nat)} {c : Nat × Nat × Nat} {M : pz_M} : pz_sh ((pz_SH, ss, c), M) 65 = some (0, 1) := rfl
theorem h_66 {ss : List (Nat × Nat)} {c : Nat × Nat × Nat} {M : pz_M} : pz_sh ((pz_SH, ss, c), M) 66 = some (100, 144) := rfl
theorem h_67 {ss : List (Nat × Nat)} {c : Nat × Nat × Nat} {M : pz_M} : pz_sh ((pz_SH, ss, c), M) 67 = some (0, 1) := rfl
theorem h_68 {ss : List (Nat × Nat)} {c : Nat × Nat × Nat} {M : pz_M} : pz_sh ((pz_SH, ss, c), M) 68 = some (100, 144) := rfl
theorem h_69 {ss : List (Nat × Nat)} {c : Nat × Nat × Nat} {M : pz_M} : pz_sh ((pz_SH, ss, c), M) 69 = some (0, 1) := rfl
theorem h_70 {ss : List (Nat × Nat)} {c : Nat × Nat × Nat} {M : pz_M} : pz_sh ((pz_SH, ss, c), M) 70 = some (100, 144) := rfl
theorem h_71 {ss : List (Nat × Nat)} {c : Nat × Nat × Nat} {M : pz_M} : pz_sh ((pz_SH, ss, c), M) 71 = some (0, 1) := rfl
theorem h_72 {ss : List (Nat × Nat)} {c : Nat × Nat × Nat} {M : pz_M} : pz_sh ((pz_SH, ss, c), M) 72 = some (100, 144) := rfl
theorem h_73 {ss : List (Nat × Nat)} {c : Nat × Nat × Nat} {M : pz_M} : pz_sh ((pz_SH, ss, c), M) 73 = some (0, 1) := rfl
theorem h_74 {ss : List (Nat × Nat)} {c : Nat × Nat × Nat} {M : pz_M} : pz_sh ((pz_SH, ss, c), M) 74 = some (100, 144) := rfl
theorem h_75 {ss : List (Nat × Nat)} {c : Nat × Nat × Nat} {M : pz_M} : pz_sh ((pz_SH, ss, c), M) 75 = some (0, 1) := rfl
theorem h_76 {ss : List (Nat × Nat)} {c : Nat × Nat × Nat} {M : pz_M} : pz_sh ((pz_SH, ss, c), M) 76 = some (100, 144) := rfl
theorem h_77 {ss : List (Nat × Nat)} {c : Nat × Nat × Nat} {M : pz_M} : pz_sh ((pz_SH, ss, c), M) 77 = some (0, 1) := rfl
theorem h_78 {ss : List (Nat × Nat)} {c : Nat × Nat × Nat} {M : pz_M} : pz_sh ((pz_SH, ss, c), M) 78 = some (100, 144) := rfl
theorem h_79 {ss : List (Nat × Nat)} {c : Nat × Nat × Nat} {M : pz_M} : pz_sh ((pz_SH, ss, c), M) 79 = some (0, 1) := rfl
theorem h_80 {ss : List (Nat × Nat)} {c : Nat × Nat × Nat} {M : pz_M} : pz_sh ((pz_SH, ss, c), M) 80 = some (100, 144) := rfl
theorem h_81 {ss : List (Nat × Nat)} {c : Nat × Nat × Nat} {M : pz_M} : pz_sh ((pz_SH, ss, c), M) 81 = some (0, 1) := rfl
theorem h_82 {ss : List (Nat × Nat)} {c : Nat × Nat × Nat} {M : pz_M} : pz_sh ((pz_SH, ss, c), M) 82 = some (100, 144) := rfl
theorem h_83 {ss : List (Nat × Nat)} {c : Nat × Nat × Nat} {M : pz_M} : pz_sh ((pz_SH, ss, c), M) 83 = some (0, 1) := rfl
theorem h_84 {ss : List (Nat × Nat)} {c : Nat × Nat × Nat} {M : pz_M} : pz_sh ((pz_SH, ss, c), M) 84 = some (100, 144) := rfl
theorem h_85 {ss : List (Nat × Nat)} {c : Nat × Nat × Nat} {M : pz_M} : pz_sh ((pz_SH, ss, c), M) 85 = some (0, 1) := rfl
theorem h_86 {ss : List (Nat × Nat)} {c : Nat × Nat × Nat} {M : pz_M} : pz_sh ((pz_SH, ss, c), M) 86 = some (100, 144) := rfl
theorem h_87 {ss : List (Nat × Nat)} {c : Nat × Nat × Nat} {M : pz_M} : pz_sh ((pz_SH, ss, c), M) 87 = some (0, 1) := rfl
theorem h_88 {ss : List (Nat × Nat)} {c : Nat × Nat × Nat} {M : pz_M} : pz_sh ((pz_SH, ss, c), M) 88 = some (100, 144) := rfl
theorem h_89 {ss : List (Nat × Nat)} {c : Nat × Nat × Nat} {M : pz_M} : pz_sh ((pz_SH, ss, c), M) 89 = some (0, 1) := rfl
theorem h_90 {ss : List (Nat × Nat)} {c : Nat × Nat × Nat} {M : pz_M} : pz_sh ((pz_SH, ss, c), M) 90 = some (100, 144) := rfl
theorem h_91 {ss : List (Nat × Nat)} {c : Nat × Nat × Nat} {M : pz_M} : pz_sh ((pz_SH, ss, c), M) 91 = some (0, 1) := rfl
theorem h_92 {ss : List (Nat × Nat)} {c : Nat × Nat × Nat} {M : pz_M} : pz_sh ((pz_SH, ss, c), M) 92 = some (100, 144) := rfl
theorem h_93 {ss : List (Nat × Nat)} {c : Nat × Nat × Nat} {M : pz_M} : pz_sh ((pz_SH, ss, c), M) 93 = some (0, 1) := rfl
theorem h_94 {ss : List (Nat × Nat)} {c : Nat × Nat × Nat} {M : pz_M} : pz_sh ((pz_SH, ss, c), M) 94 = some (100, 144) := rfl
theorem h_95 {ss : List (Nat × Nat)} {c : Nat × Nat × Nat} {M : pz_M} : pz_sh ((pz_SH, ss, c), M) 95 = some (0, 1) := rfl
theorem h_96 {ss : List (Nat × Nat)} {c : Nat × Nat × Nat} {M : pz_M} : pz_sh ((pz_SH, ss, c), M) 96 = some (100, 144) := rfl
theorem h_97 {ss : List (Nat × Nat)} {c : Nat × Nat × Nat} {M : pz_M} : pz_sh ((pz_SH, ss, c), M) 97 = some (100, 16) := rfl
theorem h_98 {ss : List (Nat × Nat)} {c : Nat × Nat × Nat} {M : pz_M} : pz_sh ((pz_SH, ss, c), M) 98 = some (100, 16) := rfl
theorem h_99 {ss : List (Nat × Nat)} {c : Nat × Nat × Nat} {M : pz_M} : pz_sh ((pz_SH, ss, c), M) 99 = some (5, 5) := rfl
theorem h_100 {ss : List (Nat × Nat)} {c : Nat × Nat × Nat} {M : pz_M} : pz_sh ((pz_SH, ss, c), M) 100 = some (100, 8) := rfl
theorem h_101 {ss : List (Nat × Nat)} {c : Nat × Nat × Nat} {M : pz_M} : pz_sh ((pz_SH, ss, c), M) 101 = some (100, 4) := rfl
theorem h_102 {ss : List (Nat × Nat)} {c : Nat × Nat × Nat} {M : pz_M} : pz_sh ((pz_SH, ss, c), M) 102 = some (100, 4) := rfl
theorem h_103 {ss : List (Nat × Nat)} {c : Nat × Nat × Nat} {M : pz_M} : pz_sh ((pz_SH, ss, c), M) 103 = some (7, 3) := rfl
theorem h_104 {ss : List (Nat × Nat)} {c : Nat × Nat × Nat} {M : pz_M} : pz_sh ((pz_SH, ss, c), M) 104 = some (8, 5) := rfl
theorem h_105 {ss : List (Nat × Nat)} {c : Nat × Nat × Nat} {M : pz_M} : pz_sh ((pz_SH, ss, c), M) 105 = some (104, 9) := rfl
theorem h_106 {ss : List (Nat × Nat)} {c : Nat × Nat × Nat} {M : pz_M} : pz_sh ((pz_SH, ss, c), M) 106 = some (101, 73) := rfl
theorem h_107 {ss : List (Nat × Nat)} {c : Nat × Nat × Nat} {M : pz_M} : pz_sh ((pz_SH, ss, c), M) 107 = some (101, 73) := rfl
theorem h_108 {ss : List (Nat × Nat)} {c : Nat × Nat × Nat} {M : pz_M} : pz_sh ((pz_SH, ss, c), M) 108 = some (101, 73) := rfl
theorem h_109 {ss : List (Nat × Nat)} {c : Nat × Nat × Nat} {M : pz_M} : pz_sh ((pz_SH, ss, c), M) 109 = some (101, 73) := rfl
theorem h_110 {ss : List (Nat × Nat)} {c : Nat × Nat × Nat} {M : pz_M} : pz_sh ((pz_SH, ss, c), M) 110 = some (101, 73) := rfl
theorem h_111 {ss : List (Nat × Nat)} {c : Nat × Nat × Nat} {M : pz_M} : pz_sh ((pz_SH, ss, c), M) 111 = some (101, 73) := rfl
theorem h_112 {ss : List (Nat × Nat)} {c : Nat × Nat × Nat} {M : pz_M} : pz_sh ((pz_SH, ss, c), M) 112 = some (101, 73) := rfl
theorem h_113 {ss : List (Nat × Nat)} {c : Nat × Nat × Nat} {M : pz_M} : pz_sh ((pz_SH, ss, c), M) 113 = some (101, 73) := rfl
theorem h_114 {ss : List (Nat × Nat)} {c : Nat × Nat × Nat} {M : pz_M} : pz_sh ((pz_SH, ss, c), M) 114 = some (101, 73) := rfl
theorem h_115 {ss : List (Nat × Nat)} {c : Nat × Nat × Nat} {M : pz_M} : pz_sh ((pz_SH, ss, c), M) 115 = some (100, 9) := rfl
theorem h_116 {ss : List (Nat × Nat)} {c : Nat × Nat × Nat} {M : pz_M} : pz_sh ((pz_SH, ss, c), M) 116 = some (100, 64) := rfl
theorem h_117 {ss : List (Nat × Nat)} {c : Nat × Nat × Nat} {M : pz_M} : pz_sh ((pz_SH, ss, c), M) 117 = some (100, 16) := rfl
theorem h_118 {ss : List (Nat × Nat)} {c : Nat × Nat × Nat} {M : pz_M} : pz_sh ((pz_SH, ss, c), M) 118 = some (100, 4) := rfl
theorem h_119 {ss : List (Nat × Nat)} {c : Nat × Nat × Nat} {M : pz_M} : pz_sh ((pz_SH, ss, c), M) 119 = some (8, 5) := rfl
theorem h_120 {ss : List (Nat × Nat)} {c : Nat × Nat × Nat} {M : pz_M} : pz_sh ((pz_SH, ss, c), M) 120 = some (104, 9) := rfl
theorem h_121 {ss : List (Nat × Nat)} {c : Nat × Nat × Nat} {M : pz_M} : pz_sh ((pz_SH, ss, c), M) 121 = some (101, 73) := rfl
theorem h_122 {ss : List (Nat × Nat)} {c : Nat × Nat × Nat} {M : pz_M} : pz_sh ((pz_SH, ss, c), M) 122 = some (101, 73) := rfl
theorem h_123 {ss : List (Nat × Nat)} {c : Nat × Nat × Nat} {M : pz_M} : pz_sh ((pz_SH, ss, c), M) 123 = some (101, 73) := rfl
theorem h_124 {ss : List (Nat × Nat)} {c : Nat × Nat × Nat} {M : pz_M} : pz_sh ((pz_SH, ss, c), M) 124 = some (101, 73) := rfl
theorem h_125 {ss : List (Nat × Nat)} {c : Nat × Nat × Nat} {M : pz_M} : pz_sh ((pz_SH, ss, c), M) 125 = some (101, 73) := rfl
theorem h_126 {ss : List (Nat × Nat)} {c : Nat × Nat × Nat} {M : pz_M} : pz_sh ((pz_SH, ss, c), M) 126 = some (101, 73) := rfl
theorem h_127 {ss : List (Nat × Nat)} {c : Nat × Nat × Nat} {M : pz_M} : pz_sh ((pz_SH, ss, c), M) 127 = some (101, 73) := rfl
theorem h_128 {ss : List (Nat × Nat)} {c : Nat × Nat × Nat} {M : pz_M} : pz_sh ((pz_SH, ss, c), M) 128 = some (101, 73) := rfl
theorem h_129 {ss : List (Nat × Nat)} {c : Nat × Nat × Nat} {M : pz_M} : pz_sh ((pz_SH, ss, c), M) 129 = some (101, 73) := rfl
theorem h_130 {ss : List (Nat × Nat)} {c : Nat × Nat × Nat} {M : pz_M} : pz_sh ((pz_SH, ss, c), M) 130 = some (100, 9) := rfl
theorem h_131 {ss : List (Nat × Nat)} {c : Nat × Nat × Nat} {M : pz_M} : pz_sh ((pz_SH, ss, c), M) 131 = some (100, 64) := rfl
theorem h_132 {ss : List (Nat × Nat)} {c : Nat × Nat × Nat} {M : pz_M} : pz_sh ((pz_SH, ss, c), M) 132 = some (100, 16) := rfl
theorem h_133 {ss : List (Nat × Nat)} {c : Nat × Nat × Nat} {M : pz_M} : pz_sh ((pz_SH, ss, c), M) 133 = some (100, 4) := rfl
theorem h_134 {ss : List (Nat × Nat)} {c : Nat × Nat × Nat} {M : pz_M} : pz_sh ((pz_SH, ss, c), M) 134 = some (2, 1) := rfl
theorem h_135 {ss : List (Nat × Nat)} {c : Nat × Nat × Nat} {M : pz_M} : pz_sh ((pz_SH, ss, c), M) 135 = some (3, 3) := rfl
theorem h_136 {ss : List (Nat × Nat)} {c : Nat × Nat × Nat} {M : pz_M} : pz_sh ((pz_SH, ss, c), M) 136 = some (100, 240) := rfl
theorem h_137 {ss : List (Nat × Nat)} {c : Nat × Nat × Nat} {M : pz_M} : pz_sh ((pz_SH, ss, c), M) 137 = some (100, 40) := rfl
theorem h_138 {ss : List (Nat × Nat)} {c : Nat × Nat × Nat} {M : pz_M} : pz_sh ((pz_SH, ss, c), M) 138 = some (3, 3) := rfl
theorem h_139 {ss : List (Nat × Nat)} {c : Nat × Nat × Nat} {M : pz_M} : pz_sh ((pz_SH, ss, c), M) 139 = some (100, 240) := rfl
theorem h_140 {ss : List (Nat × Nat)} {c : Nat × Nat × Nat} {M : pz_M} : pz_sh ((pz_SH, ss, c), M) 140 = some (100, 40) := rfl
theorem h_141 {ss : List (Nat × Nat)} {c : Nat × Nat × Nat} {M : pz_M} : pz_sh ((pz_SH, ss, c), M) 141 = some (3, 3) := rfl
theorem h_142 {ss : List (Nat × Nat)} {c : Nat × Nat × Nat} {M : pz_M} : pz_sh ((pz_SH, ss, c), M) 142 = some (100, 240) := rfl
theorem h_143 {ss : List (Nat × Nat)} {c : Nat × Nat × Nat} {M : pz_M} : pz_sh ((pz_SH, ss, c), M) 143 = some (100, 40) := rfl
theorem h_144 {ss : List (Nat × Nat)} {c : Nat × Nat × Nat} {M : pz_M} : pz_sh ((pz_SH, ss, c), M) 144 = some (3, 3) := rfl
theorem h_145 {ss : List (Nat × Nat)} {c : Nat × Nat × Nat} {M : pz_M} : pz_sh ((pz_SH, ss, c), M) 145 = some (100, 240) := rfl
theorem h_146 {ss : List (Nat × Nat)} {c : Nat × Nat × Nat} {M : pz_M} : pz_sh ((pz_SH, ss, c), M) 146 = some (100, 40) := rfl
theorem h_147 {ss : List (Nat × Nat)} {c : Nat × Nat × Nat} {M : pz_M} : pz_sh ((pz_SH, ss, c), M) 147 = some (11, 50) := rfl
theorem h_148 {ss : List (Nat × Nat)} {c : Nat × Nat × Nat} {M : pz_M} : pz_sh ((pz_SH, ss, c), M) 148 = some (100, 240) := rfl
theorem h_149 {ss : List (Nat × Nat)} {c : Nat × Nat × Nat} {M : pz_M} : pz_sh ((pz_SH, ss, c), M) 149 = some (100, 2600) := rfl
theorem h_150 {ss : List (Nat × Nat)} {c : Nat × Nat × Nat} {M : pz_M} : pz_sh ((pz_SH, ss, c), M) 150 = some (100, 2600) := rfl
theorem h_151 {ss : List (Nat × Nat)} {c : Nat × Nat × Nat} {M : pz_M} : pz_sh ((pz_SH, ss, c), M) 151 = some (100, 5) := rfl
theorem h_152 {ss : List (Nat × Nat)} {c : Nat × Nat × Nat} {M : pz_M} : pz_sh ((pz_SH, ss, c), M) 152 = some (100, 5) := rfl
theorem h_153 {ss : List (Nat × Nat)} {c : Nat × Nat × Nat} {M : pz_M} : pz_sh ((pz_SH, ss, c), M) 153 = some (100, 700) := rfl
theorem h_154 {ss : List (Nat × Nat)} {c : Nat × Nat × Nat} {M : pz_M} : pz_sh ((pz_SH, ss, c), M) 154 = some (100, 700) := rfl
theorem h_155 {ss : List (Nat × Nat)} {c : Nat × Nat × Nat} {M : pz_M} : pz_sh ((pz_SH, ss, c), M) 155 = some (100, 700) := rfl
theorem h_156 {ss : List (Nat × Nat)} {c : Nat × Nat × Nat} {M : pz_M} : pz_sh ((pz_SH, ss, c), M) 156 = some (100, 8) := rfl
theorem h_157 {ss : List (Nat × Nat)} {c : Nat × Nat × Nat} {M : pz_M} : pz_sh ((pz_SH, ss, c), M) 157 = some (100, 80) := rfl
theorem h_158 {ss : List (Nat × Nat)} {c : Nat × Nat × Nat} {M : pz_M} : pz_sh ((pz_SH, ss, c), M) 158 = some (100, 7) := rfl
theorem h_159 {ss : List (Nat × Nat)} {c : Nat × Nat × Nat} {M : pz_M} : pz_sh ((pz_SH, ss, c), M) 159 = some (100, 48) := rfl
theorem h_160 {ss : List (Nat × Nat)} {c : Nat × Nat × Nat} {M : pz_M} : pz_sh ((pz_SH, ss, c), M) 160 = some (100, 18) := rfl
theorem h_161 {ss : List (Nat × Nat)} {c : Nat × Nat × Nat} {M : pz_M} : pz_sh ((pz_SH, ss, c), M) 161 = some (100, 4) := rfl
theorem h_162 {ss : List (Nat × Nat)} {c : Nat × Nat × Nat} {M : pz_M} : pz_sh ((pz_SH, ss, c), M) 162 = some (100, 32) := rfl
theorem h_163 {ss : List (Nat × Nat)} {c : Nat × Nat × Nat} {M : pz_M} : pz_sh ((pz_SH, ss, c), M) 163 = some (100, 6) := rfl
theorem h_164 {ss : List (Nat × Nat)} {c : Nat × Nat × Nat} {M : pz_M} : pz_sh ((pz_SH, ss, c), M) 164 = some (100, 6) := rfl
theorem h_165 {ss : List (Nat × Nat)} {c : Nat × Nat × Nat} {M : pz_M} : pz_sh ((pz_SH, ss, c), M) 165 = some (100, 213) := rfl
theorem h_166 {ss : List (Nat × Nat)} {c : Nat × Nat × Nat} {M : pz_M} : pz_sh ((pz_SH, ss, c), M) 166 = some (101, 4) := rfl
theorem h_167 {ss : List (Nat × Nat)} {c : Nat × Nat × Nat} {M : pz_M} : pz_sh ((pz_SH, ss, c), M) 167 = some (101, 80) := rfl
theorem h_168 {ss : List (Nat × Nat)} {c : Nat × Nat × Nat} {M : pz_M} : pz_sh ((pz_SH, ss, c), M) 168 = some (101, 80) := rfl
theorem h_169 {ss : List (Nat × Nat)} {c : Nat × Nat × Nat} {M : pz_M} : pz_sh ((pz_SH, ss, c), M) 169 = some (100, 8520) := rfl
theorem h_170 {ss : List (Nat × Nat)} {c : Nat × Nat × Nat} {M : pz_M} : pz_sh ((pz_SH, ss, c), M) 170 = some (100, 8) := rfl
theorem h_171 {ss : List (Nat × Nat)} {c : Nat × Nat × Nat} {M : pz_M} : pz_sh ((pz_SH, ss, c), M) 171 = some (101, 4) := rfl
theorem h_172 {ss : List (Nat × Nat)} {c : Nat × Nat × Nat} {M : pz_M} : pz_sh ((pz_SH, ss, c), M) 172 = some (101, 80) := rfl
theorem h_173 {ss : List (Nat × Nat)} {c : Nat × Nat × Nat} {M : pz_M} : pz_sh ((pz_SH, ss, c), M) 173 = some (100, 16) := rfl
theorem h_174 {ss : List (Nat × Nat)} {c : Nat × Nat × Nat} {M : pz_M} : pz_sh ((pz_SH, ss, c), M) 174 = some (100, 16) := rfl
theorem h_175 {ss : List (Nat × Nat)} {c : Nat × Nat × Nat} {M : pz_M} : pz_sh ((pz_SH, ss, c), M) 175 = some (100, 16) := rfl
theorem h_176 {ss : List (Nat × Nat)} {c : Nat × Nat × Nat} {M : pz_M} : pz_sh ((pz_SH, ss, c), M) 176 = some (100, 6) := rfl
theorem h_177 {ss : List (Nat × Nat)} {c : Nat × Nat × Nat} {M : pz_M} : pz_sh ((pz_SH, ss, c), M) 177 = some (100, 213) := rfl
theorem h_178 {ss : List (Nat × Nat)} {c : Nat × Nat × Nat} {M : pz_M} : pz_sh ((pz_SH, ss, c), M) 178 = some (101, 1) := rfl
theorem h_4096 {sh : List (Nat × Nat)} {L : Nat} {c : Nat × Nat × Nat} {M : pz_M} : pz_sh ((sh, pz_SS L, c), M) 4096 = some (112, 3) := rfl
theorem h_4097 {sh : List (Nat × Nat)} {L : Nat} {c : Nat × Nat × Nat} {M : pz_M} : pz_sh ((sh, pz_SS L, c), M) 4097 = some (110, 3) := rfl
theorem h_4098 {sh : List (Nat × Nat)} {L : Nat} {c : Nat × Nat × Nat} {M : pz_M} : pz_sh ((sh, pz_SS L, c), M) 4098 = some (110, 3) := rfl
theorem h_4099 {sh : List (Nat × Nat)} {L : Nat} {c : Nat × Nat × Nat} {M : pz_M} : pz_sh ((sh, pz_SS L, c), M) 4099 = some (112, 7) := rfl
theorem h_4100 {sh : List (Nat × Nat)} {L : Nat} {c : Nat × Nat × Nat} {M : pz_M} : pz_sh ((sh, pz_SS L, c), M) 4100 = some (110, 7) := rfl
theorem h_4101 {sh : List (Nat × Nat)} {L : Nat} {c : Nat × Nat × Nat} {M : pz_M} : pz_sh ((sh, pz_SS L, c), M) 4101 = some (110, 7) := rfl
theorem h_4102 {sh : List (Nat × Nat)} {L : Nat} {c : Nat × Nat × Nat} {M : pz_M} : pz_sh ((sh, pz_SS L, c), M) 4102 = some (112, 6) := rfl
theorem h_4103 {sh : List (Nat × Nat)} {L : Nat} {c : Nat × Nat × Nat} {M : pz_M} : pz_sh ((sh, pz_SS L, c), M) 4103 = some (110, 6) := rfl
theorem h_4104 {sh : List (Nat × Nat)} {L : Nat} {c : Nat × Nat × Nat} {M : pz_M} : pz_sh ((sh, pz_SS L, c), M) 4104 = some (110, 6) := rfl
theorem h_4105 {sh : List (Nat × Nat)} {L : Nat} {c : Nat × Nat × Nat} {M : pz_M} : pz_sh ((sh, pz_SS L, c), M) 4105 = some (112, 8) := rfl
