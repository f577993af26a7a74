/-! THE LINKS of the program, each out of the tables -/
def pz_on (w : Nat) : String := (["CatCourt$Court", "CatCourt$CourtText", "CatCourt$Dice", "CatCourt$Law", "CatCourt$LawText", "CatCourt$Mind", "CatCourt$Past", "CatCourt$Scales", "CatCourt$Spread", "CatCourt$Tape", "CatCourt", "CatCourtModel", "CatCourtLaw", "java/lang/Integer", "java/lang/Math"] : List String).getD w ""
set_option maxRecDepth 40000 in
theorem oI_Co_init : pz_okI I_Co_init := ⟨by decide, lw_g_at 58 rfl rfl, (lw_g_at 4 (by decide +kernel) rfl), by decide +kernel, by decide +kernel, by decide +kernel⟩
set_option maxRecDepth 40000 in
theorem oI_Co_clear : pz_okI I_Co_clear := ⟨by decide, lw_g_at 293 rfl rfl, (lw_g_at 4 (by decide +kernel) rfl), by decide +kernel, by decide +kernel, by decide +kernel⟩
set_option maxRecDepth 40000 in
theorem oI_Co_setBench : pz_okI I_Co_setBench := ⟨by decide, lw_g_at 299 rfl rfl, (lw_g_at 4 (by decide +kernel) rfl), by decide +kernel, by decide +kernel, by decide +kernel⟩
set_option maxRecDepth 40000 in
theorem oI_Co_put : pz_okI I_Co_put := ⟨by decide, lw_g_at 303 rfl rfl, (lw_g_at 4 (by decide +kernel) rfl), by decide +kernel, by decide +kernel, by decide +kernel⟩
set_option maxRecDepth 40000 in
theorem oI_Co_cats : pz_okI I_Co_cats := ⟨by decide, lw_g_at 346 rfl rfl, (lw_g_at 4 (by decide +kernel) rfl), by decide +kernel, by decide +kernel, by decide +kernel⟩
set_option maxRecDepth 40000 in
theorem oI_Co_setCat : pz_okI I_Co_setCat := ⟨by decide, lw_g_at 350 rfl rfl, (lw_g_at 4 (by decide +kernel) rfl), by decide +kernel, by decide +kernel, by decide +kernel⟩
set_option maxRecDepth 40000 in
theorem oI_Co_people : pz_okI I_Co_people := ⟨by decide, lw_g_at 354 rfl rfl, (lw_g_at 4 (by decide +kernel) rfl), by decide +kernel, by decide +kernel, by decide +kernel⟩
set_option maxRecDepth 40000 in
theorem oI_Co_setAccused : pz_okI I_Co_setAccused := ⟨by decide, lw_g_at 358 rfl rfl, (lw_g_at 4 (by decide +kernel) rfl), by decide +kernel, by decide +kernel, by decide +kernel⟩
set_option maxRecDepth 40000 in
theorem oI_Co_addCat : pz_okI I_Co_addCat := ⟨by decide, lw_g_at 362 rfl rfl, (lw_g_at 4 (by decide +kernel) rfl), by decide +kernel, by decide +kernel, by decide +kernel⟩
set_option maxRecDepth 40000 in
theorem oI_Co_addAccused : pz_okI I_Co_addAccused := ⟨by decide, lw_g_at 372 rfl rfl, (lw_g_at 4 (by decide +kernel) rfl), by decide +kernel, by decide +kernel, by decide +kernel⟩
set_option maxRecDepth 40000 in
theorem oI_Co_copy : pz_okI I_Co_copy := ⟨by decide, lw_g_at 475 rfl rfl, (lw_g_at 4 (by decide +kernel) rfl), by decide +kernel, by decide +kernel, by decide +kernel⟩
set_option maxRecDepth 40000 in
theorem oI_Co_ofBench : pz_okI I_Co_ofBench := ⟨by decide, lw_g_at 503 rfl rfl, (lw_g_at 4 (by decide +kernel) rfl), by decide +kernel, by decide +kernel, by decide +kernel⟩
set_option maxRecDepth 40000 in
theorem oI_Co_hasAccused : pz_okI I_Co_hasAccused := ⟨by decide, lw_g_at 511 rfl rfl, (lw_g_at 4 (by decide +kernel) rfl), by decide +kernel, by decide +kernel, by decide +kernel⟩
set_option maxRecDepth 40000 in
theorem oI_Co_ofAccused : pz_okI I_Co_ofAccused := ⟨by decide, lw_g_at 516 rfl rfl, (lw_g_at 4 (by decide +kernel) rfl), by decide +kernel, by decide +kernel, by decide +kernel⟩
set_option maxRecDepth 40000 in
theorem oI_Co_serving : pz_okI I_Co_serving := ⟨by decide, lw_g_at 529 rfl rfl, (lw_g_at 4 (by decide +kernel) rfl), by decide +kernel, by decide +kernel, by decide +kernel⟩
set_option maxRecDepth 40000 in
theorem oI_Co_ofCat : pz_okI I_Co_ofCat := ⟨by decide, lw_g_at 534 rfl rfl, (lw_g_at 4 (by decide +kernel) rfl), by decide +kernel, by decide +kernel, by decide +kernel⟩
set_option maxRecDepth 40000 in
theorem oI_Co_logged : pz_okI I_Co_logged := ⟨by decide, lw_g_at 544 rfl rfl, (lw_g_at 4 (by decide +kernel) rfl), by decide +kernel, by decide +kernel, by decide +kernel⟩
set_option maxRecDepth 40000 in
theorem oI_Co_hasCat : pz_okI I_Co_hasCat := ⟨by decide, lw_g_at 561 rfl rfl, (lw_g_at 4 (by decide +kernel) rfl), by decide +kernel, by decide +kernel, by decide +kernel⟩
set_option maxRecDepth 40000 in
theorem oI_Co_write : pz_okI I_Co_write := ⟨by decide, lw_g_at 817 rfl rfl, (lw_g_at 4 (by decide +kernel) rfl), by decide +kernel, by decide +kernel, by decide +kernel⟩
set_option maxRecDepth 40000 in
theorem oI_Co_entryAt : pz_okI I_Co_entryAt := ⟨by decide, lw_g_at 823 rfl rfl, (lw_g_at 4 (by decide +kernel) rfl), by decide +kernel, by decide +kernel, by decide +kernel⟩
set_option maxRecDepth 40000 in
theorem oI_Ct_init : pz_okI I_Ct_init := ⟨by decide, lw_g_at 52 rfl rfl, (lw_g_at 3 (by decide +kernel) rfl), by decide +kernel, by decide +kernel, by decide +kernel⟩
set_option maxRecDepth 40000 in
theorem oI_Ct_read : pz_okI I_Ct_read := ⟨by decide, lw_g_at 285 rfl rfl, (lw_g_at 3 (by decide +kernel) rfl), by decide +kernel, by decide +kernel, by decide +kernel⟩
set_option maxRecDepth 40000 in
theorem oI_Ct_clause : pz_okI I_Ct_clause := ⟨by decide, lw_g_at 307 rfl rfl, (lw_g_at 3 (by decide +kernel) rfl), by decide +kernel, by decide +kernel, by decide +kernel⟩
set_option maxRecDepth 40000 in
theorem oI_Ct_items : pz_okI I_Ct_items := ⟨by decide, lw_g_at 323 rfl rfl, (lw_g_at 3 (by decide +kernel) rfl), by decide +kernel, by decide +kernel, by decide +kernel⟩
set_option maxRecDepth 40000 in
theorem oI_Ct_store : pz_okI I_Ct_store := ⟨by decide, lw_g_at 342 rfl rfl, (lw_g_at 3 (by decide +kernel) rfl), by decide +kernel, by decide +kernel, by decide +kernel⟩
set_option maxRecDepth 40000 in
theorem oI_Ct_ends : pz_okI I_Ct_ends := ⟨by decide, lw_g_at 390 rfl rfl, (lw_g_at 3 (by decide +kernel) rfl), by decide +kernel, by decide +kernel, by decide +kernel⟩
set_option maxRecDepth 40000 in
theorem oI_Ct_draft : pz_okI I_Ct_draft := ⟨by decide, lw_g_at 471 rfl rfl, (lw_g_at 3 (by decide +kernel) rfl), by decide +kernel, by decide +kernel, by decide +kernel⟩
set_option maxRecDepth 40000 in
theorem oI_Di_init : pz_okI I_Di_init := ⟨by decide, lw_g_at 182 rfl rfl, (lw_g_at 10 (by decide +kernel) rfl), by decide +kernel, by decide +kernel, by decide +kernel⟩
set_option maxRecDepth 40000 in
theorem oI_Di_begin : pz_okI I_Di_begin := ⟨by decide, lw_g_at 794 rfl rfl, (lw_g_at 10 (by decide +kernel) rfl), by decide +kernel, by decide +kernel, by decide +kernel⟩
set_option maxRecDepth 40000 in
theorem oI_Di_draw : pz_okI I_Di_draw := ⟨by decide, lw_g_at 798 rfl rfl, (lw_g_at 10 (by decide +kernel) rfl), by decide +kernel, by decide +kernel, by decide +kernel⟩
set_option maxRecDepth 40000 in
theorem oI_La_init : pz_okI I_La_init := ⟨by decide, lw_g_at 191 rfl rfl, (lw_g_at 11 (by decide +kernel) rfl), by decide +kernel, by decide +kernel, by decide +kernel⟩
set_option maxRecDepth 40000 in
theorem oI_La_learn : pz_okI I_La_learn := ⟨by decide, lw_g_at 495 rfl rfl, (lw_g_at 11 (by decide +kernel) rfl), by decide +kernel, by decide +kernel, by decide +kernel⟩
set_option maxRecDepth 40000 in
theorem oI_La_worth : pz_okI I_La_worth := ⟨by decide, lw_g_at 598 rfl rfl, (lw_g_at 11 (by decide +kernel) rfl), by decide +kernel, by decide +kernel, by decide +kernel⟩
set_option maxRecDepth 40000 in
theorem oI_La_join : pz_okI I_La_join := ⟨by decide, lw_g_at 601 rfl rfl, (lw_g_at 11 (by decide +kernel) rfl), by decide +kernel, by decide +kernel, by decide +kernel⟩
set_option maxRecDepth 40000 in
theorem oI_Lt_init : pz_okI I_Lt_init := ⟨by decide, lw_g_at 78 rfl rfl, (lw_g_at 5 (by decide +kernel) rfl), by decide +kernel, by decide +kernel, by decide +kernel⟩
set_option maxRecDepth 40000 in
theorem oI_Lt_read : pz_okI I_Lt_read := ⟨by decide, lw_g_at 394 rfl rfl, (lw_g_at 5 (by decide +kernel) rfl), by decide +kernel, by decide +kernel, by decide +kernel⟩
set_option maxRecDepth 40000 in
theorem oI_Lt_clause : pz_okI I_Lt_clause := ⟨by decide, lw_g_at 399 rfl rfl, (lw_g_at 5 (by decide +kernel) rfl), by decide +kernel, by decide +kernel, by decide +kernel⟩
set_option maxRecDepth 40000 in
theorem oI_Lt_sum : pz_okI I_Lt_sum := ⟨by decide, lw_g_at 410 rfl rfl, (lw_g_at 5 (by decide +kernel) rfl), by decide +kernel, by decide +kernel, by decide +kernel⟩
set_option maxRecDepth 40000 in
theorem oI_Lt_term : pz_okI I_Lt_term := ⟨by decide, lw_g_at 414 rfl rfl, (lw_g_at 5 (by decide +kernel) rfl), by decide +kernel, by decide +kernel, by decide +kernel⟩
set_option maxRecDepth 40000 in
theorem oI_Lt_atom : pz_okI I_Lt_atom := ⟨by decide, lw_g_at 418 rfl rfl, (lw_g_at 5 (by decide +kernel) rfl), by decide +kernel, by decide +kernel, by decide +kernel⟩
set_option maxRecDepth 40000 in
theorem oI_Lt_emit : pz_okI I_Lt_emit := ⟨by decide, lw_g_at 426 rfl rfl, (lw_g_at 5 (by decide +kernel) rfl), by decide +kernel, by decide +kernel, by decide +kernel⟩
set_option maxRecDepth 40000 in
theorem oI_Lt_isEither : pz_okI I_Lt_isEither := ⟨by decide, lw_g_at 431 rfl rfl, (lw_g_at 5 (by decide +kernel) rfl), by decide +kernel, by decide +kernel, by decide +kernel⟩
set_option maxRecDepth 40000 in
theorem oI_Lt_isComparison : pz_okI I_Lt_isComparison := ⟨by decide, lw_g_at 434 rfl rfl, (lw_g_at 5 (by decide +kernel) rfl), by decide +kernel, by decide +kernel, by decide +kernel⟩
set_option maxRecDepth 40000 in
theorem oI_Lt_condition : pz_okI I_Lt_condition := ⟨by decide, lw_g_at 438 rfl rfl, (lw_g_at 5 (by decide +kernel) rfl), by decide +kernel, by decide +kernel, by decide +kernel⟩
set_option maxRecDepth 40000 in
theorem oI_Lt_truth : pz_okI I_Lt_truth := ⟨by decide, lw_g_at 442 rfl rfl, (lw_g_at 5 (by decide +kernel) rfl), by decide +kernel, by decide +kernel, by decide +kernel⟩
set_option maxRecDepth 40000 in
theorem oI_Lt_unit : pz_okI I_Lt_unit := ⟨by decide, lw_g_at 446 rfl rfl, (lw_g_at 5 (by decide +kernel) rfl), by decide +kernel, by decide +kernel, by decide +kernel⟩
set_option maxRecDepth 40000 in
theorem oI_Lt_nested : pz_okI I_Lt_nested := ⟨by decide, lw_g_at 450 rfl rfl, (lw_g_at 5 (by decide +kernel) rfl), by decide +kernel, by decide +kernel, by decide +kernel⟩
set_option maxRecDepth 40000 in
theorem oI_Lt_conditionalSum : pz_okI I_Lt_conditionalSum := ⟨by decide, lw_g_at 455 rfl rfl, (lw_g_at 5 (by decide +kernel) rfl), by decide +kernel, by decide +kernel, by decide +kernel⟩
set_option maxRecDepth 40000 in
theorem oI_Lt_giveTo : pz_okI I_Lt_giveTo := ⟨by decide, lw_g_at 491 rfl rfl, (lw_g_at 5 (by decide +kernel) rfl), by decide +kernel, by decide +kernel, by decide +kernel⟩
set_option maxRecDepth 40000 in
theorem oI_Mi_init : pz_okI I_Mi_init := ⟨by decide, lw_g_at 117 rfl rfl, (lw_g_at 7 (by decide +kernel) rfl), by decide +kernel, by decide +kernel, by decide +kernel⟩
set_option maxRecDepth 40000 in
theorem oI_Mi_use : pz_okI I_Mi_use := ⟨by decide, lw_g_at 579 rfl rfl, (lw_g_at 7 (by decide +kernel) rfl), by decide +kernel, by decide +kernel, by decide +kernel⟩
set_option maxRecDepth 40000 in
theorem oI_Mi_moodOf : pz_okI I_Mi_moodOf := ⟨by decide, lw_g_at 583 rfl rfl, (lw_g_at 7 (by decide +kernel) rfl), by decide +kernel, by decide +kernel, by decide +kernel⟩
set_option maxRecDepth 40000 in
theorem oI_Mi_tell : pz_okI I_Mi_tell := ⟨by decide, lw_g_at 587 rfl rfl, (lw_g_at 7 (by decide +kernel) rfl), by decide +kernel, by decide +kernel, by decide +kernel⟩
set_option maxRecDepth 40000 in
theorem oI_Mi_habit : pz_okI I_Mi_habit := ⟨by decide, lw_g_at 594 rfl rfl, (lw_g_at 7 (by decide +kernel) rfl), by decide +kernel, by decide +kernel, by decide +kernel⟩
set_option maxRecDepth 40000 in
theorem oI_Mi_oddsOf : pz_okI I_Mi_oddsOf := ⟨by decide, lw_g_at 613 rfl rfl, (lw_g_at 7 (by decide +kernel) rfl), by decide +kernel, by decide +kernel, by decide +kernel⟩
set_option maxRecDepth 40000 in
theorem oI_Mi_reckon : pz_okI I_Mi_reckon := ⟨by decide, lw_g_at 617 rfl rfl, (lw_g_at 7 (by decide +kernel) rfl), by decide +kernel, by decide +kernel, by decide +kernel⟩
set_option maxRecDepth 40000 in
theorem oI_Mi_courtInUse : pz_okI I_Mi_courtInUse := ⟨by decide, lw_g_at 648 rfl rfl, (lw_g_at 7 (by decide +kernel) rfl), by decide +kernel, by decide +kernel, by decide +kernel⟩
set_option maxRecDepth 40000 in
theorem oI_Mi_likeliest : pz_okI I_Mi_likeliest := ⟨by decide, lw_g_at 726 rfl rfl, (lw_g_at 7 (by decide +kernel) rfl), by decide +kernel, by decide +kernel, by decide +kernel⟩
set_option maxRecDepth 40000 in
theorem oI_Pa_init : pz_okI I_Pa_init := ⟨by decide, lw_g_at 98 rfl rfl, (lw_g_at 6 (by decide +kernel) rfl), by decide +kernel, by decide +kernel, by decide +kernel⟩
set_option maxRecDepth 40000 in
theorem oI_Pa_forget : pz_okI I_Pa_forget := ⟨by decide, lw_g_at 482 rfl rfl, (lw_g_at 6 (by decide +kernel) rfl), by decide +kernel, by decide +kernel, by decide +kernel⟩
set_option maxRecDepth 40000 in
theorem oI_Pa_size : pz_okI I_Pa_size := ⟨by decide, lw_g_at 548 rfl rfl, (lw_g_at 6 (by decide +kernel) rfl), by decide +kernel, by decide +kernel, by decide +kernel⟩
set_option maxRecDepth 40000 in
theorem oI_Pa_keep : pz_okI I_Pa_keep := ⟨by decide, lw_g_at 764 rfl rfl, (lw_g_at 6 (by decide +kernel) rfl), by decide +kernel, by decide +kernel, by decide +kernel⟩
set_option maxRecDepth 40000 in
theorem oI_Pa_giveBack : pz_okI I_Pa_giveBack := ⟨by decide, lw_g_at 831 rfl rfl, (lw_g_at 6 (by decide +kernel) rfl), by decide +kernel, by decide +kernel, by decide +kernel⟩
set_option maxRecDepth 40000 in
theorem oI_Sc_init : pz_okI I_Sc_init := ⟨by decide, lw_g_at 141 rfl rfl, (lw_g_at 8 (by decide +kernel) rfl), by decide +kernel, by decide +kernel, by decide +kernel⟩
set_option maxRecDepth 40000 in
theorem oI_Sc_weigh : pz_okI I_Sc_weigh := ⟨by decide, lw_g_at 636 rfl rfl, (lw_g_at 8 (by decide +kernel) rfl), by decide +kernel, by decide +kernel, by decide +kernel⟩
set_option maxRecDepth 40000 in
theorem oI_Sc_begin : pz_okI I_Sc_begin := ⟨by decide, lw_g_at 640 rfl rfl, (lw_g_at 8 (by decide +kernel) rfl), by decide +kernel, by decide +kernel, by decide +kernel⟩
set_option maxRecDepth 40000 in
theorem oI_Sc_side : pz_okI I_Sc_side := ⟨by decide, lw_g_at 644 rfl rfl, (lw_g_at 8 (by decide +kernel) rfl), by decide +kernel, by decide +kernel, by decide +kernel⟩
set_option maxRecDepth 40000 in
theorem oI_Sc_put : pz_okI I_Sc_put := ⟨by decide, lw_g_at 665 rfl rfl, (lw_g_at 8 (by decide +kernel) rfl), by decide +kernel, by decide +kernel, by decide +kernel⟩
set_option maxRecDepth 40000 in
theorem oI_Sc_heldBy : pz_okI I_Sc_heldBy := ⟨by decide, lw_g_at 674 rfl rfl, (lw_g_at 8 (by decide +kernel) rfl), by decide +kernel, by decide +kernel, by decide +kernel⟩
set_option maxRecDepth 40000 in
theorem oI_Sc_rightBy : pz_okI I_Sc_rightBy := ⟨by decide, lw_g_at 699 rfl rfl, (lw_g_at 8 (by decide +kernel) rfl), by decide +kernel, by decide +kernel, by decide +kernel⟩
set_option maxRecDepth 40000 in
theorem oI_Sc_meanBy : pz_okI I_Sc_meanBy := ⟨by decide, lw_g_at 713 rfl rfl, (lw_g_at 8 (by decide +kernel) rfl), by decide +kernel, by decide +kernel, by decide +kernel⟩
set_option maxRecDepth 40000 in
theorem oI_Sc_deedBy : pz_okI I_Sc_deedBy := ⟨by decide, lw_g_at 804 rfl rfl, (lw_g_at 8 (by decide +kernel) rfl), by decide +kernel, by decide +kernel, by decide +kernel⟩
set_option maxRecDepth 40000 in
theorem oI_Sp_init : pz_okI I_Sp_init := ⟨by decide, lw_g_at 147 rfl rfl, (lw_g_at 9 (by decide +kernel) rfl), by decide +kernel, by decide +kernel, by decide +kernel⟩
set_option maxRecDepth 40000 in
theorem oI_Sp_begin : pz_okI I_Sp_begin := ⟨by decide, lw_g_at 652 rfl rfl, (lw_g_at 9 (by decide +kernel) rfl), by decide +kernel, by decide +kernel, by decide +kernel⟩
set_option maxRecDepth 40000 in
theorem oI_Sp_put : pz_okI I_Sp_put := ⟨by decide, lw_g_at 670 rfl rfl, (lw_g_at 9 (by decide +kernel) rfl), by decide +kernel, by decide +kernel, by decide +kernel⟩
set_option maxRecDepth 40000 in
theorem oI_Sp_from : pz_okI I_Sp_from := ⟨by decide, lw_g_at 678 rfl rfl, (lw_g_at 9 (by decide +kernel) rfl), by decide +kernel, by decide +kernel, by decide +kernel⟩
set_option maxRecDepth 40000 in
theorem oI_Sp_build : pz_okI I_Sp_build := ⟨by decide, lw_g_at 682 rfl rfl, (lw_g_at 9 (by decide +kernel) rfl), by decide +kernel, by decide +kernel, by decide +kernel⟩
set_option maxRecDepth 40000 in
theorem oI_Sp_extend : pz_okI I_Sp_extend := ⟨by decide, lw_g_at 687 rfl rfl, (lw_g_at 9 (by decide +kernel) rfl), by decide +kernel, by decide +kernel, by decide +kernel⟩
set_option maxRecDepth 40000 in
theorem oI_Sp_timesPoints : pz_okI I_Sp_timesPoints := ⟨by decide, lw_g_at 717 rfl rfl, (lw_g_at 9 (by decide +kernel) rfl), by decide +kernel, by decide +kernel, by decide +kernel⟩
set_option maxRecDepth 40000 in
theorem oI_Sp_oddsAt : pz_okI I_Sp_oddsAt := ⟨by decide, lw_g_at 808 rfl rfl, (lw_g_at 9 (by decide +kernel) rfl), by decide +kernel, by decide +kernel, by decide +kernel⟩
set_option maxRecDepth 40000 in
theorem oI_Ta_init : pz_okI I_Ta_init := ⟨by decide, lw_g_at 32 rfl rfl, (lw_g_at 2 (by decide +kernel) rfl), by decide +kernel, by decide +kernel, by decide +kernel⟩
set_option maxRecDepth 40000 in
theorem oI_Ta_bytesOf : pz_okI I_Ta_bytesOf := ⟨by decide, lw_g_at 261 rfl rfl, (lw_g_at 2 (by decide +kernel) rfl), by decide +kernel, by decide +kernel, by decide +kernel⟩
set_option maxRecDepth 40000 in
theorem oI_Ta_size : pz_okI I_Ta_size := ⟨by decide, lw_g_at 265 rfl rfl, (lw_g_at 2 (by decide +kernel) rfl), by decide +kernel, by decide +kernel, by decide +kernel⟩
set_option maxRecDepth 40000 in
theorem oI_Ta_add : pz_okI I_Ta_add := ⟨by decide, lw_g_at 269 rfl rfl, (lw_g_at 2 (by decide +kernel) rfl), by decide +kernel, by decide +kernel, by decide +kernel⟩
set_option maxRecDepth 40000 in
theorem oI_Ta_cutTo : pz_okI I_Ta_cutTo := ⟨by decide, lw_g_at 277 rfl rfl, (lw_g_at 2 (by decide +kernel) rfl), by decide +kernel, by decide +kernel, by decide +kernel⟩
set_option maxRecDepth 40000 in
theorem oI_Ta_rewind : pz_okI I_Ta_rewind := ⟨by decide, lw_g_at 289 rfl rfl, (lw_g_at 2 (by decide +kernel) rfl), by decide +kernel, by decide +kernel, by decide +kernel⟩
set_option maxRecDepth 40000 in
theorem oI_Ta_sign : pz_okI I_Ta_sign := ⟨by decide, lw_g_at 311 rfl rfl, (lw_g_at 2 (by decide +kernel) rfl), by decide +kernel, by decide +kernel, by decide +kernel⟩
set_option maxRecDepth 40000 in
theorem oI_Ta_step : pz_okI I_Ta_step := ⟨by decide, lw_g_at 315 rfl rfl, (lw_g_at 2 (by decide +kernel) rfl), by decide +kernel, by decide +kernel, by decide +kernel⟩
set_option maxRecDepth 40000 in
theorem oI_Ta_number : pz_okI I_Ta_number := ⟨by decide, lw_g_at 333 rfl rfl, (lw_g_at 2 (by decide +kernel) rfl), by decide +kernel, by decide +kernel, by decide +kernel⟩
set_option maxRecDepth 40000 in
theorem oI_Ta_digitHere : pz_okI I_Ta_digitHere := ⟨by decide, lw_g_at 338 rfl rfl, (lw_g_at 2 (by decide +kernel) rfl), by decide +kernel, by decide +kernel, by decide +kernel⟩
set_option maxRecDepth 40000 in
theorem oI_Ta_fail : pz_okI I_Ta_fail := ⟨by decide, lw_g_at 382 rfl rfl, (lw_g_at 2 (by decide +kernel) rfl), by decide +kernel, by decide +kernel, by decide +kernel⟩
set_option maxRecDepth 40000 in
theorem oI_Ta_takes : pz_okI I_Ta_takes := ⟨by decide, lw_g_at 386 rfl rfl, (lw_g_at 2 (by decide +kernel) rfl), by decide +kernel, by decide +kernel, by decide +kernel⟩
set_option maxRecDepth 40000 in
theorem oI_Ta_wants : pz_okI I_Ta_wants := ⟨by decide, lw_g_at 403 rfl rfl, (lw_g_at 2 (by decide +kernel) rfl), by decide +kernel, by decide +kernel, by decide +kernel⟩
set_option maxRecDepth 40000 in
theorem oI_Ta_wrongAt : pz_okI I_Ta_wrongAt := ⟨by decide, lw_g_at 459 rfl rfl, (lw_g_at 2 (by decide +kernel) rfl), by decide +kernel, by decide +kernel, by decide +kernel⟩
set_option maxRecDepth 40000 in
theorem oI_CC_init : pz_okI I_CC_init := ⟨by decide, lw_g_at 24 rfl rfl, (lw_g_at 1 (by decide +kernel) rfl), by decide +kernel, by decide +kernel, by decide +kernel⟩
set_option maxRecDepth 40000 in
theorem oI_CC_feed : pz_okI I_CC_feed := ⟨by decide, lw_g_at 258 rfl rfl, (lw_g_at 1 (by decide +kernel) rfl), by decide +kernel, by decide +kernel, by decide +kernel⟩
set_option maxRecDepth 40000 in
theorem oI_CC_end : pz_okI I_CC_end := ⟨by decide, lw_g_at 273 rfl rfl, (lw_g_at 1 (by decide +kernel) rfl), by decide +kernel, by decide +kernel, by decide +kernel⟩
set_option maxRecDepth 40000 in
theorem oI_CC_fault : pz_okI I_CC_fault := ⟨by decide, lw_g_at 281 rfl rfl, (lw_g_at 1 (by decide +kernel) rfl), by decide +kernel, by decide +kernel, by decide +kernel⟩
set_option maxRecDepth 40000 in
theorem oI_CC_placeOf : pz_okI I_CC_placeOf := ⟨by decide, lw_g_at 326 rfl rfl, (lw_g_at 1 (by decide +kernel) rfl), by decide +kernel, by decide +kernel, by decide +kernel⟩
set_option maxRecDepth 40000 in
theorem oI_CC_isIn : pz_okI I_CC_isIn := ⟨by decide, lw_g_at 329 rfl rfl, (lw_g_at 1 (by decide +kernel) rfl), by decide +kernel, by decide +kernel, by decide +kernel⟩
set_option maxRecDepth 40000 in
theorem oI_CC_text : pz_okI I_CC_text := ⟨by decide, lw_g_at 463 rfl rfl, (lw_g_at 1 (by decide +kernel) rfl), by decide +kernel, by decide +kernel, by decide +kernel⟩
set_option maxRecDepth 40000 in
theorem oI_CC_openCourt : pz_okI I_CC_openCourt := ⟨by decide, lw_g_at 467 rfl rfl, (lw_g_at 1 (by decide +kernel) rfl), by decide +kernel, by decide +kernel, by decide +kernel⟩
set_option maxRecDepth 40000 in
theorem oI_CC_tellLaw : pz_okI I_CC_tellLaw := ⟨by decide, lw_g_at 487 rfl rfl, (lw_g_at 1 (by decide +kernel) rfl), by decide +kernel, by decide +kernel, by decide +kernel⟩
set_option maxRecDepth 40000 in
theorem oI_CC_bench : pz_okI I_CC_bench := ⟨by decide, lw_g_at 499 rfl rfl, (lw_g_at 1 (by decide +kernel) rfl), by decide +kernel, by decide +kernel, by decide +kernel⟩
set_option maxRecDepth 40000 in
theorem oI_CC_accused : pz_okI I_CC_accused := ⟨by decide, lw_g_at 507 rfl rfl, (lw_g_at 1 (by decide +kernel) rfl), by decide +kernel, by decide +kernel, by decide +kernel⟩
set_option maxRecDepth 40000 in
theorem oI_CC_law : pz_okI I_CC_law := ⟨by decide, lw_g_at 520 rfl rfl, (lw_g_at 1 (by decide +kernel) rfl), by decide +kernel, by decide +kernel, by decide +kernel⟩
set_option maxRecDepth 40000 in
theorem oI_CC_count : pz_okI I_CC_count := ⟨by decide, lw_g_at 524 rfl rfl, (lw_g_at 1 (by decide +kernel) rfl), by decide +kernel, by decide +kernel, by decide +kernel⟩
set_option maxRecDepth 40000 in
theorem oI_CC_mood : pz_okI I_CC_mood := ⟨by decide, lw_g_at 553 rfl rfl, (lw_g_at 1 (by decide +kernel) rfl), by decide +kernel, by decide +kernel, by decide +kernel⟩
set_option maxRecDepth 40000 in
theorem oI_CC_isPair : pz_okI I_CC_isPair := ⟨by decide, lw_g_at 557 rfl rfl, (lw_g_at 1 (by decide +kernel) rfl), by decide +kernel, by decide +kernel, by decide +kernel⟩
set_option maxRecDepth 40000 in
theorem oI_CC_isDeed : pz_okI I_CC_isDeed := ⟨by decide, lw_g_at 564 rfl rfl, (lw_g_at 1 (by decide +kernel) rfl), by decide +kernel, by decide +kernel, by decide +kernel⟩
set_option maxRecDepth 40000 in
theorem oI_CC_isBit : pz_okI I_CC_isBit := ⟨by decide, lw_g_at 567 rfl rfl, (lw_g_at 1 (by decide +kernel) rfl), by decide +kernel, by decide +kernel, by decide +kernel⟩
set_option maxRecDepth 40000 in
theorem oI_CC_thinkOf : pz_okI I_CC_thinkOf := ⟨by decide, lw_g_at 571 rfl rfl, (lw_g_at 1 (by decide +kernel) rfl), by decide +kernel, by decide +kernel, by decide +kernel⟩
set_option maxRecDepth 40000 in
theorem oI_CC_lawAt : pz_okI I_CC_lawAt := ⟨by decide, lw_g_at 575 rfl rfl, (lw_g_at 1 (by decide +kernel) rfl), by decide +kernel, by decide +kernel, by decide +kernel⟩
set_option maxRecDepth 40000 in
theorem oI_CC_odds : pz_okI I_CC_odds := ⟨by decide, lw_g_at 609 rfl rfl, (lw_g_at 1 (by decide +kernel) rfl), by decide +kernel, by decide +kernel, by decide +kernel⟩
set_option maxRecDepth 40000 in
theorem oI_CC_held : pz_okI I_CC_held := ⟨by decide, lw_g_at 624 rfl rfl, (lw_g_at 1 (by decide +kernel) rfl), by decide +kernel, by decide +kernel, by decide +kernel⟩
set_option maxRecDepth 40000 in
theorem oI_CC_isCase : pz_okI I_CC_isCase := ⟨by decide, lw_g_at 628 rfl rfl, (lw_g_at 1 (by decide +kernel) rfl), by decide +kernel, by decide +kernel, by decide +kernel⟩
set_option maxRecDepth 40000 in
theorem oI_CC_isSet : pz_okI I_CC_isSet := ⟨by decide, lw_g_at 632 rfl rfl, (lw_g_at 1 (by decide +kernel) rfl), by decide +kernel, by decide +kernel, by decide +kernel⟩
set_option maxRecDepth 40000 in
theorem oI_CC_right : pz_okI I_CC_right := ⟨by decide, lw_g_at 691 rfl rfl, (lw_g_at 1 (by decide +kernel) rfl), by decide +kernel, by decide +kernel, by decide +kernel⟩
set_option maxRecDepth 40000 in
theorem oI_CC_rightNow : pz_okI I_CC_rightNow := ⟨by decide, lw_g_at 695 rfl rfl, (lw_g_at 1 (by decide +kernel) rfl), by decide +kernel, by decide +kernel, by decide +kernel⟩
set_option maxRecDepth 40000 in
theorem oI_CC_hundredths : pz_okI I_CC_hundredths := ⟨by decide, lw_g_at 703 rfl rfl, (lw_g_at 1 (by decide +kernel) rfl), by decide +kernel, by decide +kernel, by decide +kernel⟩
set_option maxRecDepth 40000 in
theorem oI_CC_mean : pz_okI I_CC_mean := ⟨by decide, lw_g_at 709 rfl rfl, (lw_g_at 1 (by decide +kernel) rfl), by decide +kernel, by decide +kernel, by decide +kernel⟩
set_option maxRecDepth 40000 in
theorem oI_CC_likely : pz_okI I_CC_likely := ⟨by decide, lw_g_at 722 rfl rfl, (lw_g_at 1 (by decide +kernel) rfl), by decide +kernel, by decide +kernel, by decide +kernel⟩
set_option maxRecDepth 40000 in
theorem oI_CC_quiet : pz_okI I_CC_quiet := ⟨by decide, lw_g_at 730 rfl rfl, (lw_g_at 1 (by decide +kernel) rfl), by decide +kernel, by decide +kernel, by decide +kernel⟩
set_option maxRecDepth 40000 in
theorem oI_CC_share : pz_okI I_CC_share := ⟨by decide, lw_g_at 735 rfl rfl, (lw_g_at 1 (by decide +kernel) rfl), by decide +kernel, by decide +kernel, by decide +kernel⟩
set_option maxRecDepth 40000 in
theorem oI_CC_surely : pz_okI I_CC_surely := ⟨by decide, lw_g_at 740 rfl rfl, (lw_g_at 1 (by decide +kernel) rfl), by decide +kernel, by decide +kernel, by decide +kernel⟩
set_option maxRecDepth 40000 in
theorem oI_CC_noisy : pz_okI I_CC_noisy := ⟨by decide, lw_g_at 744 rfl rfl, (lw_g_at 1 (by decide +kernel) rfl), by decide +kernel, by decide +kernel, by decide +kernel⟩
set_option maxRecDepth 40000 in
theorem oI_CC_purrsApart : pz_okI I_CC_purrsApart := ⟨by decide, lw_g_at 748 rfl rfl, (lw_g_at 1 (by decide +kernel) rfl), by decide +kernel, by decide +kernel, by decide +kernel⟩
set_option maxRecDepth 40000 in
theorem oI_CC_alike : pz_okI I_CC_alike := ⟨by decide, lw_g_at 755 rfl rfl, (lw_g_at 1 (by decide +kernel) rfl), by decide +kernel, by decide +kernel, by decide +kernel⟩
set_option maxRecDepth 40000 in
theorem oI_CC_fish : pz_okI I_CC_fish := ⟨by decide, lw_g_at 759 rfl rfl, (lw_g_at 1 (by decide +kernel) rfl), by decide +kernel, by decide +kernel, by decide +kernel⟩
set_option maxRecDepth 40000 in
theorem oI_CC_nights : pz_okI I_CC_nights := ⟨by decide, lw_g_at 771 rfl rfl, (lw_g_at 1 (by decide +kernel) rfl), by decide +kernel, by decide +kernel, by decide +kernel⟩
set_option maxRecDepth 40000 in
theorem oI_CC_heat : pz_okI I_CC_heat := ⟨by decide, lw_g_at 777 rfl rfl, (lw_g_at 1 (by decide +kernel) rfl), by decide +kernel, by decide +kernel, by decide +kernel⟩
set_option maxRecDepth 40000 in
theorem oI_CC_milk : pz_okI I_CC_milk := ⟨by decide, lw_g_at 781 rfl rfl, (lw_g_at 1 (by decide +kernel) rfl), by decide +kernel, by decide +kernel, by decide +kernel⟩
set_option maxRecDepth 40000 in
theorem oI_CC_retire : pz_okI I_CC_retire := ⟨by decide, lw_g_at 786 rfl rfl, (lw_g_at 1 (by decide +kernel) rfl), by decide +kernel, by decide +kernel, by decide +kernel⟩
set_option maxRecDepth 40000 in
theorem oI_CC_hear : pz_okI I_CC_hear := ⟨by decide, lw_g_at 790 rfl rfl, (lw_g_at 1 (by decide +kernel) rfl), by decide +kernel, by decide +kernel, by decide +kernel⟩
set_option maxRecDepth 40000 in
theorem oI_CC_entry : pz_okI I_CC_entry := ⟨by decide, lw_g_at 813 rfl rfl, (lw_g_at 1 (by decide +kernel) rfl), by decide +kernel, by decide +kernel, by decide +kernel⟩
set_option maxRecDepth 40000 in
theorem oI_CC_undo : pz_okI I_CC_undo := ⟨by decide, lw_g_at 827 rfl rfl, (lw_g_at 1 (by decide +kernel) rfl), by decide +kernel, by decide +kernel, by decide +kernel⟩
set_option maxRecDepth 40000 in
theorem oI_CC_image : pz_okI I_CC_image := ⟨by decide, lw_g_at 835 rfl rfl, (lw_g_at 1 (by decide +kernel) rfl), by decide +kernel, by decide +kernel, by decide +kernel⟩
set_option maxRecDepth 40000 in
theorem oI_CC_back : pz_okI I_CC_back := ⟨by decide, lw_g_at 839 rfl rfl, (lw_g_at 1 (by decide +kernel) rfl), by decide +kernel, by decide +kernel, by decide +kernel⟩
set_option maxRecDepth 40000 in
theorem oI_CC_log : pz_okI I_CC_log := ⟨by decide, lw_g_at 843 rfl rfl, (lw_g_at 1 (by decide +kernel) rfl), by decide +kernel, by decide +kernel, by decide +kernel⟩
set_option maxRecDepth 40000 in
theorem oI_CC_partOf : pz_okI I_CC_partOf := ⟨by decide, lw_g_at 847 rfl rfl, (lw_g_at 1 (by decide +kernel) rfl), by decide +kernel, by decide +kernel, by decide +kernel⟩
set_option maxRecDepth 40000 in
theorem oI_CC_catOf : pz_okI I_CC_catOf := ⟨by decide, lw_g_at 850 rfl rfl, (lw_g_at 1 (by decide +kernel) rfl), by decide +kernel, by decide +kernel, by decide +kernel⟩
set_option maxRecDepth 40000 in
theorem oI_CC_accusedOf : pz_okI I_CC_accusedOf := ⟨by decide, lw_g_at 853 rfl rfl, (lw_g_at 1 (by decide +kernel) rfl), by decide +kernel, by decide +kernel, by decide +kernel⟩
set_option maxRecDepth 40000 in
theorem oI_CC_deedOf : pz_okI I_CC_deedOf := ⟨by decide, lw_g_at 856 rfl rfl, (lw_g_at 1 (by decide +kernel) rfl), by decide +kernel, by decide +kernel, by decide +kernel⟩
set_option maxRecDepth 40000 in
theorem oI_CC_often : pz_okI I_CC_often := ⟨by decide, lw_g_at 860 rfl rfl, (lw_g_at 1 (by decide +kernel) rfl), by decide +kernel, by decide +kernel, by decide +kernel⟩
set_option maxRecDepth 40000 in
theorem oI_CC_harsh : pz_okI I_CC_harsh := ⟨by decide, lw_g_at 864 rfl rfl, (lw_g_at 1 (by decide +kernel) rfl), by decide +kernel, by decide +kernel, by decide +kernel⟩
set_option maxRecDepth 40000 in
theorem oI_CC_pointsBroughtBy : pz_okI I_CC_pointsBroughtBy := ⟨by decide, lw_g_at 868 rfl rfl, (lw_g_at 1 (by decide +kernel) rfl), by decide +kernel, by decide +kernel, by decide +kernel⟩
set_option maxRecDepth 40000 in
theorem oI_CC_ask : pz_okI I_CC_ask := ⟨by decide, lw_g_at 872 rfl rfl, (lw_g_at 1 (by decide +kernel) rfl), by decide +kernel, by decide +kernel, by decide +kernel⟩
set_option maxRecDepth 40000 in
theorem oI_CC_mirrored : pz_okI I_CC_mirrored := ⟨by decide, lw_g_at 875 rfl rfl, (lw_g_at 1 (by decide +kernel) rfl), by decide +kernel, by decide +kernel, by decide +kernel⟩
set_option maxRecDepth 40000 in
theorem oI_CC_three : pz_okI I_CC_three := ⟨by decide, lw_g_at 879 rfl rfl, (lw_g_at 1 (by decide +kernel) rfl), by decide +kernel, by decide +kernel, by decide +kernel⟩
set_option maxRecDepth 40000 in
theorem oI_CC_isThreeToOne : pz_okI I_CC_isThreeToOne := ⟨by decide, lw_g_at 883 rfl rfl, (lw_g_at 1 (by decide +kernel) rfl), by decide +kernel, by decide +kernel, by decide +kernel⟩
set_option maxRecDepth 40000 in
theorem oI_CC_spare : pz_okI I_CC_spare := ⟨by decide, lw_g_at 888 rfl rfl, (lw_g_at 1 (by decide +kernel) rfl), by decide +kernel, by decide +kernel, by decide +kernel⟩
set_option maxRecDepth 40000 in
theorem oI_CC_bar : pz_okI I_CC_bar := ⟨by decide, lw_g_at 892 rfl rfl, (lw_g_at 1 (by decide +kernel) rfl), by decide +kernel, by decide +kernel, by decide +kernel⟩
set_option maxRecDepth 40000 in
theorem oI_CC_moonlit : pz_okI I_CC_moonlit := ⟨by decide, lw_g_at 896 rfl rfl, (lw_g_at 1 (by decide +kernel) rfl), by decide +kernel, by decide +kernel, by decide +kernel⟩
set_option maxRecDepth 40000 in
theorem oI_CC_mercy : pz_okI I_CC_mercy := ⟨by decide, lw_g_at 900 rfl rfl, (lw_g_at 1 (by decide +kernel) rfl), by decide +kernel, by decide +kernel, by decide +kernel⟩
set_option maxRecDepth 40000 in
theorem oI_CC_weighTreats : pz_okI I_CC_weighTreats := ⟨by decide, lw_g_at 904 rfl rfl, (lw_g_at 1 (by decide +kernel) rfl), by decide +kernel, by decide +kernel, by decide +kernel⟩
set_option maxRecDepth 40000 in
theorem oI_CC_fishIn : pz_okI I_CC_fishIn := ⟨by decide, lw_g_at 909 rfl rfl, (lw_g_at 1 (by decide +kernel) rfl), by decide +kernel, by decide +kernel, by decide +kernel⟩
set_option maxRecDepth 40000 in
theorem oI_CC_treatAt : pz_okI I_CC_treatAt := ⟨by decide, lw_g_at 912 rfl rfl, (lw_g_at 1 (by decide +kernel) rfl), by decide +kernel, by decide +kernel, by decide +kernel⟩
set_option maxRecDepth 40000 in
theorem oI_CC_isMerciful : pz_okI I_CC_isMerciful := ⟨by decide, lw_g_at 916 rfl rfl, (lw_g_at 1 (by decide +kernel) rfl), by decide +kernel, by decide +kernel, by decide +kernel⟩
set_option maxRecDepth 40000 in
theorem oI_CC_rowOf : pz_okI I_CC_rowOf := ⟨by decide, lw_g_at 920 rfl rfl, (lw_g_at 1 (by decide +kernel) rfl), by decide +kernel, by decide +kernel, by decide +kernel⟩
set_option maxRecDepth 40000 in
theorem oI_CC_appeals : pz_okI I_CC_appeals := ⟨by decide, lw_g_at 924 rfl rfl, (lw_g_at 1 (by decide +kernel) rfl), by decide +kernel, by decide +kernel, by decide +kernel⟩
set_option maxRecDepth 40000 in
theorem oI_CC_brothers : pz_okI I_CC_brothers := ⟨by decide, lw_g_at 928 rfl rfl, (lw_g_at 1 (by decide +kernel) rfl), by decide +kernel, by decide +kernel, by decide +kernel⟩
set_option maxRecDepth 40000 in
theorem oI_CC_heldByGuilt : pz_okI I_CC_heldByGuilt := ⟨by decide, lw_g_at 932 rfl rfl, (lw_g_at 1 (by decide +kernel) rfl), by decide +kernel, by decide +kernel, by decide +kernel⟩
set_option maxRecDepth 40000 in
theorem oI_CC_free : pz_okI I_CC_free := ⟨by decide, lw_g_at 937 rfl rfl, (lw_g_at 1 (by decide +kernel) rfl), by decide +kernel, by decide +kernel, by decide +kernel⟩
set_option maxRecDepth 40000 in
theorem oI_CC_rests : pz_okI I_CC_rests := ⟨by decide, lw_g_at 941 rfl rfl, (lw_g_at 1 (by decide +kernel) rfl), by decide +kernel, by decide +kernel, by decide +kernel⟩
set_option maxRecDepth 40000 in
theorem oI_CC_wash : pz_okI I_CC_wash := ⟨by decide, lw_g_at 945 rfl rfl, (lw_g_at 1 (by decide +kernel) rfl), by decide +kernel, by decide +kernel, by decide +kernel⟩
set_option maxRecDepth 40000 in
theorem oI_CC_isRest : pz_okI I_CC_isRest := ⟨by decide, lw_g_at 949 rfl rfl, (lw_g_at 1 (by decide +kernel) rfl), by decide +kernel, by decide +kernel, by decide +kernel⟩
set_option maxRecDepth 40000 in
theorem oI_CC_washedAt : pz_okI I_CC_washedAt := ⟨by decide, lw_g_at 953 rfl rfl, (lw_g_at 1 (by decide +kernel) rfl), by decide +kernel, by decide +kernel, by decide +kernel⟩
set_option maxRecDepth 40000 in
theorem oI_CC_see : pz_okI I_CC_see := ⟨by decide, lw_g_at 957 rfl rfl, (lw_g_at 1 (by decide +kernel) rfl), by decide +kernel, by decide +kernel, by decide +kernel⟩
set_option maxRecDepth 40000 in
theorem oI_CC_guess : pz_okI I_CC_guess := ⟨by decide, lw_g_at 961 rfl rfl, (lw_g_at 1 (by decide +kernel) rfl), by decide +kernel, by decide +kernel, by decide +kernel⟩
set_option maxRecDepth 40000 in
theorem oI_CC_partsSeen : pz_okI I_CC_partsSeen := ⟨by decide, lw_g_at 965 rfl rfl, (lw_g_at 1 (by decide +kernel) rfl), by decide +kernel, by decide +kernel, by decide +kernel⟩
set_option maxRecDepth 40000 in
theorem oI_CC_drank : pz_okI I_CC_drank := ⟨by decide, lw_g_at 970 rfl rfl, (lw_g_at 1 (by decide +kernel) rfl), by decide +kernel, by decide +kernel, by decide +kernel⟩
set_option maxRecDepth 40000 in
theorem oI_CC_possibleBy : pz_okI I_CC_possibleBy := ⟨by decide, lw_g_at 974 rfl rfl, (lw_g_at 1 (by decide +kernel) rfl), by decide +kernel, by decide +kernel, by decide +kernel⟩
set_option maxRecDepth 40000 in
theorem oI_CC_canBe : pz_okI I_CC_canBe := ⟨by decide, lw_g_at 978 rfl rfl, (lw_g_at 1 (by decide +kernel) rfl), by decide +kernel, by decide +kernel, by decide +kernel⟩
set_option maxRecDepth 40000 in
theorem oI_CC_isDrunkBy : pz_okI I_CC_isDrunkBy := ⟨by decide, lw_g_at 982 rfl rfl, (lw_g_at 1 (by decide +kernel) rfl), by decide +kernel, by decide +kernel, by decide +kernel⟩
set_option maxRecDepth 40000 in
theorem oI_CC_sure : pz_okI I_CC_sure := ⟨by decide, lw_g_at 986 rfl rfl, (lw_g_at 1 (by decide +kernel) rfl), by decide +kernel, by decide +kernel, by decide +kernel⟩
set_option maxRecDepth 40000 in
theorem oI_CC_fits : pz_okI I_CC_fits := ⟨by decide, lw_g_at 990 rfl rfl, (lw_g_at 1 (by decide +kernel) rfl), by decide +kernel, by decide +kernel, by decide +kernel⟩
set_option maxRecDepth 40000 in
theorem oI_CC_fitting : pz_okI I_CC_fitting := ⟨by decide, lw_g_at 994 rfl rfl, (lw_g_at 1 (by decide +kernel) rfl), by decide +kernel, by decide +kernel, by decide +kernel⟩
set_option maxRecDepth 40000 in
theorem oI_CC_cat : pz_okI I_CC_cat := ⟨by decide, lw_g_at 1002 rfl rfl, (lw_g_at 1 (by decide +kernel) rfl), by decide +kernel, by decide +kernel, by decide +kernel⟩
set_option maxRecDepth 40000 in
theorem oI_Mo_init : pz_okI I_Mo_init := ⟨by decide, lw_g_at 1073 rfl rfl, (lw_g_at 12 (by decide +kernel) rfl), by decide +kernel, by decide +kernel, by decide +kernel⟩
set_option maxRecDepth 40000 in
theorem oI_Mo_thrown : pz_okI I_Mo_thrown := ⟨by decide, lw_g_at 1229 rfl rfl, (lw_g_at 12 (by decide +kernel) rfl), by decide +kernel, by decide +kernel, by decide +kernel⟩
set_option maxRecDepth 40000 in
theorem oI_Mo_feed : pz_okI I_Mo_feed := ⟨by decide, lw_g_at 1233 rfl rfl, (lw_g_at 12 (by decide +kernel) rfl), by decide +kernel, by decide +kernel, by decide +kernel⟩
set_option maxRecDepth 40000 in
theorem oI_Mo_byteOf : pz_okI I_Mo_byteOf := ⟨by decide, lw_g_at 1236 rfl rfl, (lw_g_at 12 (by decide +kernel) rfl), by decide +kernel, by decide +kernel, by decide +kernel⟩
set_option maxRecDepth 40000 in
theorem oI_Mo_end : pz_okI I_Mo_end := ⟨by decide, lw_g_at 1240 rfl rfl, (lw_g_at 12 (by decide +kernel) rfl), by decide +kernel, by decide +kernel, by decide +kernel⟩
set_option maxRecDepth 40000 in
theorem oI_Mo_fault : pz_okI I_Mo_fault := ⟨by decide, lw_g_at 1244 rfl rfl, (lw_g_at 12 (by decide +kernel) rfl), by decide +kernel, by decide +kernel, by decide +kernel⟩
set_option maxRecDepth 40000 in
theorem oI_Mo_readCourt : pz_okI I_Mo_readCourt := ⟨by decide, lw_g_at 1248 rfl rfl, (lw_g_at 12 (by decide +kernel) rfl), by decide +kernel, by decide +kernel, by decide +kernel⟩
set_option maxRecDepth 40000 in
theorem oI_Mo_usual : pz_okI I_Mo_usual := ⟨by decide, lw_g_at 1251 rfl rfl, (lw_g_at 12 (by decide +kernel) rfl), by decide +kernel, by decide +kernel, by decide +kernel⟩
set_option maxRecDepth 40000 in
theorem oI_Mo_look : pz_okI I_Mo_look := ⟨by decide, lw_g_at 1255 rfl rfl, (lw_g_at 12 (by decide +kernel) rfl), by decide +kernel, by decide +kernel, by decide +kernel⟩
set_option maxRecDepth 40000 in
theorem oI_Mo_here : pz_okI I_Mo_here := ⟨by decide, lw_g_at 1259 rfl rfl, (lw_g_at 12 (by decide +kernel) rfl), by decide +kernel, by decide +kernel, by decide +kernel⟩
set_option maxRecDepth 40000 in
theorem oI_Mo_items : pz_okI I_Mo_items := ⟨by decide, lw_g_at 1263 rfl rfl, (lw_g_at 12 (by decide +kernel) rfl), by decide +kernel, by decide +kernel, by decide +kernel⟩
set_option maxRecDepth 40000 in
theorem oI_Mo_itemOf : pz_okI I_Mo_itemOf := ⟨by decide, lw_g_at 1266 rfl rfl, (lw_g_at 12 (by decide +kernel) rfl), by decide +kernel, by decide +kernel, by decide +kernel⟩
set_option maxRecDepth 40000 in
theorem oI_Mo_deedOf : pz_okI I_Mo_deedOf := ⟨by decide, lw_g_at 1269 rfl rfl, (lw_g_at 12 (by decide +kernel) rfl), by decide +kernel, by decide +kernel, by decide +kernel⟩
set_option maxRecDepth 40000 in
theorem oI_Mo_has : pz_okI I_Mo_has := ⟨by decide, lw_g_at 1272 rfl rfl, (lw_g_at 12 (by decide +kernel) rfl), by decide +kernel, by decide +kernel, by decide +kernel⟩
set_option maxRecDepth 40000 in
theorem oI_Mo_highest : pz_okI I_Mo_highest := ⟨by decide, lw_g_at 1275 rfl rfl, (lw_g_at 12 (by decide +kernel) rfl), by decide +kernel, by decide +kernel, by decide +kernel⟩
set_option maxRecDepth 40000 in
theorem oI_Mo_number : pz_okI I_Mo_number := ⟨by decide, lw_g_at 1279 rfl rfl, (lw_g_at 12 (by decide +kernel) rfl), by decide +kernel, by decide +kernel, by decide +kernel⟩
set_option maxRecDepth 40000 in
theorem oI_Mo_isDigit : pz_okI I_Mo_isDigit := ⟨by decide, lw_g_at 1282 rfl rfl, (lw_g_at 12 (by decide +kernel) rfl), by decide +kernel, by decide +kernel, by decide +kernel⟩
set_option maxRecDepth 40000 in
theorem oI_Mo_bad : pz_okI I_Mo_bad := ⟨by decide, lw_g_at 1286 rfl rfl, (lw_g_at 12 (by decide +kernel) rfl), by decide +kernel, by decide +kernel, by decide +kernel⟩
set_option maxRecDepth 40000 in
theorem oI_Mo_readLaw : pz_okI I_Mo_readLaw := ⟨by decide, lw_g_at 1290 rfl rfl, (lw_g_at 12 (by decide +kernel) rfl), by decide +kernel, by decide +kernel, by decide +kernel⟩
set_option maxRecDepth 40000 in
theorem oI_Mo_open : pz_okI I_Mo_open := ⟨by decide, lw_g_at 1294 rfl rfl, (lw_g_at 12 (by decide +kernel) rfl), by decide +kernel, by decide +kernel, by decide +kernel⟩
set_option maxRecDepth 40000 in
theorem oI_Mo_clause : pz_okI I_Mo_clause := ⟨by decide, lw_g_at 1298 rfl rfl, (lw_g_at 12 (by decide +kernel) rfl), by decide +kernel, by decide +kernel, by decide +kernel⟩
set_option maxRecDepth 40000 in
theorem oI_Mo_condition : pz_okI I_Mo_condition := ⟨by decide, lw_g_at 1302 rfl rfl, (lw_g_at 12 (by decide +kernel) rfl), by decide +kernel, by decide +kernel, by decide +kernel⟩
set_option maxRecDepth 40000 in
theorem oI_Mo_unit : pz_okI I_Mo_unit := ⟨by decide, lw_g_at 1306 rfl rfl, (lw_g_at 12 (by decide +kernel) rfl), by decide +kernel, by decide +kernel, by decide +kernel⟩
set_option maxRecDepth 40000 in
theorem oI_Mo_opens : pz_okI I_Mo_opens := ⟨by decide, lw_g_at 1310 rfl rfl, (lw_g_at 12 (by decide +kernel) rfl), by decide +kernel, by decide +kernel, by decide +kernel⟩
set_option maxRecDepth 40000 in
theorem oI_Mo_put : pz_okI I_Mo_put := ⟨by decide, lw_g_at 1314 rfl rfl, (lw_g_at 12 (by decide +kernel) rfl), by decide +kernel, by decide +kernel, by decide +kernel⟩
set_option maxRecDepth 40000 in
theorem oI_Mo_closes : pz_okI I_Mo_closes := ⟨by decide, lw_g_at 1318 rfl rfl, (lw_g_at 12 (by decide +kernel) rfl), by decide +kernel, by decide +kernel, by decide +kernel⟩
set_option maxRecDepth 40000 in
theorem oI_Mo_sum : pz_okI I_Mo_sum := ⟨by decide, lw_g_at 1322 rfl rfl, (lw_g_at 12 (by decide +kernel) rfl), by decide +kernel, by decide +kernel, by decide +kernel⟩
set_option maxRecDepth 40000 in
theorem oI_Mo_term : pz_okI I_Mo_term := ⟨by decide, lw_g_at 1326 rfl rfl, (lw_g_at 12 (by decide +kernel) rfl), by decide +kernel, by decide +kernel, by decide +kernel⟩
set_option maxRecDepth 40000 in
theorem oI_Mo_atom : pz_okI I_Mo_atom := ⟨by decide, lw_g_at 1330 rfl rfl, (lw_g_at 12 (by decide +kernel) rfl), by decide +kernel, by decide +kernel, by decide +kernel⟩
set_option maxRecDepth 40000 in
theorem oI_Mo_plainNumber : pz_okI I_Mo_plainNumber := ⟨by decide, lw_g_at 1334 rfl rfl, (lw_g_at 12 (by decide +kernel) rfl), by decide +kernel, by decide +kernel, by decide +kernel⟩
set_option maxRecDepth 40000 in
theorem oI_Mo_letterOf : pz_okI I_Mo_letterOf := ⟨by decide, lw_g_at 1337 rfl rfl, (lw_g_at 12 (by decide +kernel) rfl), by decide +kernel, by decide +kernel, by decide +kernel⟩
set_option maxRecDepth 40000 in
theorem oI_Mo_compare : pz_okI I_Mo_compare := ⟨by decide, lw_g_at 1341 rfl rfl, (lw_g_at 12 (by decide +kernel) rfl), by decide +kernel, by decide +kernel, by decide +kernel⟩
set_option maxRecDepth 40000 in
theorem oI_Mo_isSign : pz_okI I_Mo_isSign := ⟨by decide, lw_g_at 1344 rfl rfl, (lw_g_at 12 (by decide +kernel) rfl), by decide +kernel, by decide +kernel, by decide +kernel⟩
set_option maxRecDepth 40000 in
theorem oI_Mo_goOnAnd : pz_okI I_Mo_goOnAnd := ⟨by decide, lw_g_at 1348 rfl rfl, (lw_g_at 12 (by decide +kernel) rfl), by decide +kernel, by decide +kernel, by decide +kernel⟩
set_option maxRecDepth 40000 in
theorem oI_Mo_goOnOr : pz_okI I_Mo_goOnOr := ⟨by decide, lw_g_at 1352 rfl rfl, (lw_g_at 12 (by decide +kernel) rfl), by decide +kernel, by decide +kernel, by decide +kernel⟩
set_option maxRecDepth 40000 in
theorem oI_Mo_atEnd : pz_okI I_Mo_atEnd := ⟨by decide, lw_g_at 1356 rfl rfl, (lw_g_at 12 (by decide +kernel) rfl), by decide +kernel, by decide +kernel, by decide +kernel⟩
set_option maxRecDepth 40000 in
theorem oI_Mo_text : pz_okI I_Mo_text := ⟨by decide, lw_g_at 1360 rfl rfl, (lw_g_at 12 (by decide +kernel) rfl), by decide +kernel, by decide +kernel, by decide +kernel⟩
set_option maxRecDepth 40000 in
theorem oI_Mo_takeCourt : pz_okI I_Mo_takeCourt := ⟨by decide, lw_g_at 1364 rfl rfl, (lw_g_at 12 (by decide +kernel) rfl), by decide +kernel, by decide +kernel, by decide +kernel⟩
set_option maxRecDepth 40000 in
theorem oI_Mo_bench : pz_okI I_Mo_bench := ⟨by decide, lw_g_at 1368 rfl rfl, (lw_g_at 12 (by decide +kernel) rfl), by decide +kernel, by decide +kernel, by decide +kernel⟩
set_option maxRecDepth 40000 in
theorem oI_Mo_in : pz_okI I_Mo_in := ⟨by decide, lw_g_at 1371 rfl rfl, (lw_g_at 12 (by decide +kernel) rfl), by decide +kernel, by decide +kernel, by decide +kernel⟩
set_option maxRecDepth 40000 in
theorem oI_Mo_cat : pz_okI I_Mo_cat := ⟨by decide, lw_g_at 1375 rfl rfl, (lw_g_at 12 (by decide +kernel) rfl), by decide +kernel, by decide +kernel, by decide +kernel⟩
set_option maxRecDepth 40000 in
theorem oI_Mo_isCat : pz_okI I_Mo_isCat := ⟨by decide, lw_g_at 1379 rfl rfl, (lw_g_at 12 (by decide +kernel) rfl), by decide +kernel, by decide +kernel, by decide +kernel⟩
set_option maxRecDepth 40000 in
theorem oI_Mo_accused : pz_okI I_Mo_accused := ⟨by decide, lw_g_at 1383 rfl rfl, (lw_g_at 12 (by decide +kernel) rfl), by decide +kernel, by decide +kernel, by decide +kernel⟩
set_option maxRecDepth 40000 in
theorem oI_Mo_isAccused : pz_okI I_Mo_isAccused := ⟨by decide, lw_g_at 1387 rfl rfl, (lw_g_at 12 (by decide +kernel) rfl), by decide +kernel, by decide +kernel, by decide +kernel⟩
set_option maxRecDepth 40000 in
theorem oI_Mo_law : pz_okI I_Mo_law := ⟨by decide, lw_g_at 1391 rfl rfl, (lw_g_at 12 (by decide +kernel) rfl), by decide +kernel, by decide +kernel, by decide +kernel⟩
set_option maxRecDepth 40000 in
theorem oI_Mo_mood : pz_okI I_Mo_mood := ⟨by decide, lw_g_at 1395 rfl rfl, (lw_g_at 12 (by decide +kernel) rfl), by decide +kernel, by decide +kernel, by decide +kernel⟩
set_option maxRecDepth 40000 in
theorem oI_Mo_isDeed : pz_okI I_Mo_isDeed := ⟨by decide, lw_g_at 1398 rfl rfl, (lw_g_at 12 (by decide +kernel) rfl), by decide +kernel, by decide +kernel, by decide +kernel⟩
set_option maxRecDepth 40000 in
theorem oI_Mo_isSide : pz_okI I_Mo_isSide := ⟨by decide, lw_g_at 1401 rfl rfl, (lw_g_at 12 (by decide +kernel) rfl), by decide +kernel, by decide +kernel, by decide +kernel⟩
set_option maxRecDepth 40000 in
theorem oI_Mo_moodOf : pz_okI I_Mo_moodOf := ⟨by decide, lw_g_at 1405 rfl rfl, (lw_g_at 12 (by decide +kernel) rfl), by decide +kernel, by decide +kernel, by decide +kernel⟩
set_option maxRecDepth 40000 in
theorem oI_Mo_plainMood : pz_okI I_Mo_plainMood := ⟨by decide, lw_g_at 1409 rfl rfl, (lw_g_at 12 (by decide +kernel) rfl), by decide +kernel, by decide +kernel, by decide +kernel⟩
set_option maxRecDepth 40000 in
theorem oI_Mo_worthOf : pz_okI I_Mo_worthOf := ⟨by decide, lw_g_at 1413 rfl rfl, (lw_g_at 12 (by decide +kernel) rfl), by decide +kernel, by decide +kernel, by decide +kernel⟩
set_option maxRecDepth 40000 in
theorem oI_Mo_workOut : pz_okI I_Mo_workOut := ⟨by decide, lw_g_at 1417 rfl rfl, (lw_g_at 12 (by decide +kernel) rfl), by decide +kernel, by decide +kernel, by decide +kernel⟩
set_option maxRecDepth 40000 in
theorem oI_Mo_worked : pz_okI I_Mo_worked := ⟨by decide, lw_g_at 1420 rfl rfl, (lw_g_at 12 (by decide +kernel) rfl), by decide +kernel, by decide +kernel, by decide +kernel⟩
set_option maxRecDepth 40000 in
theorem oI_Mo_bounded : pz_okI I_Mo_bounded := ⟨by decide, lw_g_at 1423 rfl rfl, (lw_g_at 12 (by decide +kernel) rfl), by decide +kernel, by decide +kernel, by decide +kernel⟩
set_option maxRecDepth 40000 in
theorem oI_Mo_odds : pz_okI I_Mo_odds := ⟨by decide, lw_g_at 1437 rfl rfl, (lw_g_at 12 (by decide +kernel) rfl), by decide +kernel, by decide +kernel, by decide +kernel⟩
set_option maxRecDepth 40000 in
theorem oI_Mo_oddsOf : pz_okI I_Mo_oddsOf := ⟨by decide, lw_g_at 1441 rfl rfl, (lw_g_at 12 (by decide +kernel) rfl), by decide +kernel, by decide +kernel, by decide +kernel⟩
set_option maxRecDepth 40000 in
theorem oI_Mo_layOdds : pz_okI I_Mo_layOdds := ⟨by decide, lw_g_at 1445 rfl rfl, (lw_g_at 12 (by decide +kernel) rfl), by decide +kernel, by decide +kernel, by decide +kernel⟩
set_option maxRecDepth 40000 in
theorem oI_Mo_held : pz_okI I_Mo_held := ⟨by decide, lw_g_at 1450 rfl rfl, (lw_g_at 12 (by decide +kernel) rfl), by decide +kernel, by decide +kernel, by decide +kernel⟩
set_option maxRecDepth 40000 in
theorem oI_Mo_isSet : pz_okI I_Mo_isSet := ⟨by decide, lw_g_at 1454 rfl rfl, (lw_g_at 12 (by decide +kernel) rfl), by decide +kernel, by decide +kernel, by decide +kernel⟩
set_option maxRecDepth 40000 in
theorem oI_Mo_isSitting : pz_okI I_Mo_isSitting := ⟨by decide, lw_g_at 1458 rfl rfl, (lw_g_at 12 (by decide +kernel) rfl), by decide +kernel, by decide +kernel, by decide +kernel⟩
set_option maxRecDepth 40000 in
theorem oI_Mo_heldBy : pz_okI I_Mo_heldBy := ⟨by decide, lw_g_at 1462 rfl rfl, (lw_g_at 12 (by decide +kernel) rfl), by decide +kernel, by decide +kernel, by decide +kernel⟩
set_option maxRecDepth 40000 in
theorem oI_Mo_layParts : pz_okI I_Mo_layParts := ⟨by decide, lw_g_at 1466 rfl rfl, (lw_g_at 12 (by decide +kernel) rfl), by decide +kernel, by decide +kernel, by decide +kernel⟩
set_option maxRecDepth 40000 in
theorem oI_Mo_spread : pz_okI I_Mo_spread := ⟨by decide, lw_g_at 1470 rfl rfl, (lw_g_at 12 (by decide +kernel) rfl), by decide +kernel, by decide +kernel, by decide +kernel⟩
set_option maxRecDepth 40000 in
theorem oI_Mo_partsFrom : pz_okI I_Mo_partsFrom := ⟨by decide, lw_g_at 1474 rfl rfl, (lw_g_at 12 (by decide +kernel) rfl), by decide +kernel, by decide +kernel, by decide +kernel⟩
set_option maxRecDepth 40000 in
theorem oI_Mo_right : pz_okI I_Mo_right := ⟨by decide, lw_g_at 1478 rfl rfl, (lw_g_at 12 (by decide +kernel) rfl), by decide +kernel, by decide +kernel, by decide +kernel⟩
set_option maxRecDepth 40000 in
theorem oI_Mo_rightBy : pz_okI I_Mo_rightBy := ⟨by decide, lw_g_at 1482 rfl rfl, (lw_g_at 12 (by decide +kernel) rfl), by decide +kernel, by decide +kernel, by decide +kernel⟩
set_option maxRecDepth 40000 in
theorem oI_Mo_rightOf : pz_okI I_Mo_rightOf := ⟨by decide, lw_g_at 1486 rfl rfl, (lw_g_at 12 (by decide +kernel) rfl), by decide +kernel, by decide +kernel, by decide +kernel⟩
set_option maxRecDepth 40000 in
theorem oI_Mo_fish : pz_okI I_Mo_fish := ⟨by decide, lw_g_at 1491 rfl rfl, (lw_g_at 12 (by decide +kernel) rfl), by decide +kernel, by decide +kernel, by decide +kernel⟩
set_option maxRecDepth 40000 in
theorem oI_Mo_keep : pz_okI I_Mo_keep := ⟨by decide, lw_g_at 1495 rfl rfl, (lw_g_at 12 (by decide +kernel) rfl), by decide +kernel, by decide +kernel, by decide +kernel⟩
set_option maxRecDepth 40000 in
theorem oI_Mo_nights : pz_okI I_Mo_nights := ⟨by decide, lw_g_at 1499 rfl rfl, (lw_g_at 12 (by decide +kernel) rfl), by decide +kernel, by decide +kernel, by decide +kernel⟩
set_option maxRecDepth 40000 in
theorem oI_Mo_heat : pz_okI I_Mo_heat := ⟨by decide, lw_g_at 1503 rfl rfl, (lw_g_at 12 (by decide +kernel) rfl), by decide +kernel, by decide +kernel, by decide +kernel⟩
set_option maxRecDepth 40000 in
theorem oI_Mo_told : pz_okI I_Mo_told := ⟨by decide, lw_g_at 1507 rfl rfl, (lw_g_at 12 (by decide +kernel) rfl), by decide +kernel, by decide +kernel, by decide +kernel⟩
set_option maxRecDepth 40000 in
theorem oI_Mo_milk : pz_okI I_Mo_milk := ⟨by decide, lw_g_at 1511 rfl rfl, (lw_g_at 12 (by decide +kernel) rfl), by decide +kernel, by decide +kernel, by decide +kernel⟩
set_option maxRecDepth 40000 in
theorem oI_Mo_retire : pz_okI I_Mo_retire := ⟨by decide, lw_g_at 1515 rfl rfl, (lw_g_at 12 (by decide +kernel) rfl), by decide +kernel, by decide +kernel, by decide +kernel⟩
set_option maxRecDepth 40000 in
theorem oI_Mo_hear : pz_okI I_Mo_hear := ⟨by decide, lw_g_at 1519 rfl rfl, (lw_g_at 12 (by decide +kernel) rfl), by decide +kernel, by decide +kernel, by decide +kernel⟩
set_option maxRecDepth 40000 in
theorem oI_Mo_draw : pz_okI I_Mo_draw := ⟨by decide, lw_g_at 1523 rfl rfl, (lw_g_at 12 (by decide +kernel) rfl), by decide +kernel, by decide +kernel, by decide +kernel⟩
set_option maxRecDepth 40000 in
theorem oI_Mo_drawDeed : pz_okI I_Mo_drawDeed := ⟨by decide, lw_g_at 1529 rfl rfl, (lw_g_at 12 (by decide +kernel) rfl), by decide +kernel, by decide +kernel, by decide +kernel⟩
set_option maxRecDepth 40000 in
theorem oI_Mo_note : pz_okI I_Mo_note := ⟨by decide, lw_g_at 1533 rfl rfl, (lw_g_at 12 (by decide +kernel) rfl), by decide +kernel, by decide +kernel, by decide +kernel⟩
set_option maxRecDepth 40000 in
theorem oI_Mo_undo : pz_okI I_Mo_undo := ⟨by decide, lw_g_at 1537 rfl rfl, (lw_g_at 12 (by decide +kernel) rfl), by decide +kernel, by decide +kernel, by decide +kernel⟩
set_option maxRecDepth 40000 in
theorem oI_Mo_log : pz_okI I_Mo_log := ⟨by decide, lw_g_at 1541 rfl rfl, (lw_g_at 12 (by decide +kernel) rfl), by decide +kernel, by decide +kernel, by decide +kernel⟩
set_option maxRecDepth 40000 in
theorem oI_Mo_logAt : pz_okI I_Mo_logAt := ⟨by decide, lw_g_at 1545 rfl rfl, (lw_g_at 12 (by decide +kernel) rfl), by decide +kernel, by decide +kernel, by decide +kernel⟩
set_option maxRecDepth 40000 in
theorem oI_Mo_ask : pz_okI I_Mo_ask := ⟨by decide, lw_g_at 1549 rfl rfl, (lw_g_at 12 (by decide +kernel) rfl), by decide +kernel, by decide +kernel, by decide +kernel⟩
set_option maxRecDepth 40000 in
theorem oI_Mo_three : pz_okI I_Mo_three := ⟨by decide, lw_g_at 1554 rfl rfl, (lw_g_at 12 (by decide +kernel) rfl), by decide +kernel, by decide +kernel, by decide +kernel⟩
set_option maxRecDepth 40000 in
theorem oI_Mo_spare : pz_okI I_Mo_spare := ⟨by decide, lw_g_at 1559 rfl rfl, (lw_g_at 12 (by decide +kernel) rfl), by decide +kernel, by decide +kernel, by decide +kernel⟩
set_option maxRecDepth 40000 in
theorem oI_Mo_sitting : pz_okI I_Mo_sitting := ⟨by decide, lw_g_at 1563 rfl rfl, (lw_g_at 12 (by decide +kernel) rfl), by decide +kernel, by decide +kernel, by decide +kernel⟩
set_option maxRecDepth 40000 in
theorem oI_Mo_mercy : pz_okI I_Mo_mercy := ⟨by decide, lw_g_at 1567 rfl rfl, (lw_g_at 12 (by decide +kernel) rfl), by decide +kernel, by decide +kernel, by decide +kernel⟩
set_option maxRecDepth 40000 in
theorem oI_Mo_putFish : pz_okI I_Mo_putFish := ⟨by decide, lw_g_at 1571 rfl rfl, (lw_g_at 12 (by decide +kernel) rfl), by decide +kernel, by decide +kernel, by decide +kernel⟩
set_option maxRecDepth 40000 in
theorem oI_Mo_appeals : pz_okI I_Mo_appeals := ⟨by decide, lw_g_at 1576 rfl rfl, (lw_g_at 12 (by decide +kernel) rfl), by decide +kernel, by decide +kernel, by decide +kernel⟩
set_option maxRecDepth 40000 in
theorem oI_Mo_alike : pz_okI I_Mo_alike := ⟨by decide, lw_g_at 1580 rfl rfl, (lw_g_at 12 (by decide +kernel) rfl), by decide +kernel, by decide +kernel, by decide +kernel⟩
set_option maxRecDepth 40000 in
theorem oI_Mo_rests : pz_okI I_Mo_rests := ⟨by decide, lw_g_at 1584 rfl rfl, (lw_g_at 12 (by decide +kernel) rfl), by decide +kernel, by decide +kernel, by decide +kernel⟩
set_option maxRecDepth 40000 in
theorem oI_Mo_isRest : pz_okI I_Mo_isRest := ⟨by decide, lw_g_at 1588 rfl rfl, (lw_g_at 12 (by decide +kernel) rfl), by decide +kernel, by decide +kernel, by decide +kernel⟩
set_option maxRecDepth 40000 in
theorem oI_Mo_washed : pz_okI I_Mo_washed := ⟨by decide, lw_g_at 1592 rfl rfl, (lw_g_at 12 (by decide +kernel) rfl), by decide +kernel, by decide +kernel, by decide +kernel⟩
set_option maxRecDepth 40000 in
theorem oI_Mo_surely : pz_okI I_Mo_surely := ⟨by decide, lw_g_at 1596 rfl rfl, (lw_g_at 12 (by decide +kernel) rfl), by decide +kernel, by decide +kernel, by decide +kernel⟩
set_option maxRecDepth 40000 in
theorem oI_Mo_noisy : pz_okI I_Mo_noisy := ⟨by decide, lw_g_at 1600 rfl rfl, (lw_g_at 12 (by decide +kernel) rfl), by decide +kernel, by decide +kernel, by decide +kernel⟩
set_option maxRecDepth 40000 in
theorem oI_Mo_mean : pz_okI I_Mo_mean := ⟨by decide, lw_g_at 1605 rfl rfl, (lw_g_at 12 (by decide +kernel) rfl), by decide +kernel, by decide +kernel, by decide +kernel⟩
set_option maxRecDepth 40000 in
theorem oI_Mo_likely : pz_okI I_Mo_likely := ⟨by decide, lw_g_at 1609 rfl rfl, (lw_g_at 12 (by decide +kernel) rfl), by decide +kernel, by decide +kernel, by decide +kernel⟩
set_option maxRecDepth 40000 in
theorem oI_Mo_likelyOf : pz_okI I_Mo_likelyOf := ⟨by decide, lw_g_at 1613 rfl rfl, (lw_g_at 12 (by decide +kernel) rfl), by decide +kernel, by decide +kernel, by decide +kernel⟩
set_option maxRecDepth 40000 in
theorem oI_Mo_quiet : pz_okI I_Mo_quiet := ⟨by decide, lw_g_at 1617 rfl rfl, (lw_g_at 12 (by decide +kernel) rfl), by decide +kernel, by decide +kernel, by decide +kernel⟩
set_option maxRecDepth 40000 in
theorem oI_Mo_bar : pz_okI I_Mo_bar := ⟨by decide, lw_g_at 1621 rfl rfl, (lw_g_at 12 (by decide +kernel) rfl), by decide +kernel, by decide +kernel, by decide +kernel⟩
set_option maxRecDepth 40000 in
theorem oI_Mo_moonlit : pz_okI I_Mo_moonlit := ⟨by decide, lw_g_at 1625 rfl rfl, (lw_g_at 12 (by decide +kernel) rfl), by decide +kernel, by decide +kernel, by decide +kernel⟩
set_option maxRecDepth 40000 in
theorem oI_Mo_brothers : pz_okI I_Mo_brothers := ⟨by decide, lw_g_at 1629 rfl rfl, (lw_g_at 12 (by decide +kernel) rfl), by decide +kernel, by decide +kernel, by decide +kernel⟩
set_option maxRecDepth 40000 in
theorem oI_Mo_heldAnyway : pz_okI I_Mo_heldAnyway := ⟨by decide, lw_g_at 1633 rfl rfl, (lw_g_at 12 (by decide +kernel) rfl), by decide +kernel, by decide +kernel, by decide +kernel⟩
set_option maxRecDepth 40000 in
theorem oI_Mo_see : pz_okI I_Mo_see := ⟨by decide, lw_g_at 1637 rfl rfl, (lw_g_at 12 (by decide +kernel) rfl), by decide +kernel, by decide +kernel, by decide +kernel⟩
set_option maxRecDepth 40000 in
theorem oI_Mo_guess : pz_okI I_Mo_guess := ⟨by decide, lw_g_at 1641 rfl rfl, (lw_g_at 12 (by decide +kernel) rfl), by decide +kernel, by decide +kernel, by decide +kernel⟩
set_option maxRecDepth 40000 in
theorem oI_Mo_seenParts : pz_okI I_Mo_seenParts := ⟨by decide, lw_g_at 1645 rfl rfl, (lw_g_at 12 (by decide +kernel) rfl), by decide +kernel, by decide +kernel, by decide +kernel⟩
set_option maxRecDepth 40000 in
theorem oI_Mo_drank : pz_okI I_Mo_drank := ⟨by decide, lw_g_at 1649 rfl rfl, (lw_g_at 12 (by decide +kernel) rfl), by decide +kernel, by decide +kernel, by decide +kernel⟩
set_option maxRecDepth 40000 in
theorem oI_Mo_couldDrink : pz_okI I_Mo_couldDrink := ⟨by decide, lw_g_at 1653 rfl rfl, (lw_g_at 12 (by decide +kernel) rfl), by decide +kernel, by decide +kernel, by decide +kernel⟩
set_option maxRecDepth 40000 in
theorem oI_Mo_couldBe : pz_okI I_Mo_couldBe := ⟨by decide, lw_g_at 1657 rfl rfl, (lw_g_at 12 (by decide +kernel) rfl), by decide +kernel, by decide +kernel, by decide +kernel⟩
set_option maxRecDepth 40000 in
theorem oI_Mo_sure : pz_okI I_Mo_sure := ⟨by decide, lw_g_at 1661 rfl rfl, (lw_g_at 12 (by decide +kernel) rfl), by decide +kernel, by decide +kernel, by decide +kernel⟩
set_option maxRecDepth 40000 in
theorem oI_Mo_fits : pz_okI I_Mo_fits := ⟨by decide, lw_g_at 1665 rfl rfl, (lw_g_at 12 (by decide +kernel) rfl), by decide +kernel, by decide +kernel, by decide +kernel⟩
set_option maxRecDepth 40000 in
theorem oI_Mo_fitting : pz_okI I_Mo_fitting := ⟨by decide, lw_g_at 1670 rfl rfl, (lw_g_at 12 (by decide +kernel) rfl), by decide +kernel, by decide +kernel, by decide +kernel⟩
set_option maxRecDepth 40000 in
theorem oI_Mo_often : pz_okI I_Mo_often := ⟨by decide, lw_g_at 1674 rfl rfl, (lw_g_at 12 (by decide +kernel) rfl), by decide +kernel, by decide +kernel, by decide +kernel⟩
set_option maxRecDepth 40000 in
theorem oI_Mo_harsh : pz_okI I_Mo_harsh := ⟨by decide, lw_g_at 1678 rfl rfl, (lw_g_at 12 (by decide +kernel) rfl), by decide +kernel, by decide +kernel, by decide +kernel⟩
set_option maxRecDepth 40000 in
theorem oI_Mo_free : pz_okI I_Mo_free := ⟨by decide, lw_g_at 1682 rfl rfl, (lw_g_at 12 (by decide +kernel) rfl), by decide +kernel, by decide +kernel, by decide +kernel⟩
set_option maxRecDepth 40000 in
theorem oI_Mo_image : pz_okI I_Mo_image := ⟨by decide, lw_g_at 1686 rfl rfl, (lw_g_at 12 (by decide +kernel) rfl), by decide +kernel, by decide +kernel, by decide +kernel⟩
set_option maxRecDepth 40000 in
theorem oI_Mo_back : pz_okI I_Mo_back := ⟨by decide, lw_g_at 1690 rfl rfl, (lw_g_at 12 (by decide +kernel) rfl), by decide +kernel, by decide +kernel, by decide +kernel⟩
set_option maxRecDepth 40000 in
theorem oI_Mo_count : pz_okI I_Mo_count := ⟨by decide, lw_g_at 1694 rfl rfl, (lw_g_at 12 (by decide +kernel) rfl), by decide +kernel, by decide +kernel, by decide +kernel⟩
set_option maxRecDepth 40000 in
theorem oI_Jd_bitCount : pz_okI I_Jd_bitCount := ⟨by decide, lw_g_at 537 rfl rfl, (lw_g_at 19 (by decide +kernel) rfl), by decide +kernel, by decide +kernel, by decide +kernel⟩
