-- ===== PART A: goes FIRST, ahead of the names: the tables' words, and 'selects' of the private methods out of them =====
/-- a private method of a class that the tables say can be made, by its rows of tables_1 -/
def lw_okq (q : MethodName × Nat) : Prop := (q.1.cls ≠ "java/lang/invoke/MethodHandle" ∧ q.1.cls ≠ "java/lang/invoke/VarHandle") ∧ Cond.instantiable q.1.cls q.2 ∈ tables_1 ∧ Cond.privateMethod q.1 ∈ tables_1 ∧ Cond.instanceMethod q.1 ∈ tables_1
theorem lw_p0 : lw_okq (⟨"CatCourt$Court", "put", "(II)V"⟩, 1) := ⟨⟨by decide +kernel, by decide +kernel⟩, List.mem_of_getElem? (i := 55) (by decide +kernel), List.mem_of_getElem? (i := 301) (by decide +kernel), List.mem_of_getElem? (i := 302) (by decide +kernel)⟩
theorem lw_p1 : lw_okq (⟨"CatCourt$CourtText", "clause", "()Z"⟩, 3) := ⟨⟨by decide +kernel, by decide +kernel⟩, List.mem_of_getElem? (i := 49) (by decide +kernel), List.mem_of_getElem? (i := 305) (by decide +kernel), List.mem_of_getElem? (i := 306) (by decide +kernel)⟩
theorem lw_p2 : lw_okq (⟨"CatCourt$CourtText", "items", "(I[C[I)Z"⟩, 3) := ⟨⟨by decide +kernel, by decide +kernel⟩, List.mem_of_getElem? (i := 49) (by decide +kernel), List.mem_of_getElem? (i := 321) (by decide +kernel), List.mem_of_getElem? (i := 322) (by decide +kernel)⟩
theorem lw_p3 : lw_okq (⟨"CatCourt$Tape", "digitHere", "()I"⟩, 4) := ⟨⟨by decide +kernel, by decide +kernel⟩, List.mem_of_getElem? (i := 29) (by decide +kernel), List.mem_of_getElem? (i := 336) (by decide +kernel), List.mem_of_getElem? (i := 337) (by decide +kernel)⟩
theorem lw_p4 : lw_okq (⟨"CatCourt$CourtText", "store", "(III)V"⟩, 3) := ⟨⟨by decide +kernel, by decide +kernel⟩, List.mem_of_getElem? (i := 49) (by decide +kernel), List.mem_of_getElem? (i := 340) (by decide +kernel), List.mem_of_getElem? (i := 341) (by decide +kernel)⟩
theorem lw_p5 : lw_okq (⟨"CatCourt$CourtText", "ends", "()Z"⟩, 3) := ⟨⟨by decide +kernel, by decide +kernel⟩, List.mem_of_getElem? (i := 49) (by decide +kernel), List.mem_of_getElem? (i := 388) (by decide +kernel), List.mem_of_getElem? (i := 389) (by decide +kernel)⟩
theorem lw_p6 : lw_okq (⟨"CatCourt$LawText", "clause", "()Z"⟩, 3) := ⟨⟨by decide +kernel, by decide +kernel⟩, List.mem_of_getElem? (i := 75) (by decide +kernel), List.mem_of_getElem? (i := 397) (by decide +kernel), List.mem_of_getElem? (i := 398) (by decide +kernel)⟩
theorem lw_p7 : lw_okq (⟨"CatCourt$LawText", "sum", "(I)Z"⟩, 3) := ⟨⟨by decide +kernel, by decide +kernel⟩, List.mem_of_getElem? (i := 75) (by decide +kernel), List.mem_of_getElem? (i := 408) (by decide +kernel), List.mem_of_getElem? (i := 409) (by decide +kernel)⟩
theorem lw_p8 : lw_okq (⟨"CatCourt$LawText", "term", "(I)Z"⟩, 3) := ⟨⟨by decide +kernel, by decide +kernel⟩, List.mem_of_getElem? (i := 75) (by decide +kernel), List.mem_of_getElem? (i := 412) (by decide +kernel), List.mem_of_getElem? (i := 413) (by decide +kernel)⟩
theorem lw_p9 : lw_okq (⟨"CatCourt$LawText", "atom", "(I)Z"⟩, 3) := ⟨⟨by decide +kernel, by decide +kernel⟩, List.mem_of_getElem? (i := 75) (by decide +kernel), List.mem_of_getElem? (i := 416) (by decide +kernel), List.mem_of_getElem? (i := 417) (by decide +kernel)⟩
theorem lw_p10 : lw_okq (⟨"CatCourt$LawText", "emit", "(II)V"⟩, 3) := ⟨⟨by decide +kernel, by decide +kernel⟩, List.mem_of_getElem? (i := 75) (by decide +kernel), List.mem_of_getElem? (i := 424) (by decide +kernel), List.mem_of_getElem? (i := 425) (by decide +kernel)⟩
theorem lw_p11 : lw_okq (⟨"CatCourt$LawText", "isEither", "(II)Z"⟩, 3) := ⟨⟨by decide +kernel, by decide +kernel⟩, List.mem_of_getElem? (i := 75) (by decide +kernel), List.mem_of_getElem? (i := 429) (by decide +kernel), List.mem_of_getElem? (i := 430) (by decide +kernel)⟩
theorem lw_p12 : lw_okq (⟨"CatCourt$LawText", "condition", "(IZ)Z"⟩, 3) := ⟨⟨by decide +kernel, by decide +kernel⟩, List.mem_of_getElem? (i := 75) (by decide +kernel), List.mem_of_getElem? (i := 436) (by decide +kernel), List.mem_of_getElem? (i := 437) (by decide +kernel)⟩
theorem lw_p13 : lw_okq (⟨"CatCourt$LawText", "truth", "(IZ)Z"⟩, 3) := ⟨⟨by decide +kernel, by decide +kernel⟩, List.mem_of_getElem? (i := 75) (by decide +kernel), List.mem_of_getElem? (i := 440) (by decide +kernel), List.mem_of_getElem? (i := 441) (by decide +kernel)⟩
theorem lw_p14 : lw_okq (⟨"CatCourt$LawText", "unit", "(IZ)Z"⟩, 3) := ⟨⟨by decide +kernel, by decide +kernel⟩, List.mem_of_getElem? (i := 75) (by decide +kernel), List.mem_of_getElem? (i := 444) (by decide +kernel), List.mem_of_getElem? (i := 445) (by decide +kernel)⟩
theorem lw_p15 : lw_okq (⟨"CatCourt$LawText", "nested", "(I)Z"⟩, 3) := ⟨⟨by decide +kernel, by decide +kernel⟩, List.mem_of_getElem? (i := 75) (by decide +kernel), List.mem_of_getElem? (i := 448) (by decide +kernel), List.mem_of_getElem? (i := 449) (by decide +kernel)⟩
def lw_privs_1 : List (MethodName × Nat) := [(⟨"CatCourt$Court", "put", "(II)V"⟩, 1), (⟨"CatCourt$CourtText", "clause", "()Z"⟩, 3), (⟨"CatCourt$CourtText", "items", "(I[C[I)Z"⟩, 3), (⟨"CatCourt$Tape", "digitHere", "()I"⟩, 4), (⟨"CatCourt$CourtText", "store", "(III)V"⟩, 3), (⟨"CatCourt$CourtText", "ends", "()Z"⟩, 3), (⟨"CatCourt$LawText", "clause", "()Z"⟩, 3), (⟨"CatCourt$LawText", "sum", "(I)Z"⟩, 3), (⟨"CatCourt$LawText", "term", "(I)Z"⟩, 3), (⟨"CatCourt$LawText", "atom", "(I)Z"⟩, 3), (⟨"CatCourt$LawText", "emit", "(II)V"⟩, 3), (⟨"CatCourt$LawText", "isEither", "(II)Z"⟩, 3), (⟨"CatCourt$LawText", "condition", "(IZ)Z"⟩, 3), (⟨"CatCourt$LawText", "truth", "(IZ)Z"⟩, 3), (⟨"CatCourt$LawText", "unit", "(IZ)Z"⟩, 3), (⟨"CatCourt$LawText", "nested", "(I)Z"⟩, 3)]
theorem lw_r1 : ∀ q ∈ lw_privs_1, lw_okq q := List.forall_mem_cons.mpr ⟨lw_p0, List.forall_mem_cons.mpr ⟨lw_p1, List.forall_mem_cons.mpr ⟨lw_p2, List.forall_mem_cons.mpr ⟨lw_p3, List.forall_mem_cons.mpr ⟨lw_p4, List.forall_mem_cons.mpr ⟨lw_p5, List.forall_mem_cons.mpr ⟨lw_p6, List.forall_mem_cons.mpr ⟨lw_p7, List.forall_mem_cons.mpr ⟨lw_p8, List.forall_mem_cons.mpr ⟨lw_p9, List.forall_mem_cons.mpr ⟨lw_p10, List.forall_mem_cons.mpr ⟨lw_p11, List.forall_mem_cons.mpr ⟨lw_p12, List.forall_mem_cons.mpr ⟨lw_p13, List.forall_mem_cons.mpr ⟨lw_p14, List.forall_mem_cons.mpr ⟨lw_p15, fun _ h => absurd h List.not_mem_nil⟩⟩⟩⟩⟩⟩⟩⟩⟩⟩⟩⟩⟩⟩⟩⟩
theorem lw_p16 : lw_okq (⟨"CatCourt$LawText", "conditionalSum", "()Z"⟩, 3) := ⟨⟨by decide +kernel, by decide +kernel⟩, List.mem_of_getElem? (i := 75) (by decide +kernel), List.mem_of_getElem? (i := 453) (by decide +kernel), List.mem_of_getElem? (i := 454) (by decide +kernel)⟩
theorem lw_p17 : lw_okq (⟨"CatCourt", "openCourt", "()I"⟩, 17) := ⟨⟨by decide +kernel, by decide +kernel⟩, List.mem_of_getElem? (i := 21) (by decide +kernel), List.mem_of_getElem? (i := 465) (by decide +kernel), List.mem_of_getElem? (i := 466) (by decide +kernel)⟩
theorem lw_p18 : lw_okq (⟨"CatCourt", "tellLaw", "()I"⟩, 17) := ⟨⟨by decide +kernel, by decide +kernel⟩, List.mem_of_getElem? (i := 21) (by decide +kernel), List.mem_of_getElem? (i := 485) (by decide +kernel), List.mem_of_getElem? (i := 486) (by decide +kernel)⟩
theorem lw_p19 : lw_okq (⟨"CatCourt", "isPair", "(II)Z"⟩, 17) := ⟨⟨by decide +kernel, by decide +kernel⟩, List.mem_of_getElem? (i := 21) (by decide +kernel), List.mem_of_getElem? (i := 555) (by decide +kernel), List.mem_of_getElem? (i := 556) (by decide +kernel)⟩
theorem lw_p20 : lw_okq (⟨"CatCourt", "thinkOf", "(LCatCourt$Court;)V"⟩, 17) := ⟨⟨by decide +kernel, by decide +kernel⟩, List.mem_of_getElem? (i := 21) (by decide +kernel), List.mem_of_getElem? (i := 569) (by decide +kernel), List.mem_of_getElem? (i := 570) (by decide +kernel)⟩
theorem lw_p21 : lw_okq (⟨"CatCourt", "lawAt", "(I)LCatCourt$Law;"⟩, 17) := ⟨⟨by decide +kernel, by decide +kernel⟩, List.mem_of_getElem? (i := 21) (by decide +kernel), List.mem_of_getElem? (i := 573) (by decide +kernel), List.mem_of_getElem? (i := 574) (by decide +kernel)⟩
theorem lw_p22 : lw_okq (⟨"CatCourt$Mind", "tell", "(IIII)V"⟩, 5) := ⟨⟨by decide +kernel, by decide +kernel⟩, List.mem_of_getElem? (i := 114) (by decide +kernel), List.mem_of_getElem? (i := 585) (by decide +kernel), List.mem_of_getElem? (i := 586) (by decide +kernel)⟩
theorem lw_p23 : lw_okq (⟨"CatCourt$Mind", "habit", "()I"⟩, 5) := ⟨⟨by decide +kernel, by decide +kernel⟩, List.mem_of_getElem? (i := 114) (by decide +kernel), List.mem_of_getElem? (i := 592) (by decide +kernel), List.mem_of_getElem? (i := 593) (by decide +kernel)⟩
theorem lw_p24 : lw_okq (⟨"CatCourt", "isCase", "(II)Z"⟩, 17) := ⟨⟨by decide +kernel, by decide +kernel⟩, List.mem_of_getElem? (i := 21) (by decide +kernel), List.mem_of_getElem? (i := 626) (by decide +kernel), List.mem_of_getElem? (i := 627) (by decide +kernel)⟩
theorem lw_p25 : lw_okq (⟨"CatCourt", "isSet", "(I)Z"⟩, 17) := ⟨⟨by decide +kernel, by decide +kernel⟩, List.mem_of_getElem? (i := 21) (by decide +kernel), List.mem_of_getElem? (i := 630) (by decide +kernel), List.mem_of_getElem? (i := 631) (by decide +kernel)⟩
theorem lw_p26 : lw_okq (⟨"CatCourt$Scales", "side", "(I)LCatCourt$Spread;"⟩, 3) := ⟨⟨by decide +kernel, by decide +kernel⟩, List.mem_of_getElem? (i := 138) (by decide +kernel), List.mem_of_getElem? (i := 642) (by decide +kernel), List.mem_of_getElem? (i := 643) (by decide +kernel)⟩
theorem lw_p27 : lw_okq (⟨"CatCourt$Spread", "build", "(I)I"⟩, 5) := ⟨⟨by decide +kernel, by decide +kernel⟩, List.mem_of_getElem? (i := 144) (by decide +kernel), List.mem_of_getElem? (i := 680) (by decide +kernel), List.mem_of_getElem? (i := 681) (by decide +kernel)⟩
theorem lw_p28 : lw_okq (⟨"CatCourt$Spread", "extend", "(II)V"⟩, 5) := ⟨⟨by decide +kernel, by decide +kernel⟩, List.mem_of_getElem? (i := 144) (by decide +kernel), List.mem_of_getElem? (i := 685) (by decide +kernel), List.mem_of_getElem? (i := 686) (by decide +kernel)⟩
theorem lw_p29 : lw_okq (⟨"CatCourt", "rightNow", "(II)I"⟩, 17) := ⟨⟨by decide +kernel, by decide +kernel⟩, List.mem_of_getElem? (i := 21) (by decide +kernel), List.mem_of_getElem? (i := 693) (by decide +kernel), List.mem_of_getElem? (i := 694) (by decide +kernel)⟩
theorem lw_p30 : lw_okq (⟨"CatCourt", "purrsApart", "(II)I"⟩, 17) := ⟨⟨by decide +kernel, by decide +kernel⟩, List.mem_of_getElem? (i := 21) (by decide +kernel), List.mem_of_getElem? (i := 746) (by decide +kernel), List.mem_of_getElem? (i := 747) (by decide +kernel)⟩
theorem lw_p31 : lw_okq (⟨"CatCourt", "pointsBroughtBy", "(I)I"⟩, 17) := ⟨⟨by decide +kernel, by decide +kernel⟩, List.mem_of_getElem? (i := 21) (by decide +kernel), List.mem_of_getElem? (i := 866) (by decide +kernel), List.mem_of_getElem? (i := 867) (by decide +kernel)⟩
def lw_privs_2 : List (MethodName × Nat) := [(⟨"CatCourt$LawText", "conditionalSum", "()Z"⟩, 3), (⟨"CatCourt", "openCourt", "()I"⟩, 17), (⟨"CatCourt", "tellLaw", "()I"⟩, 17), (⟨"CatCourt", "isPair", "(II)Z"⟩, 17), (⟨"CatCourt", "thinkOf", "(LCatCourt$Court;)V"⟩, 17), (⟨"CatCourt", "lawAt", "(I)LCatCourt$Law;"⟩, 17), (⟨"CatCourt$Mind", "tell", "(IIII)V"⟩, 5), (⟨"CatCourt$Mind", "habit", "()I"⟩, 5), (⟨"CatCourt", "isCase", "(II)Z"⟩, 17), (⟨"CatCourt", "isSet", "(I)Z"⟩, 17), (⟨"CatCourt$Scales", "side", "(I)LCatCourt$Spread;"⟩, 3), (⟨"CatCourt$Spread", "build", "(I)I"⟩, 5), (⟨"CatCourt$Spread", "extend", "(II)V"⟩, 5), (⟨"CatCourt", "rightNow", "(II)I"⟩, 17), (⟨"CatCourt", "purrsApart", "(II)I"⟩, 17), (⟨"CatCourt", "pointsBroughtBy", "(I)I"⟩, 17)]
theorem lw_r2 : ∀ q ∈ lw_privs_2, lw_okq q := List.forall_mem_cons.mpr ⟨lw_p16, List.forall_mem_cons.mpr ⟨lw_p17, List.forall_mem_cons.mpr ⟨lw_p18, List.forall_mem_cons.mpr ⟨lw_p19, List.forall_mem_cons.mpr ⟨lw_p20, List.forall_mem_cons.mpr ⟨lw_p21, List.forall_mem_cons.mpr ⟨lw_p22, List.forall_mem_cons.mpr ⟨lw_p23, List.forall_mem_cons.mpr ⟨lw_p24, List.forall_mem_cons.mpr ⟨lw_p25, List.forall_mem_cons.mpr ⟨lw_p26, List.forall_mem_cons.mpr ⟨lw_p27, List.forall_mem_cons.mpr ⟨lw_p28, List.forall_mem_cons.mpr ⟨lw_p29, List.forall_mem_cons.mpr ⟨lw_p30, List.forall_mem_cons.mpr ⟨lw_p31, fun _ h => absurd h List.not_mem_nil⟩⟩⟩⟩⟩⟩⟩⟩⟩⟩⟩⟩⟩⟩⟩⟩
theorem lw_p32 : lw_okq (⟨"CatCourt", "isThreeToOne", "(I)Z"⟩, 17) := ⟨⟨by decide +kernel, by decide +kernel⟩, List.mem_of_getElem? (i := 21) (by decide +kernel), List.mem_of_getElem? (i := 881) (by decide +kernel), List.mem_of_getElem? (i := 882) (by decide +kernel)⟩
theorem lw_p33 : lw_okq (⟨"CatCourt", "weighTreats", "(II)V"⟩, 17) := ⟨⟨by decide +kernel, by decide +kernel⟩, List.mem_of_getElem? (i := 21) (by decide +kernel), List.mem_of_getElem? (i := 902) (by decide +kernel), List.mem_of_getElem? (i := 903) (by decide +kernel)⟩
theorem lw_p34 : lw_okq (⟨"CatCourt", "isMerciful", "(III)Z"⟩, 17) := ⟨⟨by decide +kernel, by decide +kernel⟩, List.mem_of_getElem? (i := 21) (by decide +kernel), List.mem_of_getElem? (i := 914) (by decide +kernel), List.mem_of_getElem? (i := 915) (by decide +kernel)⟩
theorem lw_p35 : lw_okq (⟨"CatCourt", "heldByGuilt", "(II)I"⟩, 17) := ⟨⟨by decide +kernel, by decide +kernel⟩, List.mem_of_getElem? (i := 21) (by decide +kernel), List.mem_of_getElem? (i := 930) (by decide +kernel), List.mem_of_getElem? (i := 931) (by decide +kernel)⟩
theorem lw_p36 : lw_okq (⟨"CatCourt", "wash", "(I)V"⟩, 17) := ⟨⟨by decide +kernel, by decide +kernel⟩, List.mem_of_getElem? (i := 21) (by decide +kernel), List.mem_of_getElem? (i := 943) (by decide +kernel), List.mem_of_getElem? (i := 944) (by decide +kernel)⟩
theorem lw_p37 : lw_okq (⟨"CatCourt", "isRest", "(II)Z"⟩, 17) := ⟨⟨by decide +kernel, by decide +kernel⟩, List.mem_of_getElem? (i := 21) (by decide +kernel), List.mem_of_getElem? (i := 947) (by decide +kernel), List.mem_of_getElem? (i := 948) (by decide +kernel)⟩
theorem lw_p38 : lw_okq (⟨"CatCourt", "washedAt", "(II)I"⟩, 17) := ⟨⟨by decide +kernel, by decide +kernel⟩, List.mem_of_getElem? (i := 21) (by decide +kernel), List.mem_of_getElem? (i := 951) (by decide +kernel), List.mem_of_getElem? (i := 952) (by decide +kernel)⟩
theorem lw_p39 : lw_okq (⟨"CatCourt", "partsSeen", "(II)I"⟩, 17) := ⟨⟨by decide +kernel, by decide +kernel⟩, List.mem_of_getElem? (i := 21) (by decide +kernel), List.mem_of_getElem? (i := 963) (by decide +kernel), List.mem_of_getElem? (i := 964) (by decide +kernel)⟩
theorem lw_p40 : lw_okq (⟨"CatCourt", "possibleBy", "(I)I"⟩, 17) := ⟨⟨by decide +kernel, by decide +kernel⟩, List.mem_of_getElem? (i := 21) (by decide +kernel), List.mem_of_getElem? (i := 972) (by decide +kernel), List.mem_of_getElem? (i := 973) (by decide +kernel)⟩
theorem lw_p41 : lw_okq (⟨"CatCourt", "canBe", "(II)Z"⟩, 17) := ⟨⟨by decide +kernel, by decide +kernel⟩, List.mem_of_getElem? (i := 21) (by decide +kernel), List.mem_of_getElem? (i := 976) (by decide +kernel), List.mem_of_getElem? (i := 977) (by decide +kernel)⟩
theorem lw_p42 : lw_okq (⟨"CatCourt", "isDrunkBy", "(III)Z"⟩, 17) := ⟨⟨by decide +kernel, by decide +kernel⟩, List.mem_of_getElem? (i := 21) (by decide +kernel), List.mem_of_getElem? (i := 980) (by decide +kernel), List.mem_of_getElem? (i := 981) (by decide +kernel)⟩
theorem lw_p43 : lw_okq (⟨"CatCourt", "fitting", "(I)I"⟩, 17) := ⟨⟨by decide +kernel, by decide +kernel⟩, List.mem_of_getElem? (i := 21) (by decide +kernel), List.mem_of_getElem? (i := 992) (by decide +kernel), List.mem_of_getElem? (i := 993) (by decide +kernel)⟩
theorem lw_p44 : lw_okq (⟨"java/lang/Throwable", "fillInStackTrace", "(I)Ljava/lang/Throwable;"⟩, 6) := ⟨⟨by decide +kernel, by decide +kernel⟩, List.mem_of_getElem? (i := 1040) (by decide +kernel), List.mem_of_getElem? (i := 1038) (by decide +kernel), List.mem_of_getElem? (i := 1039) (by decide +kernel)⟩
theorem lw_p45 : lw_okq (⟨"CatCourtModel", "readCourt", "()I"⟩, 50) := ⟨⟨by decide +kernel, by decide +kernel⟩, List.mem_of_getElem? (i := 1070) (by decide +kernel), List.mem_of_getElem? (i := 1246) (by decide +kernel), List.mem_of_getElem? (i := 1247) (by decide +kernel)⟩
theorem lw_p46 : lw_okq (⟨"CatCourtModel", "look", "()I"⟩, 50) := ⟨⟨by decide +kernel, by decide +kernel⟩, List.mem_of_getElem? (i := 1070) (by decide +kernel), List.mem_of_getElem? (i := 1253) (by decide +kernel), List.mem_of_getElem? (i := 1254) (by decide +kernel)⟩
theorem lw_p47 : lw_okq (⟨"CatCourtModel", "here", "()I"⟩, 50) := ⟨⟨by decide +kernel, by decide +kernel⟩, List.mem_of_getElem? (i := 1070) (by decide +kernel), List.mem_of_getElem? (i := 1257) (by decide +kernel), List.mem_of_getElem? (i := 1258) (by decide +kernel)⟩
def lw_privs_3 : List (MethodName × Nat) := [(⟨"CatCourt", "isThreeToOne", "(I)Z"⟩, 17), (⟨"CatCourt", "weighTreats", "(II)V"⟩, 17), (⟨"CatCourt", "isMerciful", "(III)Z"⟩, 17), (⟨"CatCourt", "heldByGuilt", "(II)I"⟩, 17), (⟨"CatCourt", "wash", "(I)V"⟩, 17), (⟨"CatCourt", "isRest", "(II)Z"⟩, 17), (⟨"CatCourt", "washedAt", "(II)I"⟩, 17), (⟨"CatCourt", "partsSeen", "(II)I"⟩, 17), (⟨"CatCourt", "possibleBy", "(I)I"⟩, 17), (⟨"CatCourt", "canBe", "(II)Z"⟩, 17), (⟨"CatCourt", "isDrunkBy", "(III)Z"⟩, 17), (⟨"CatCourt", "fitting", "(I)I"⟩, 17), (⟨"java/lang/Throwable", "fillInStackTrace", "(I)Ljava/lang/Throwable;"⟩, 6), (⟨"CatCourtModel", "readCourt", "()I"⟩, 50), (⟨"CatCourtModel", "look", "()I"⟩, 50), (⟨"CatCourtModel", "here", "()I"⟩, 50)]
theorem lw_r3 : ∀ q ∈ lw_privs_3, lw_okq q := List.forall_mem_cons.mpr ⟨lw_p32, List.forall_mem_cons.mpr ⟨lw_p33, List.forall_mem_cons.mpr ⟨lw_p34, List.forall_mem_cons.mpr ⟨lw_p35, List.forall_mem_cons.mpr ⟨lw_p36, List.forall_mem_cons.mpr ⟨lw_p37, List.forall_mem_cons.mpr ⟨lw_p38, List.forall_mem_cons.mpr ⟨lw_p39, List.forall_mem_cons.mpr ⟨lw_p40, List.forall_mem_cons.mpr ⟨lw_p41, List.forall_mem_cons.mpr ⟨lw_p42, List.forall_mem_cons.mpr ⟨lw_p43, List.forall_mem_cons.mpr ⟨lw_p44, List.forall_mem_cons.mpr ⟨lw_p45, List.forall_mem_cons.mpr ⟨lw_p46, List.forall_mem_cons.mpr ⟨lw_p47, fun _ h => absurd h List.not_mem_nil⟩⟩⟩⟩⟩⟩⟩⟩⟩⟩⟩⟩⟩⟩⟩⟩
theorem lw_p48 : lw_okq (⟨"CatCourtModel", "items", "(I[III)V"⟩, 50) := ⟨⟨by decide +kernel, by decide +kernel⟩, List.mem_of_getElem? (i := 1070) (by decide +kernel), List.mem_of_getElem? (i := 1261) (by decide +kernel), List.mem_of_getElem? (i := 1262) (by decide +kernel)⟩
theorem lw_p49 : lw_okq (⟨"CatCourtModel", "number", "(I)I"⟩, 50) := ⟨⟨by decide +kernel, by decide +kernel⟩, List.mem_of_getElem? (i := 1070) (by decide +kernel), List.mem_of_getElem? (i := 1277) (by decide +kernel), List.mem_of_getElem? (i := 1278) (by decide +kernel)⟩
theorem lw_p50 : lw_okq (⟨"CatCourtModel", "bad", "()V"⟩, 50) := ⟨⟨by decide +kernel, by decide +kernel⟩, List.mem_of_getElem? (i := 1070) (by decide +kernel), List.mem_of_getElem? (i := 1284) (by decide +kernel), List.mem_of_getElem? (i := 1285) (by decide +kernel)⟩
theorem lw_p51 : lw_okq (⟨"CatCourtModel", "readLaw", "(I)I"⟩, 50) := ⟨⟨by decide +kernel, by decide +kernel⟩, List.mem_of_getElem? (i := 1070) (by decide +kernel), List.mem_of_getElem? (i := 1288) (by decide +kernel), List.mem_of_getElem? (i := 1289) (by decide +kernel)⟩
theorem lw_p52 : lw_okq (⟨"CatCourtModel", "open", "(I)V"⟩, 50) := ⟨⟨by decide +kernel, by decide +kernel⟩, List.mem_of_getElem? (i := 1070) (by decide +kernel), List.mem_of_getElem? (i := 1292) (by decide +kernel), List.mem_of_getElem? (i := 1293) (by decide +kernel)⟩
theorem lw_p53 : lw_okq (⟨"CatCourtModel", "clause", "()V"⟩, 50) := ⟨⟨by decide +kernel, by decide +kernel⟩, List.mem_of_getElem? (i := 1070) (by decide +kernel), List.mem_of_getElem? (i := 1296) (by decide +kernel), List.mem_of_getElem? (i := 1297) (by decide +kernel)⟩
theorem lw_p54 : lw_okq (⟨"CatCourtModel", "condition", "()V"⟩, 50) := ⟨⟨by decide +kernel, by decide +kernel⟩, List.mem_of_getElem? (i := 1070) (by decide +kernel), List.mem_of_getElem? (i := 1300) (by decide +kernel), List.mem_of_getElem? (i := 1301) (by decide +kernel)⟩
theorem lw_p55 : lw_okq (⟨"CatCourtModel", "unit", "()V"⟩, 50) := ⟨⟨by decide +kernel, by decide +kernel⟩, List.mem_of_getElem? (i := 1070) (by decide +kernel), List.mem_of_getElem? (i := 1304) (by decide +kernel), List.mem_of_getElem? (i := 1305) (by decide +kernel)⟩
theorem lw_p56 : lw_okq (⟨"CatCourtModel", "opens", "()V"⟩, 50) := ⟨⟨by decide +kernel, by decide +kernel⟩, List.mem_of_getElem? (i := 1070) (by decide +kernel), List.mem_of_getElem? (i := 1308) (by decide +kernel), List.mem_of_getElem? (i := 1309) (by decide +kernel)⟩
theorem lw_p57 : lw_okq (⟨"CatCourtModel", "put", "(II)V"⟩, 50) := ⟨⟨by decide +kernel, by decide +kernel⟩, List.mem_of_getElem? (i := 1070) (by decide +kernel), List.mem_of_getElem? (i := 1312) (by decide +kernel), List.mem_of_getElem? (i := 1313) (by decide +kernel)⟩
theorem lw_p58 : lw_okq (⟨"CatCourtModel", "closes", "(I)V"⟩, 50) := ⟨⟨by decide +kernel, by decide +kernel⟩, List.mem_of_getElem? (i := 1070) (by decide +kernel), List.mem_of_getElem? (i := 1316) (by decide +kernel), List.mem_of_getElem? (i := 1317) (by decide +kernel)⟩
theorem lw_p59 : lw_okq (⟨"CatCourtModel", "sum", "()V"⟩, 50) := ⟨⟨by decide +kernel, by decide +kernel⟩, List.mem_of_getElem? (i := 1070) (by decide +kernel), List.mem_of_getElem? (i := 1320) (by decide +kernel), List.mem_of_getElem? (i := 1321) (by decide +kernel)⟩
theorem lw_p60 : lw_okq (⟨"CatCourtModel", "term", "()V"⟩, 50) := ⟨⟨by decide +kernel, by decide +kernel⟩, List.mem_of_getElem? (i := 1070) (by decide +kernel), List.mem_of_getElem? (i := 1324) (by decide +kernel), List.mem_of_getElem? (i := 1325) (by decide +kernel)⟩
theorem lw_p61 : lw_okq (⟨"CatCourtModel", "atom", "()V"⟩, 50) := ⟨⟨by decide +kernel, by decide +kernel⟩, List.mem_of_getElem? (i := 1070) (by decide +kernel), List.mem_of_getElem? (i := 1328) (by decide +kernel), List.mem_of_getElem? (i := 1329) (by decide +kernel)⟩
theorem lw_p62 : lw_okq (⟨"CatCourtModel", "plainNumber", "()I"⟩, 50) := ⟨⟨by decide +kernel, by decide +kernel⟩, List.mem_of_getElem? (i := 1070) (by decide +kernel), List.mem_of_getElem? (i := 1332) (by decide +kernel), List.mem_of_getElem? (i := 1333) (by decide +kernel)⟩
theorem lw_p63 : lw_okq (⟨"CatCourtModel", "compare", "()V"⟩, 50) := ⟨⟨by decide +kernel, by decide +kernel⟩, List.mem_of_getElem? (i := 1070) (by decide +kernel), List.mem_of_getElem? (i := 1339) (by decide +kernel), List.mem_of_getElem? (i := 1340) (by decide +kernel)⟩
def lw_privs_4 : List (MethodName × Nat) := [(⟨"CatCourtModel", "items", "(I[III)V"⟩, 50), (⟨"CatCourtModel", "number", "(I)I"⟩, 50), (⟨"CatCourtModel", "bad", "()V"⟩, 50), (⟨"CatCourtModel", "readLaw", "(I)I"⟩, 50), (⟨"CatCourtModel", "open", "(I)V"⟩, 50), (⟨"CatCourtModel", "clause", "()V"⟩, 50), (⟨"CatCourtModel", "condition", "()V"⟩, 50), (⟨"CatCourtModel", "unit", "()V"⟩, 50), (⟨"CatCourtModel", "opens", "()V"⟩, 50), (⟨"CatCourtModel", "put", "(II)V"⟩, 50), (⟨"CatCourtModel", "closes", "(I)V"⟩, 50), (⟨"CatCourtModel", "sum", "()V"⟩, 50), (⟨"CatCourtModel", "term", "()V"⟩, 50), (⟨"CatCourtModel", "atom", "()V"⟩, 50), (⟨"CatCourtModel", "plainNumber", "()I"⟩, 50), (⟨"CatCourtModel", "compare", "()V"⟩, 50)]
theorem lw_r4 : ∀ q ∈ lw_privs_4, lw_okq q := List.forall_mem_cons.mpr ⟨lw_p48, List.forall_mem_cons.mpr ⟨lw_p49, List.forall_mem_cons.mpr ⟨lw_p50, List.forall_mem_cons.mpr ⟨lw_p51, List.forall_mem_cons.mpr ⟨lw_p52, List.forall_mem_cons.mpr ⟨lw_p53, List.forall_mem_cons.mpr ⟨lw_p54, List.forall_mem_cons.mpr ⟨lw_p55, List.forall_mem_cons.mpr ⟨lw_p56, List.forall_mem_cons.mpr ⟨lw_p57, List.forall_mem_cons.mpr ⟨lw_p58, List.forall_mem_cons.mpr ⟨lw_p59, List.forall_mem_cons.mpr ⟨lw_p60, List.forall_mem_cons.mpr ⟨lw_p61, List.forall_mem_cons.mpr ⟨lw_p62, List.forall_mem_cons.mpr ⟨lw_p63, fun _ h => absurd h List.not_mem_nil⟩⟩⟩⟩⟩⟩⟩⟩⟩⟩⟩⟩⟩⟩⟩⟩
theorem lw_p64 : lw_okq (⟨"CatCourtModel", "goOnAnd", "()V"⟩, 50) := ⟨⟨by decide +kernel, by decide +kernel⟩, List.mem_of_getElem? (i := 1070) (by decide +kernel), List.mem_of_getElem? (i := 1346) (by decide +kernel), List.mem_of_getElem? (i := 1347) (by decide +kernel)⟩
theorem lw_p65 : lw_okq (⟨"CatCourtModel", "goOnOr", "()V"⟩, 50) := ⟨⟨by decide +kernel, by decide +kernel⟩, List.mem_of_getElem? (i := 1070) (by decide +kernel), List.mem_of_getElem? (i := 1350) (by decide +kernel), List.mem_of_getElem? (i := 1351) (by decide +kernel)⟩
theorem lw_p66 : lw_okq (⟨"CatCourtModel", "atEnd", "()I"⟩, 50) := ⟨⟨by decide +kernel, by decide +kernel⟩, List.mem_of_getElem? (i := 1070) (by decide +kernel), List.mem_of_getElem? (i := 1354) (by decide +kernel), List.mem_of_getElem? (i := 1355) (by decide +kernel)⟩
theorem lw_p67 : lw_okq (⟨"CatCourtModel", "takeCourt", "()I"⟩, 50) := ⟨⟨by decide +kernel, by decide +kernel⟩, List.mem_of_getElem? (i := 1070) (by decide +kernel), List.mem_of_getElem? (i := 1362) (by decide +kernel), List.mem_of_getElem? (i := 1363) (by decide +kernel)⟩
theorem lw_p68 : lw_okq (⟨"CatCourtModel", "isCat", "(I)Z"⟩, 50) := ⟨⟨by decide +kernel, by decide +kernel⟩, List.mem_of_getElem? (i := 1070) (by decide +kernel), List.mem_of_getElem? (i := 1377) (by decide +kernel), List.mem_of_getElem? (i := 1378) (by decide +kernel)⟩
theorem lw_p69 : lw_okq (⟨"CatCourtModel", "isAccused", "(I)Z"⟩, 50) := ⟨⟨by decide +kernel, by decide +kernel⟩, List.mem_of_getElem? (i := 1070) (by decide +kernel), List.mem_of_getElem? (i := 1385) (by decide +kernel), List.mem_of_getElem? (i := 1386) (by decide +kernel)⟩
theorem lw_p70 : lw_okq (⟨"CatCourtModel", "moodOf", "(IIII)I"⟩, 50) := ⟨⟨by decide +kernel, by decide +kernel⟩, List.mem_of_getElem? (i := 1070) (by decide +kernel), List.mem_of_getElem? (i := 1403) (by decide +kernel), List.mem_of_getElem? (i := 1404) (by decide +kernel)⟩
theorem lw_p71 : lw_okq (⟨"CatCourtModel", "plainMood", "(IIII)I"⟩, 50) := ⟨⟨by decide +kernel, by decide +kernel⟩, List.mem_of_getElem? (i := 1070) (by decide +kernel), List.mem_of_getElem? (i := 1407) (by decide +kernel), List.mem_of_getElem? (i := 1408) (by decide +kernel)⟩
theorem lw_p72 : lw_okq (⟨"CatCourtModel", "worthOf", "(I)I"⟩, 50) := ⟨⟨by decide +kernel, by decide +kernel⟩, List.mem_of_getElem? (i := 1070) (by decide +kernel), List.mem_of_getElem? (i := 1411) (by decide +kernel), List.mem_of_getElem? (i := 1412) (by decide +kernel)⟩
theorem lw_p73 : lw_okq (⟨"CatCourtModel", "workOut", "(III)I"⟩, 50) := ⟨⟨by decide +kernel, by decide +kernel⟩, List.mem_of_getElem? (i := 1070) (by decide +kernel), List.mem_of_getElem? (i := 1415) (by decide +kernel), List.mem_of_getElem? (i := 1416) (by decide +kernel)⟩
theorem lw_p74 : lw_okq (⟨"CatCourtModel", "oddsOf", "(IIII)I"⟩, 50) := ⟨⟨by decide +kernel, by decide +kernel⟩, List.mem_of_getElem? (i := 1070) (by decide +kernel), List.mem_of_getElem? (i := 1439) (by decide +kernel), List.mem_of_getElem? (i := 1440) (by decide +kernel)⟩
theorem lw_p75 : lw_okq (⟨"CatCourtModel", "layOdds", "(III)V"⟩, 50) := ⟨⟨by decide +kernel, by decide +kernel⟩, List.mem_of_getElem? (i := 1070) (by decide +kernel), List.mem_of_getElem? (i := 1443) (by decide +kernel), List.mem_of_getElem? (i := 1444) (by decide +kernel)⟩
theorem lw_p76 : lw_okq (⟨"CatCourtModel", "isSet", "(I)Z"⟩, 50) := ⟨⟨by decide +kernel, by decide +kernel⟩, List.mem_of_getElem? (i := 1070) (by decide +kernel), List.mem_of_getElem? (i := 1452) (by decide +kernel), List.mem_of_getElem? (i := 1453) (by decide +kernel)⟩
theorem lw_p77 : lw_okq (⟨"CatCourtModel", "isSitting", "(I)Z"⟩, 50) := ⟨⟨by decide +kernel, by decide +kernel⟩, List.mem_of_getElem? (i := 1070) (by decide +kernel), List.mem_of_getElem? (i := 1456) (by decide +kernel), List.mem_of_getElem? (i := 1457) (by decide +kernel)⟩
theorem lw_p78 : lw_okq (⟨"CatCourtModel", "heldBy", "(III)I"⟩, 50) := ⟨⟨by decide +kernel, by decide +kernel⟩, List.mem_of_getElem? (i := 1070) (by decide +kernel), List.mem_of_getElem? (i := 1460) (by decide +kernel), List.mem_of_getElem? (i := 1461) (by decide +kernel)⟩
theorem lw_p79 : lw_okq (⟨"CatCourtModel", "layParts", "(III)V"⟩, 50) := ⟨⟨by decide +kernel, by decide +kernel⟩, List.mem_of_getElem? (i := 1070) (by decide +kernel), List.mem_of_getElem? (i := 1464) (by decide +kernel), List.mem_of_getElem? (i := 1465) (by decide +kernel)⟩
def lw_privs_5 : List (MethodName × Nat) := [(⟨"CatCourtModel", "goOnAnd", "()V"⟩, 50), (⟨"CatCourtModel", "goOnOr", "()V"⟩, 50), (⟨"CatCourtModel", "atEnd", "()I"⟩, 50), (⟨"CatCourtModel", "takeCourt", "()I"⟩, 50), (⟨"CatCourtModel", "isCat", "(I)Z"⟩, 50), (⟨"CatCourtModel", "isAccused", "(I)Z"⟩, 50), (⟨"CatCourtModel", "moodOf", "(IIII)I"⟩, 50), (⟨"CatCourtModel", "plainMood", "(IIII)I"⟩, 50), (⟨"CatCourtModel", "worthOf", "(I)I"⟩, 50), (⟨"CatCourtModel", "workOut", "(III)I"⟩, 50), (⟨"CatCourtModel", "oddsOf", "(IIII)I"⟩, 50), (⟨"CatCourtModel", "layOdds", "(III)V"⟩, 50), (⟨"CatCourtModel", "isSet", "(I)Z"⟩, 50), (⟨"CatCourtModel", "isSitting", "(I)Z"⟩, 50), (⟨"CatCourtModel", "heldBy", "(III)I"⟩, 50), (⟨"CatCourtModel", "layParts", "(III)V"⟩, 50)]
theorem lw_r5 : ∀ q ∈ lw_privs_5, lw_okq q := List.forall_mem_cons.mpr ⟨lw_p64, List.forall_mem_cons.mpr ⟨lw_p65, List.forall_mem_cons.mpr ⟨lw_p66, List.forall_mem_cons.mpr ⟨lw_p67, List.forall_mem_cons.mpr ⟨lw_p68, List.forall_mem_cons.mpr ⟨lw_p69, List.forall_mem_cons.mpr ⟨lw_p70, List.forall_mem_cons.mpr ⟨lw_p71, List.forall_mem_cons.mpr ⟨lw_p72, List.forall_mem_cons.mpr ⟨lw_p73, List.forall_mem_cons.mpr ⟨lw_p74, List.forall_mem_cons.mpr ⟨lw_p75, List.forall_mem_cons.mpr ⟨lw_p76, List.forall_mem_cons.mpr ⟨lw_p77, List.forall_mem_cons.mpr ⟨lw_p78, List.forall_mem_cons.mpr ⟨lw_p79, fun _ h => absurd h List.not_mem_nil⟩⟩⟩⟩⟩⟩⟩⟩⟩⟩⟩⟩⟩⟩⟩⟩
theorem lw_p80 : lw_okq (⟨"CatCourtModel", "spread", "(I)V"⟩, 50) := ⟨⟨by decide +kernel, by decide +kernel⟩, List.mem_of_getElem? (i := 1070) (by decide +kernel), List.mem_of_getElem? (i := 1468) (by decide +kernel), List.mem_of_getElem? (i := 1469) (by decide +kernel)⟩
theorem lw_p81 : lw_okq (⟨"CatCourtModel", "partsFrom", "(I)I"⟩, 50) := ⟨⟨by decide +kernel, by decide +kernel⟩, List.mem_of_getElem? (i := 1070) (by decide +kernel), List.mem_of_getElem? (i := 1472) (by decide +kernel), List.mem_of_getElem? (i := 1473) (by decide +kernel)⟩
theorem lw_p82 : lw_okq (⟨"CatCourtModel", "rightBy", "(II)I"⟩, 50) := ⟨⟨by decide +kernel, by decide +kernel⟩, List.mem_of_getElem? (i := 1070) (by decide +kernel), List.mem_of_getElem? (i := 1480) (by decide +kernel), List.mem_of_getElem? (i := 1481) (by decide +kernel)⟩
theorem lw_p83 : lw_okq (⟨"CatCourtModel", "rightOf", "(IJJ)I"⟩, 50) := ⟨⟨by decide +kernel, by decide +kernel⟩, List.mem_of_getElem? (i := 1070) (by decide +kernel), List.mem_of_getElem? (i := 1484) (by decide +kernel), List.mem_of_getElem? (i := 1485) (by decide +kernel)⟩
theorem lw_p84 : lw_okq (⟨"CatCourtModel", "keep", "()V"⟩, 50) := ⟨⟨by decide +kernel, by decide +kernel⟩, List.mem_of_getElem? (i := 1070) (by decide +kernel), List.mem_of_getElem? (i := 1493) (by decide +kernel), List.mem_of_getElem? (i := 1494) (by decide +kernel)⟩
theorem lw_p85 : lw_okq (⟨"CatCourtModel", "told", "(II)Z"⟩, 50) := ⟨⟨by decide +kernel, by decide +kernel⟩, List.mem_of_getElem? (i := 1070) (by decide +kernel), List.mem_of_getElem? (i := 1505) (by decide +kernel), List.mem_of_getElem? (i := 1506) (by decide +kernel)⟩
theorem lw_p86 : lw_okq (⟨"CatCourtModel", "draw", "(I)I"⟩, 50) := ⟨⟨by decide +kernel, by decide +kernel⟩, List.mem_of_getElem? (i := 1070) (by decide +kernel), List.mem_of_getElem? (i := 1521) (by decide +kernel), List.mem_of_getElem? (i := 1522) (by decide +kernel)⟩
theorem lw_p87 : lw_okq (⟨"CatCourtModel", "drawDeed", "()I"⟩, 50) := ⟨⟨by decide +kernel, by decide +kernel⟩, List.mem_of_getElem? (i := 1070) (by decide +kernel), List.mem_of_getElem? (i := 1527) (by decide +kernel), List.mem_of_getElem? (i := 1528) (by decide +kernel)⟩
theorem lw_p88 : lw_okq (⟨"CatCourtModel", "note", "(III)V"⟩, 50) := ⟨⟨by decide +kernel, by decide +kernel⟩, List.mem_of_getElem? (i := 1070) (by decide +kernel), List.mem_of_getElem? (i := 1531) (by decide +kernel), List.mem_of_getElem? (i := 1532) (by decide +kernel)⟩
theorem lw_p89 : lw_okq (⟨"CatCourtModel", "logAt", "(II)I"⟩, 50) := ⟨⟨by decide +kernel, by decide +kernel⟩, List.mem_of_getElem? (i := 1070) (by decide +kernel), List.mem_of_getElem? (i := 1543) (by decide +kernel), List.mem_of_getElem? (i := 1544) (by decide +kernel)⟩
theorem lw_p90 : lw_okq (⟨"CatCourtModel", "sitting", "()I"⟩, 50) := ⟨⟨by decide +kernel, by decide +kernel⟩, List.mem_of_getElem? (i := 1070) (by decide +kernel), List.mem_of_getElem? (i := 1561) (by decide +kernel), List.mem_of_getElem? (i := 1562) (by decide +kernel)⟩
theorem lw_p91 : lw_okq (⟨"CatCourtModel", "putFish", "(III)V"⟩, 50) := ⟨⟨by decide +kernel, by decide +kernel⟩, List.mem_of_getElem? (i := 1070) (by decide +kernel), List.mem_of_getElem? (i := 1569) (by decide +kernel), List.mem_of_getElem? (i := 1570) (by decide +kernel)⟩
theorem lw_p92 : lw_okq (⟨"CatCourtModel", "isRest", "(III)Z"⟩, 50) := ⟨⟨by decide +kernel, by decide +kernel⟩, List.mem_of_getElem? (i := 1070) (by decide +kernel), List.mem_of_getElem? (i := 1586) (by decide +kernel), List.mem_of_getElem? (i := 1587) (by decide +kernel)⟩
theorem lw_p93 : lw_okq (⟨"CatCourtModel", "washed", "(III)I"⟩, 50) := ⟨⟨by decide +kernel, by decide +kernel⟩, List.mem_of_getElem? (i := 1070) (by decide +kernel), List.mem_of_getElem? (i := 1590) (by decide +kernel), List.mem_of_getElem? (i := 1591) (by decide +kernel)⟩
theorem lw_p94 : lw_okq (⟨"CatCourtModel", "likelyOf", "(III)I"⟩, 50) := ⟨⟨by decide +kernel, by decide +kernel⟩, List.mem_of_getElem? (i := 1070) (by decide +kernel), List.mem_of_getElem? (i := 1611) (by decide +kernel), List.mem_of_getElem? (i := 1612) (by decide +kernel)⟩
theorem lw_p95 : lw_okq (⟨"CatCourtModel", "heldAnyway", "(II)J"⟩, 50) := ⟨⟨by decide +kernel, by decide +kernel⟩, List.mem_of_getElem? (i := 1070) (by decide +kernel), List.mem_of_getElem? (i := 1631) (by decide +kernel), List.mem_of_getElem? (i := 1632) (by decide +kernel)⟩
def lw_privs_6 : List (MethodName × Nat) := [(⟨"CatCourtModel", "spread", "(I)V"⟩, 50), (⟨"CatCourtModel", "partsFrom", "(I)I"⟩, 50), (⟨"CatCourtModel", "rightBy", "(II)I"⟩, 50), (⟨"CatCourtModel", "rightOf", "(IJJ)I"⟩, 50), (⟨"CatCourtModel", "keep", "()V"⟩, 50), (⟨"CatCourtModel", "told", "(II)Z"⟩, 50), (⟨"CatCourtModel", "draw", "(I)I"⟩, 50), (⟨"CatCourtModel", "drawDeed", "()I"⟩, 50), (⟨"CatCourtModel", "note", "(III)V"⟩, 50), (⟨"CatCourtModel", "logAt", "(II)I"⟩, 50), (⟨"CatCourtModel", "sitting", "()I"⟩, 50), (⟨"CatCourtModel", "putFish", "(III)V"⟩, 50), (⟨"CatCourtModel", "isRest", "(III)Z"⟩, 50), (⟨"CatCourtModel", "washed", "(III)I"⟩, 50), (⟨"CatCourtModel", "likelyOf", "(III)I"⟩, 50), (⟨"CatCourtModel", "heldAnyway", "(II)J"⟩, 50)]
theorem lw_r6 : ∀ q ∈ lw_privs_6, lw_okq q := List.forall_mem_cons.mpr ⟨lw_p80, List.forall_mem_cons.mpr ⟨lw_p81, List.forall_mem_cons.mpr ⟨lw_p82, List.forall_mem_cons.mpr ⟨lw_p83, List.forall_mem_cons.mpr ⟨lw_p84, List.forall_mem_cons.mpr ⟨lw_p85, List.forall_mem_cons.mpr ⟨lw_p86, List.forall_mem_cons.mpr ⟨lw_p87, List.forall_mem_cons.mpr ⟨lw_p88, List.forall_mem_cons.mpr ⟨lw_p89, List.forall_mem_cons.mpr ⟨lw_p90, List.forall_mem_cons.mpr ⟨lw_p91, List.forall_mem_cons.mpr ⟨lw_p92, List.forall_mem_cons.mpr ⟨lw_p93, List.forall_mem_cons.mpr ⟨lw_p94, List.forall_mem_cons.mpr ⟨lw_p95, fun _ h => absurd h List.not_mem_nil⟩⟩⟩⟩⟩⟩⟩⟩⟩⟩⟩⟩⟩⟩⟩⟩
theorem lw_p96 : lw_okq (⟨"CatCourtModel", "seenParts", "(II)J"⟩, 50) := ⟨⟨by decide +kernel, by decide +kernel⟩, List.mem_of_getElem? (i := 1070) (by decide +kernel), List.mem_of_getElem? (i := 1643) (by decide +kernel), List.mem_of_getElem? (i := 1644) (by decide +kernel)⟩
theorem lw_p97 : lw_okq (⟨"CatCourtModel", "couldDrink", "(I)Z"⟩, 50) := ⟨⟨by decide +kernel, by decide +kernel⟩, List.mem_of_getElem? (i := 1070) (by decide +kernel), List.mem_of_getElem? (i := 1651) (by decide +kernel), List.mem_of_getElem? (i := 1652) (by decide +kernel)⟩
theorem lw_p98 : lw_okq (⟨"CatCourtModel", "couldBe", "(II)Z"⟩, 50) := ⟨⟨by decide +kernel, by decide +kernel⟩, List.mem_of_getElem? (i := 1070) (by decide +kernel), List.mem_of_getElem? (i := 1655) (by decide +kernel), List.mem_of_getElem? (i := 1656) (by decide +kernel)⟩
theorem lw_p99 : lw_okq (⟨"CatCourtModel", "fitting", "()I"⟩, 50) := ⟨⟨by decide +kernel, by decide +kernel⟩, List.mem_of_getElem? (i := 1070) (by decide +kernel), List.mem_of_getElem? (i := 1668) (by decide +kernel), List.mem_of_getElem? (i := 1669) (by decide +kernel)⟩
def lw_privs_7 : List (MethodName × Nat) := [(⟨"CatCourtModel", "seenParts", "(II)J"⟩, 50), (⟨"CatCourtModel", "couldDrink", "(I)Z"⟩, 50), (⟨"CatCourtModel", "couldBe", "(II)Z"⟩, 50), (⟨"CatCourtModel", "fitting", "()I"⟩, 50)]
theorem lw_r7 : ∀ q ∈ lw_privs_7, lw_okq q := List.forall_mem_cons.mpr ⟨lw_p96, List.forall_mem_cons.mpr ⟨lw_p97, List.forall_mem_cons.mpr ⟨lw_p98, List.forall_mem_cons.mpr ⟨lw_p99, fun _ h => absurd h List.not_mem_nil⟩⟩⟩⟩
def lw_privs : List (MethodName × Nat) := lw_privs_1 ++ (lw_privs_2 ++ (lw_privs_3 ++ (lw_privs_4 ++ (lw_privs_5 ++ (lw_privs_6 ++ (lw_privs_7))))))
def lw_tbl : List Cond := k2_sels lw_privs ++ tables_1
theorem lw_privs_ok : ∀ q ∈ lw_privs, lw_okq q := by
  show ∀ q ∈ lw_privs_1 ++ (lw_privs_2 ++ (lw_privs_3 ++ (lw_privs_4 ++ (lw_privs_5 ++ (lw_privs_6 ++ (lw_privs_7)))))), lw_okq q
  exact List.forall_mem_append.mpr ⟨lw_r1, List.forall_mem_append.mpr ⟨lw_r2, List.forall_mem_append.mpr ⟨lw_r3, List.forall_mem_append.mpr ⟨lw_r4, List.forall_mem_append.mpr ⟨lw_r5, List.forall_mem_append.mpr ⟨lw_r6, lw_r7⟩⟩⟩⟩⟩⟩

/-! THE CLASSES: name, fields in order (declaring class, name, descriptor, final), their types -/
def T_0 : u_T := fun k => match k with
  | _ => ("CatCourt$Court", "row", "[I", true)
def t_0 : Nat → FieldType := fun k => match k with
  | _ => .array .int
theorem nm_0 : ∀ a, a < 1 → ∀ b, b < 1 → a ≠ b → (T_0 a).2.1 ≠ (T_0 b).2.1 := by decide +kernel
theorem ty_0 : ∀ k, k < 1 → parseFieldDescriptor (T_0 k).2.2.1 = some (t_0 k) := by decide +kernel
def T_1 : u_T := fun k => match k with
  | 0 => ("CatCourt$CourtText", "tape", "LCatCourt$Tape;", true)
  | 1 => ("CatCourt$CourtText", "draft", "LCatCourt$Court;", true)
  | _ => ("CatCourt$CourtText", "hasBench", "Z", false)
def t_1 : Nat → FieldType := fun k => match k with
  | 0 => .object "CatCourt$Tape"
  | 1 => .object "CatCourt$Court"
  | _ => .boolean
theorem nm_1 : ∀ a, a < 3 → ∀ b, b < 3 → a ≠ b → (T_1 a).2.1 ≠ (T_1 b).2.1 := by decide +kernel
theorem ty_1 : ∀ k, k < 3 → parseFieldDescriptor (T_1 k).2.2.1 = some (t_1 k) := by decide +kernel
def T_2 : u_T := fun k => match k with
  | _ => ("CatCourt$Dice", "x", "J", false)
def t_2 : Nat → FieldType := fun k => match k with
  | _ => .long
theorem nm_2 : ∀ a, a < 1 → ∀ b, b < 1 → a ≠ b → (T_2 a).2.1 ≠ (T_2 b).2.1 := by decide +kernel
theorem ty_2 : ∀ k, k < 1 → parseFieldDescriptor (T_2 k).2.2.1 = some (t_2 k) := by decide +kernel
def T_3 : u_T := fun k => match k with
  | 0 => ("CatCourt$Law", "steps", "[I", true)
  | 1 => ("CatCourt$Law", "length", "I", false)
  | _ => ("CatCourt$Law", "stack", "[I", true)
def t_3 : Nat → FieldType := fun k => match k with
  | 0 => .array .int
  | 1 => .int
  | _ => .array .int
theorem nm_3 : ∀ a, a < 3 → ∀ b, b < 3 → a ≠ b → (T_3 a).2.1 ≠ (T_3 b).2.1 := by decide +kernel
theorem ty_3 : ∀ k, k < 3 → parseFieldDescriptor (T_3 k).2.2.1 = some (t_3 k) := by decide +kernel
def T_4 : u_T := fun k => match k with
  | 0 => ("CatCourt$LawText", "tape", "LCatCourt$Tape;", true)
  | 1 => ("CatCourt$LawText", "steps", "[I", true)
  | _ => ("CatCourt$LawText", "length", "I", false)
def t_4 : Nat → FieldType := fun k => match k with
  | 0 => .object "CatCourt$Tape"
  | 1 => .array .int
  | _ => .int
theorem nm_4 : ∀ a, a < 3 → ∀ b, b < 3 → a ≠ b → (T_4 a).2.1 ≠ (T_4 b).2.1 := by decide +kernel
theorem ty_4 : ∀ k, k < 3 → parseFieldDescriptor (T_4 k).2.2.1 = some (t_4 k) := by decide +kernel
def T_5 : u_T := fun k => match k with
  | 0 => ("CatCourt$Mind", "court", "LCatCourt$Court;", false)
  | 1 => ("CatCourt$Mind", "law", "LCatCourt$Law;", false)
  | 2 => ("CatCourt$Mind", "letters", "[I", true)
  | 3 => ("CatCourt$Mind", "moods", "[I", true)
  | _ => ("CatCourt$Mind", "odds", "[I", true)
def t_5 : Nat → FieldType := fun k => match k with
  | 0 => .object "CatCourt$Court"
  | 1 => .object "CatCourt$Law"
  | 2 => .array .int
  | 3 => .array .int
  | _ => .array .int
theorem nm_5 : ∀ a, a < 5 → ∀ b, b < 5 → a ≠ b → (T_5 a).2.1 ≠ (T_5 b).2.1 := by decide +kernel
theorem ty_5 : ∀ k, k < 5 → parseFieldDescriptor (T_5 k).2.2.1 = some (t_5 k) := by decide +kernel
def T_6 : u_T := fun k => match k with
  | 0 => ("CatCourt$Past", "courts", "[LCatCourt$Court;", true)
  | 1 => ("CatCourt$Past", "next", "I", false)
  | _ => ("CatCourt$Past", "length", "I", false)
def t_6 : Nat → FieldType := fun k => match k with
  | 0 => .array (.object "CatCourt$Court")
  | 1 => .int
  | _ => .int
theorem nm_6 : ∀ a, a < 3 → ∀ b, b < 3 → a ≠ b → (T_6 a).2.1 ≠ (T_6 b).2.1 := by decide +kernel
theorem ty_6 : ∀ k, k < 3 → parseFieldDescriptor (T_6 k).2.2.1 = some (t_6 k) := by decide +kernel
def T_7 : u_T := fun k => match k with
  | 0 => ("CatCourt$Scales", "mind", "LCatCourt$Mind;", true)
  | 1 => ("CatCourt$Scales", "no", "LCatCourt$Spread;", true)
  | _ => ("CatCourt$Scales", "yes", "LCatCourt$Spread;", true)
def t_7 : Nat → FieldType := fun k => match k with
  | 0 => .object "CatCourt$Mind"
  | 1 => .object "CatCourt$Spread"
  | _ => .object "CatCourt$Spread"
theorem nm_7 : ∀ a, a < 3 → ∀ b, b < 3 → a ≠ b → (T_7 a).2.1 ≠ (T_7 b).2.1 := by decide +kernel
theorem ty_7 : ∀ k, k < 3 → parseFieldDescriptor (T_7 k).2.2.1 = some (t_7 k) := by decide +kernel
def T_8 : u_T := fun k => match k with
  | 0 => ("CatCourt$Spread", "parts", "[[J", true)
  | 1 => ("CatCourt$Spread", "known", "[I", true)
  | 2 => ("CatCourt$Spread", "odds", "[I", true)
  | 3 => ("CatCourt$Spread", "lasts", "[I", true)
  | _ => ("CatCourt$Spread", "points", "[I", true)
def t_8 : Nat → FieldType := fun k => match k with
  | 0 => .array (.array .long)
  | 1 => .array .int
  | 2 => .array .int
  | 3 => .array .int
  | _ => .array .int
theorem nm_8 : ∀ a, a < 5 → ∀ b, b < 5 → a ≠ b → (T_8 a).2.1 ≠ (T_8 b).2.1 := by decide +kernel
theorem ty_8 : ∀ k, k < 5 → parseFieldDescriptor (T_8 k).2.2.1 = some (t_8 k) := by decide +kernel
def T_9 : u_T := fun k => match k with
  | 0 => ("CatCourt$Tape", "signs", "[I", true)
  | 1 => ("CatCourt$Tape", "length", "I", false)
  | 2 => ("CatCourt$Tape", "at", "I", false)
  | _ => ("CatCourt$Tape", "wrong", "I", false)
def t_9 : Nat → FieldType := fun k => match k with
  | 0 => .array .int
  | 1 => .int
  | 2 => .int
  | _ => .int
theorem nm_9 : ∀ a, a < 4 → ∀ b, b < 4 → a ≠ b → (T_9 a).2.1 ≠ (T_9 b).2.1 := by decide +kernel
theorem ty_9 : ∀ k, k < 4 → parseFieldDescriptor (T_9 k).2.2.1 = some (t_9 k) := by decide +kernel
def T_10 : u_T := fun k => match k with
  | 0 => ("CatCourt", "tape", "LCatCourt$Tape;", true)
  | 1 => ("CatCourt", "courtText", "LCatCourt$CourtText;", true)
  | 2 => ("CatCourt", "lawText", "LCatCourt$LawText;", true)
  | 3 => ("CatCourt", "laws", "[LCatCourt$Law;", true)
  | 4 => ("CatCourt", "told", "I", false)
  | 5 => ("CatCourt", "holds", "I", false)
  | 6 => ("CatCourt", "now", "LCatCourt$Court;", true)
  | 7 => ("CatCourt", "trial", "LCatCourt$Court;", true)
  | 8 => ("CatCourt", "kept", "LCatCourt$Court;", true)
  | 9 => ("CatCourt", "isKept", "Z", false)
  | 10 => ("CatCourt", "past", "LCatCourt$Past;", true)
  | 11 => ("CatCourt", "seen", "[I", true)
  | 12 => ("CatCourt", "seenCount", "I", false)
  | 13 => ("CatCourt", "washed", "[I", true)
  | 14 => ("CatCourt", "mind", "LCatCourt$Mind;", true)
  | 15 => ("CatCourt", "scales", "LCatCourt$Scales;", true)
  | _ => ("CatCourt", "dice", "LCatCourt$Dice;", true)
def t_10 : Nat → FieldType := fun k => match k with
  | 0 => .object "CatCourt$Tape"
  | 1 => .object "CatCourt$CourtText"
  | 2 => .object "CatCourt$LawText"
  | 3 => .array (.object "CatCourt$Law")
  | 4 => .int
  | 5 => .int
  | 6 => .object "CatCourt$Court"
  | 7 => .object "CatCourt$Court"
  | 8 => .object "CatCourt$Court"
  | 9 => .boolean
  | 10 => .object "CatCourt$Past"
  | 11 => .array .int
  | 12 => .int
  | 13 => .array .int
  | 14 => .object "CatCourt$Mind"
  | 15 => .object "CatCourt$Scales"
  | _ => .object "CatCourt$Dice"
theorem nm_10 : ∀ a, a < 17 → ∀ b, b < 17 → a ≠ b → (T_10 a).2.1 ≠ (T_10 b).2.1 := by decide +kernel
theorem ty_10 : ∀ k, k < 17 → parseFieldDescriptor (T_10 k).2.2.1 = some (t_10 k) := by decide +kernel
def T_11 : u_T := fun k => match k with
  | 0 => ("CatCourtModel", "thrown", "I", false)
  | 1 => ("CatCourtModel", "tape", "[I", true)
  | 2 => ("CatCourtModel", "size", "I", false)
  | 3 => ("CatCourtModel", "at", "I", false)
  | 4 => ("CatCourtModel", "wrong", "I", false)
  | 5 => ("CatCourtModel", "deep", "I", false)
  | 6 => ("CatCourtModel", "code", "[I", true)
  | 7 => ("CatCourtModel", "value", "[I", true)
  | 8 => ("CatCourtModel", "codes", "[I", true)
  | 9 => ("CatCourtModel", "clauses", "[I", true)
  | 10 => ("CatCourtModel", "testFrom", "[I", true)
  | 11 => ("CatCourtModel", "sumFrom", "[I", true)
  | 12 => ("CatCourtModel", "sumTo", "[I", true)
  | 13 => ("CatCourtModel", "laws", "I", false)
  | 14 => ("CatCourtModel", "text", "I", false)
  | 15 => ("CatCourtModel", "letters", "[I", true)
  | 16 => ("CatCourtModel", "stack", "[I", true)
  | 17 => ("CatCourtModel", "readBench", "[I", true)
  | 18 => ("CatCourtModel", "readCat", "[I", true)
  | 19 => ("CatCourtModel", "readAccused", "[I", true)
  | 20 => ("CatCourtModel", "readCats", "I", false)
  | 21 => ("CatCourtModel", "readMany", "I", false)
  | 22 => ("CatCourtModel", "points", "[I", true)
  | 23 => ("CatCourtModel", "weights", "[I", true)
  | 24 => ("CatCourtModel", "guilt", "[I", true)
  | 25 => ("CatCourtModel", "dog", "[I", true)
  | 26 => ("CatCourtModel", "needed", "I", false)
  | 27 => ("CatCourtModel", "cats", "I", false)
  | 28 => ("CatCourtModel", "many", "I", false)
  | 29 => ("CatCourtModel", "now", "[I", true)
  | 30 => ("CatCourtModel", "holding", "I", false)
  | 31 => ("CatCourtModel", "odds", "[J", true)
  | 32 => ("CatCourtModel", "lastDeed", "I", false)
  | 33 => ("CatCourtModel", "parts", "[J", true)
  | 34 => ("CatCourtModel", "other", "[J", true)
  | 35 => ("CatCourtModel", "kept", "[I", true)
  | 36 => ("CatCourtModel", "acts", "I", false)
  | 37 => ("CatCourtModel", "draws", "J", false)
  | 38 => ("CatCourtModel", "did", "[I", true)
  | 39 => ("CatCourtModel", "fishSum", "I", false)
  | 40 => ("CatCourtModel", "fishRow", "I", false)
  | 41 => ("CatCourtModel", "first", "[J", true)
  | 42 => ("CatCourtModel", "guilty", "[J", true)
  | 43 => ("CatCourtModel", "seenCat", "[I", true)
  | 44 => ("CatCourtModel", "seenOn", "[I", true)
  | 45 => ("CatCourtModel", "seenDeed", "[I", true)
  | 46 => ("CatCourtModel", "sees", "I", false)
  | 47 => ("CatCourtModel", "milkWas", "[I", true)
  | 48 => ("CatCourtModel", "image", "[I", true)
  | _ => ("CatCourtModel", "hasImage", "Z", false)
def t_11 : Nat → FieldType := fun k => match k with
  | 0 => .int
  | 1 => .array .int
  | 2 => .int
  | 3 => .int
  | 4 => .int
  | 5 => .int
  | 6 => .array .int
  | 7 => .array .int
  | 8 => .array .int
  | 9 => .array .int
  | 10 => .array .int
  | 11 => .array .int
  | 12 => .array .int
  | 13 => .int
  | 14 => .int
  | 15 => .array .int
  | 16 => .array .int
  | 17 => .array .int
  | 18 => .array .int
  | 19 => .array .int
  | 20 => .int
  | 21 => .int
  | 22 => .array .int
  | 23 => .array .int
  | 24 => .array .int
  | 25 => .array .int
  | 26 => .int
  | 27 => .int
  | 28 => .int
  | 29 => .array .int
  | 30 => .int
  | 31 => .array .long
  | 32 => .int
  | 33 => .array .long
  | 34 => .array .long
  | 35 => .array .int
  | 36 => .int
  | 37 => .long
  | 38 => .array .int
  | 39 => .int
  | 40 => .int
  | 41 => .array .long
  | 42 => .array .long
  | 43 => .array .int
  | 44 => .array .int
  | 45 => .array .int
  | 46 => .int
  | 47 => .array .int
  | 48 => .array .int
  | _ => .boolean
theorem nm_11 : ∀ a, a < 50 → ∀ b, b < 50 → a ≠ b → (T_11 a).2.1 ≠ (T_11 b).2.1 := by decide +kernel
theorem ty_11 : ∀ k, k < 50 → parseFieldDescriptor (T_11 k).2.2.1 = some (t_11 k) := by decide +kernel
def pz_cls : List vw_C := [("CatCourt$Court", T_0, 1), ("CatCourt$CourtText", T_1, 3), ("CatCourt$Dice", T_2, 1), ("CatCourt$Law", T_3, 3), ("CatCourt$LawText", T_4, 3), ("CatCourt$Mind", T_5, 5), ("CatCourt$Past", T_6, 3), ("CatCourt$Scales", T_7, 3), ("CatCourt$Spread", T_8, 5), ("CatCourt$Tape", T_9, 4), ("CatCourt", T_10, 17), ("CatCourtModel", T_11, 50)]
def pz_tyf : List (Nat → FieldType) := [t_0, t_1, t_2, t_3, t_4, t_5, t_6, t_7, t_8, t_9, t_10, t_11]
/-- the words that go down to every method -/
def lw_g : List Cond := lw_tbl.filter goodWord
theorem lw_g_in {w : Cond} (h : w ∈ lw_tbl) (hg : goodWord w = true) : w ∈ lw_g := List.mem_filter.mpr ⟨h, hg⟩
theorem lw_g_sub {w : Cond} (h : w ∈ lw_g) : w ∈ lw_tbl := (List.mem_filter.mp h).1
theorem lw_tbl_at {w : Cond} (i : Nat) (h : tables_1[i]? = some w) : w ∈ lw_tbl := List.mem_append_right _ (List.mem_of_getElem? h)
theorem lw_g_at {w : Cond} (i : Nat) (h : tables_1[i]? = some w) (hg : goodWord w = true) : w ∈ lw_g := lw_g_in (lw_tbl_at i h) hg
theorem lay_0 : ∀ w ∈ u_ws "CatCourt$Court" T_0 1, w ∈ lw_g := by
  intro w hw
  obtain ⟨k, hk, rfl⟩ := List.mem_map.mp hw
  have hk := List.mem_range.mp hk
  match k, hk with
  | 0, _ => exact lw_g_at 61 (by decide +kernel) rfl
  | k + 1, hk => exact absurd hk (by omega)
theorem lay_1 : ∀ w ∈ u_ws "CatCourt$CourtText" T_1 3, w ∈ lw_g := by
  intro w hw
  obtain ⟨k, hk, rfl⟩ := List.mem_map.mp hw
  have hk := List.mem_range.mp hk
  match k, hk with
  | 0, _ => exact lw_g_at 67 (by decide +kernel) rfl
  | 1, _ => exact lw_g_at 69 (by decide +kernel) rfl
  | 2, _ => exact lw_g_at 71 (by decide +kernel) rfl
  | k + 3, hk => exact absurd hk (by omega)
theorem lay_2 : ∀ w ∈ u_ws "CatCourt$Dice" T_2 1, w ∈ lw_g := by
  intro w hw
  obtain ⟨k, hk, rfl⟩ := List.mem_map.mp hw
  have hk := List.mem_range.mp hk
  match k, hk with
  | 0, _ => exact lw_g_at 185 (by decide +kernel) rfl
  | k + 1, hk => exact absurd hk (by omega)
theorem lay_3 : ∀ w ∈ u_ws "CatCourt$Law" T_3 3, w ∈ lw_g := by
  intro w hw
  obtain ⟨k, hk, rfl⟩ := List.mem_map.mp hw
  have hk := List.mem_range.mp hk
  match k, hk with
  | 0, _ => exact lw_g_at 196 (by decide +kernel) rfl
  | 1, _ => exact lw_g_at 198 (by decide +kernel) rfl
  | 2, _ => exact lw_g_at 200 (by decide +kernel) rfl
  | k + 3, hk => exact absurd hk (by omega)
theorem lay_4 : ∀ w ∈ u_ws "CatCourt$LawText" T_4 3, w ∈ lw_g := by
  intro w hw
  obtain ⟨k, hk, rfl⟩ := List.mem_map.mp hw
  have hk := List.mem_range.mp hk
  match k, hk with
  | 0, _ => exact lw_g_at 83 (by decide +kernel) rfl
  | 1, _ => exact lw_g_at 85 (by decide +kernel) rfl
  | 2, _ => exact lw_g_at 87 (by decide +kernel) rfl
  | k + 3, hk => exact absurd hk (by omega)
theorem lay_5 : ∀ w ∈ u_ws "CatCourt$Mind" T_5 5, w ∈ lw_g := by
  intro w hw
  obtain ⟨k, hk, rfl⟩ := List.mem_map.mp hw
  have hk := List.mem_range.mp hk
  match k, hk with
  | 0, _ => exact lw_g_at 126 (by decide +kernel) rfl
  | 1, _ => exact lw_g_at 128 (by decide +kernel) rfl
  | 2, _ => exact lw_g_at 130 (by decide +kernel) rfl
  | 3, _ => exact lw_g_at 132 (by decide +kernel) rfl
  | 4, _ => exact lw_g_at 134 (by decide +kernel) rfl
  | k + 5, hk => exact absurd hk (by omega)
theorem lay_6 : ∀ w ∈ u_ws "CatCourt$Past" T_6 3, w ∈ lw_g := by
  intro w hw
  obtain ⟨k, hk, rfl⟩ := List.mem_map.mp hw
  have hk := List.mem_range.mp hk
  match k, hk with
  | 0, _ => exact lw_g_at 106 (by decide +kernel) rfl
  | 1, _ => exact lw_g_at 108 (by decide +kernel) rfl
  | 2, _ => exact lw_g_at 110 (by decide +kernel) rfl
  | k + 3, hk => exact absurd hk (by omega)
theorem lay_7 : ∀ w ∈ u_ws "CatCourt$Scales" T_7 3, w ∈ lw_g := by
  intro w hw
  obtain ⟨k, hk, rfl⟩ := List.mem_map.mp hw
  have hk := List.mem_range.mp hk
  match k, hk with
  | 0, _ => exact lw_g_at 171 (by decide +kernel) rfl
  | 1, _ => exact lw_g_at 173 (by decide +kernel) rfl
  | 2, _ => exact lw_g_at 175 (by decide +kernel) rfl
  | k + 3, hk => exact absurd hk (by omega)
theorem lay_8 : ∀ w ∈ u_ws "CatCourt$Spread" T_8 5, w ∈ lw_g := by
  intro w hw
  obtain ⟨k, hk, rfl⟩ := List.mem_map.mp hw
  have hk := List.mem_range.mp hk
  match k, hk with
  | 0, _ => exact lw_g_at 156 (by decide +kernel) rfl
  | 1, _ => exact lw_g_at 158 (by decide +kernel) rfl
  | 2, _ => exact lw_g_at 160 (by decide +kernel) rfl
  | 3, _ => exact lw_g_at 162 (by decide +kernel) rfl
  | 4, _ => exact lw_g_at 164 (by decide +kernel) rfl
  | k + 5, hk => exact absurd hk (by omega)
theorem lay_9 : ∀ w ∈ u_ws "CatCourt$Tape" T_9 4, w ∈ lw_g := by
  intro w hw
  obtain ⟨k, hk, rfl⟩ := List.mem_map.mp hw
  have hk := List.mem_range.mp hk
  match k, hk with
  | 0, _ => exact lw_g_at 38 (by decide +kernel) rfl
  | 1, _ => exact lw_g_at 40 (by decide +kernel) rfl
  | 2, _ => exact lw_g_at 42 (by decide +kernel) rfl
  | 3, _ => exact lw_g_at 44 (by decide +kernel) rfl
  | k + 4, hk => exact absurd hk (by omega)
theorem lay_10 : ∀ w ∈ u_ws "CatCourt" T_10 17, w ∈ lw_g := by
  intro w hw
  obtain ⟨k, hk, rfl⟩ := List.mem_map.mp hw
  have hk := List.mem_range.mp hk
  match k, hk with
  | 0, _ => exact lw_g_at 220 (by decide +kernel) rfl
  | 1, _ => exact lw_g_at 222 (by decide +kernel) rfl
  | 2, _ => exact lw_g_at 224 (by decide +kernel) rfl
  | 3, _ => exact lw_g_at 226 (by decide +kernel) rfl
  | 4, _ => exact lw_g_at 228 (by decide +kernel) rfl
  | 5, _ => exact lw_g_at 230 (by decide +kernel) rfl
  | 6, _ => exact lw_g_at 232 (by decide +kernel) rfl
  | 7, _ => exact lw_g_at 234 (by decide +kernel) rfl
  | 8, _ => exact lw_g_at 236 (by decide +kernel) rfl
  | 9, _ => exact lw_g_at 238 (by decide +kernel) rfl
  | 10, _ => exact lw_g_at 240 (by decide +kernel) rfl
  | 11, _ => exact lw_g_at 242 (by decide +kernel) rfl
  | 12, _ => exact lw_g_at 244 (by decide +kernel) rfl
  | 13, _ => exact lw_g_at 246 (by decide +kernel) rfl
  | 14, _ => exact lw_g_at 248 (by decide +kernel) rfl
  | 15, _ => exact lw_g_at 250 (by decide +kernel) rfl
  | 16, _ => exact lw_g_at 252 (by decide +kernel) rfl
  | k + 17, hk => exact absurd hk (by omega)
theorem lay_11 : ∀ w ∈ u_ws "CatCourtModel" T_11 50, w ∈ lw_g := by
  intro w hw
  obtain ⟨k, hk, rfl⟩ := List.mem_map.mp hw
  have hk := List.mem_range.mp hk
  match k, hk with
  | 0, _ => exact lw_g_at 1125 (by decide +kernel) rfl
  | 1, _ => exact lw_g_at 1127 (by decide +kernel) rfl
  | 2, _ => exact lw_g_at 1129 (by decide +kernel) rfl
  | 3, _ => exact lw_g_at 1131 (by decide +kernel) rfl
  | 4, _ => exact lw_g_at 1133 (by decide +kernel) rfl
  | 5, _ => exact lw_g_at 1135 (by decide +kernel) rfl
  | 6, _ => exact lw_g_at 1137 (by decide +kernel) rfl
  | 7, _ => exact lw_g_at 1139 (by decide +kernel) rfl
  | 8, _ => exact lw_g_at 1141 (by decide +kernel) rfl
  | 9, _ => exact lw_g_at 1143 (by decide +kernel) rfl
  | 10, _ => exact lw_g_at 1145 (by decide +kernel) rfl
  | 11, _ => exact lw_g_at 1147 (by decide +kernel) rfl
  | 12, _ => exact lw_g_at 1149 (by decide +kernel) rfl
  | 13, _ => exact lw_g_at 1151 (by decide +kernel) rfl
  | 14, _ => exact lw_g_at 1153 (by decide +kernel) rfl
  | 15, _ => exact lw_g_at 1155 (by decide +kernel) rfl
  | 16, _ => exact lw_g_at 1157 (by decide +kernel) rfl
  | 17, _ => exact lw_g_at 1159 (by decide +kernel) rfl
  | 18, _ => exact lw_g_at 1161 (by decide +kernel) rfl
  | 19, _ => exact lw_g_at 1163 (by decide +kernel) rfl
  | 20, _ => exact lw_g_at 1165 (by decide +kernel) rfl
  | 21, _ => exact lw_g_at 1167 (by decide +kernel) rfl
  | 22, _ => exact lw_g_at 1169 (by decide +kernel) rfl
  | 23, _ => exact lw_g_at 1171 (by decide +kernel) rfl
  | 24, _ => exact lw_g_at 1173 (by decide +kernel) rfl
  | 25, _ => exact lw_g_at 1175 (by decide +kernel) rfl
  | 26, _ => exact lw_g_at 1177 (by decide +kernel) rfl
  | 27, _ => exact lw_g_at 1179 (by decide +kernel) rfl
  | 28, _ => exact lw_g_at 1181 (by decide +kernel) rfl
  | 29, _ => exact lw_g_at 1183 (by decide +kernel) rfl
  | 30, _ => exact lw_g_at 1185 (by decide +kernel) rfl
  | 31, _ => exact lw_g_at 1187 (by decide +kernel) rfl
  | 32, _ => exact lw_g_at 1189 (by decide +kernel) rfl
  | 33, _ => exact lw_g_at 1191 (by decide +kernel) rfl
  | 34, _ => exact lw_g_at 1193 (by decide +kernel) rfl
  | 35, _ => exact lw_g_at 1195 (by decide +kernel) rfl
  | 36, _ => exact lw_g_at 1197 (by decide +kernel) rfl
  | 37, _ => exact lw_g_at 1199 (by decide +kernel) rfl
  | 38, _ => exact lw_g_at 1201 (by decide +kernel) rfl
  | 39, _ => exact lw_g_at 1203 (by decide +kernel) rfl
  | 40, _ => exact lw_g_at 1205 (by decide +kernel) rfl
  | 41, _ => exact lw_g_at 1207 (by decide +kernel) rfl
  | 42, _ => exact lw_g_at 1209 (by decide +kernel) rfl
  | 43, _ => exact lw_g_at 1211 (by decide +kernel) rfl
  | 44, _ => exact lw_g_at 1213 (by decide +kernel) rfl
  | 45, _ => exact lw_g_at 1215 (by decide +kernel) rfl
  | 46, _ => exact lw_g_at 1217 (by decide +kernel) rfl
  | 47, _ => exact lw_g_at 1219 (by decide +kernel) rfl
  | 48, _ => exact lw_g_at 1221 (by decide +kernel) rfl
  | 49, _ => exact lw_g_at 1223 (by decide +kernel) rfl
  | k + 50, hk => exact absurd hk (by omega)
