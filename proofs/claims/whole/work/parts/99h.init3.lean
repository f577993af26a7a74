/-! HOW BOTH BEGIN: the law's first block, and JJ there -/
section P9h
variable {ss : List (Nat × Nat)} {M : pz_M} {d i a b k j rc rs : Nat} {z : Int} {f : Nat → Int}
theorem mCo_at : mCo M k a b = if a = k ∧ b = 0 then ((k + 1 : Nat) : Int) else if a = k + 1 then 0 else M a b := by unfold mCo; rw [up_at, nw_at]
theorem paM_lo (h : a < 15) : paM M i a b = M a b := by
  induction i with
  | zero => rw [paM, up_at, if_neg (by omega), nw_at, if_neg (by omega)]
  | succ i ih => rw [paM, up_at, if_neg (by omega), mCo_at, if_neg (by omega), if_neg (by omega), nw_at, if_neg (by omega), ih]
theorem paM_15 : paM M i 15 0 = 16 := by
  induction i with
  | zero => rw [paM, up_at, if_pos ⟨rfl, rfl⟩]
  | succ i ih => rw [paM, up_at, if_neg (by omega), mCo_at, if_neg (by omega), if_neg (by omega), nw_at, if_neg (by omega), ih]
theorem up_hi (ha : 179 ≤ a) (hk : k < 179) : pz_up M k j z a b = M a b := by rw [up_at, if_neg (by omega)]
theorem nw_hi (ha : 179 ≤ a) (hk : k < 179) : pz_nw M k f a b = M a b := by rw [nw_at, if_neg (by omega)]
theorem nM_hi (ha : 179 ≤ a) (hk : k < 160) : nM M k a b = M a b := by unfold nM; rw [if_neg (by omega), if_neg (by omega), if_neg (by omega)]
theorem paM_hi (ha : 179 ≤ a) (hi : i ≤ 40) : paM M i a b = M a b := by
  induction i with
  | zero => rw [paM, up_hi ha (by omega), nw_hi ha (by omega)]
  | succ i ih => rw [paM, up_hi ha (by omega), mCo_at, if_neg (by omega), if_neg (by omega), nw_hi ha (by omega), ih (by omega)]
theorem nM_lo (h : a < k) : nM M k a b = M a b := by unfold nM; rw [if_pos h]
theorem mSp104_lo (h : a < 104) : mSp104 M a b = M a b := by
  unfold mSp104
  simp (disch := first | omega | assumption | decide +kernel) only [up_at, nw_at, nM_lo, if_neg]
  repeat rw [if_neg (by omega)]
theorem mSp119_lo (h : a < 104) : mSp119 M a b = M a b := by
  unfold mSp119
  simp (disch := first | omega | assumption | decide +kernel) only [up_at, nw_at, nM_lo, if_neg]
  repeat rw [if_neg (by omega)]
theorem mSc_lo (h : a < 99) : mSc M a b = M a b := by
  unfold mSc
  rw [up_at, if_neg (by omega), up_at, if_neg (by omega), mSp119_lo (by omega), nw_at, if_neg (by omega), up_at, if_neg (by omega), mSp104_lo (by omega), nw_at, if_neg (by omega)]
theorem mMi_lo (h : a < 99) : mMi M a b = M a b := by
  unfold mMi
  rw [up_at, if_neg (by omega), up_at, if_neg (by omega), nw_at, if_neg (by omega), up_at, if_neg (by omega), nw_at, if_neg (by omega), up_at, if_neg (by omega), nw_at, if_neg (by omega)]
theorem mCt_lo (h : a < 3) : mCt M a b = M a b := by
  unfold mCt
  rw [up_at, if_neg (by omega), up_at, if_neg (by omega), mCo_at, if_neg (by omega), if_neg (by omega), nw_at, if_neg (by omega)]
theorem mLt_lo (h : a < 6) : mLt M a b = M a b := by
  unfold mLt
  rw [up_at, if_neg (by omega), up_at, if_neg (by omega), nw_at, if_neg (by omega)]
theorem mTa_lo (h : a < 1) : mTa M a b = M a b := by
  unfold mTa
  rw [up_at, if_neg (by omega), up_at, if_neg (by omega), nw_at, if_neg (by omega)]
theorem mLa_lo (h : a < k) : mLa M k a b = M a b := by
  unfold mLa
  rw [up_at, if_neg (by omega), nw_at, if_neg (by omega), up_at, if_neg (by omega), nw_at, if_neg (by omega)]
theorem pa_sh : ∀ i, i < 40 → pz_SH[17 + 2 * i]? = some (0, 1) ∧ pz_SH[17 + 2 * i + 1]? = some (100, (144 : Int).toNat) := by decide +kernel
set_option maxRecDepth 100000 in
theorem i_PaL : ∀ j i : Nat, i + j = 40 → pz_p bl_Pa_init (pz_cal (d + 1)) 81 5840 15 [] [(2, 15), (0, (i : Int))] [] ((pz_SH.take (17 + 2 * i), ss, 1 + 2 * i, 40 + 145 * i, 0), paM M i) = some (none, ((pz_SH.take 97, ss, 81, 5840, 0), paM M 40)) := by
  intro j
  induction j with
  | zero =>
    intro i hi
    obtain rfl : i = 40 := by omega
    rw [j_Pa_init_15]
    simp (maxSteps := 1000000) (disch := first | omega | assumption | decide +kernel) only [↓reduceIte, sp_0, sp_s, Option.map_some, Option.map_none, Option.some.injEq, o_le, o_nle, o_lt, o_nlt, o_eq, o_neq, w32_id, up_at, nw_at, nw_s, px_iconst, px_bipush, px_sipush, px_ldc, px_ldc_w, px_lconst, px_ldc2_w, px_aconst_null, px_getstatic, px_iload_n, px_iload, px_lload_n, px_lload, px_aload_n, px_aload, px_istore_n, px_istore, px_astore_n, px_astore, px_lstore_n, px_lstore, px_iinc, px_iadd, px_isub, px_imul, px_iand, px_ior, px_ixor, px_ishl, px_ishr, px_iushr, px_ladd, px_lsub, px_lmul, px_land, px_lor, px_lcmp, px_lushr, px_lshl, px_ineg, px_i2l, px_l2i, px_idiv, px_irem, px_ldiv, px_lrem, px_dup0, px_pop0, px_dup2, px_pop2, px_dup2x, px_goto, px_if_eq, px_ic_eq, px_if_ne, px_ic_ne, px_if_lt, px_ic_lt, px_if_ge, px_ic_ge, px_if_gt, px_ic_gt, px_if_le, px_ic_le, px_ifnull, px_ifnonnull, px_lookupswitch, px_tableswitch, px_getfield, px_iaload, px_laload, px_caload, px_aaload, px_iastore, px_lastore, px_arraylength, px_putfield, px_ireturn, px_lreturn, px_areturn, px_return, px_iv0, px_is0, px_iv1, px_is1, px_iv2, px_is2, px_iv3, px_is3, px_iv4, px_is4, px_iv5, px_is5, px_iv6, px_is6, px_max, px_min, px_abs, px_maxJ, px_minJ, px_ii0, px_ii1, px_iio, px_copy, pz_cpk, pz_lk, pz_alk, pz_ask, pz_gfk, pz_lnk, pz_bx, pz_b, pz_z, pz_s1, pz_s2, pz_wt, pz_cmp, List.getElem?_cons_zero, List.getElem?_cons_succ, List.getElem?_nil, List.set_cons_zero, List.set_cons_succ, List.length_cons, List.length_nil, List.nil_append, List.cons_append, Option.toList_some, Option.toList_none, if_true, if_false, ite_true, ite_false, and_true, true_and, and_self, or_self, or_false, false_or, true_or, or_true, and_false, false_and, not_true_eq_false, not_false_eq_true, forall_const, ne_eq, reduceCtorEq, implies_true, false_implies, true_implies, Int.toNat_natCast, Nat.reduceAdd, Nat.reduceSub, Nat.reduceLT, Nat.reduceLeDiff, Nat.reduceEqDiff, Int.reduceLT, Int.reduceLE, Int.reduceToNat, Int.reduceNeg, Int.reduceEq, Int.reduceAdd, Nat.reduceMul, Int.reduceSub, Nat.reduceBEq, Int.reduceMul, Nat.add_zero, Nat.zero_add, Int.cast_ofNat_Int, Int.ofNat_eq_coe, decide_eq_true_eq, Nat.lt_irrefl, Nat.le_refl, List.getElem?_toArray, Option.elim_some, Option.elim_none, j_Pa_init_43, n_new, n_newa, n_anew, n_multi, n_aa, sh_t, Int.reduceLE, Int.reduceLT, e_0, e_1, e_3, e_4, e_6, e_8, e_9, e_11, e_13, e_15, e_16, e_17, e_19, e_21, e_23, e_25, e_27, e_29, e_31, e_33, e_35, e_37, e_39, e_41, e_43, e_45, e_47, e_49, e_51, e_53, e_55, e_57, e_59, e_61, e_63, e_65, e_67, e_69, e_71, e_73, e_75, e_77, e_79, e_81, e_83, e_85, e_87, e_89, e_91, e_93, e_95, e_99, e_103, e_104, e_119, e_134, e_135, e_138, e_141, e_144, e_147, paM_15]
  | succ j ih =>
    intro i hi
    have e := ih (i + 1) (by omega)
    rw [show 17 + 2 * (i + 1) = 17 + 2 * i + 1 + 1 from by omega, show 1 + 2 * (i + 1) = 1 + 2 * i + 1 + 1 from by omega, show 40 + 145 * (i + 1) = 40 + 145 * i + 1 + 144 from by omega, show ((i + 1 : Nat) : Int) = (i : Int) + 1 from by omega, paM] at e
    obtain ⟨h0, h1⟩ := pa_sh i (by omega)
    have q : ∀ M, pz_cal (d + 1) 0 [(2, ((17 + 2 * i : Nat) : Int))] ((pz_SH.take (17 + 2 * i + 1), ss, 0, 0, 0), M) = some (none, ((pz_SH.take (17 + 2 * i + 1 + 1), ss, 1, 144, 0), mCo M (17 + 2 * i))) := fun M => i_Co rfl h0 h1
    have b1 : 1 + 2 * i + 1 + 1 ≤ 81 := by omega
    have b2 : 40 + 145 * i + 1 + 144 ≤ 5840 := by omega
    rw [j_Pa_init_15]
    simp (maxSteps := 1000000) (disch := first | omega | assumption | decide +kernel) only [↓reduceIte, sp_0, sp_s, Option.map_some, Option.map_none, Option.some.injEq, o_le, o_nle, o_lt, o_nlt, o_eq, o_neq, w32_id, up_at, nw_at, nw_s, px_iconst, px_bipush, px_sipush, px_ldc, px_ldc_w, px_lconst, px_ldc2_w, px_aconst_null, px_getstatic, px_iload_n, px_iload, px_lload_n, px_lload, px_aload_n, px_aload, px_istore_n, px_istore, px_astore_n, px_astore, px_lstore_n, px_lstore, px_iinc, px_iadd, px_isub, px_imul, px_iand, px_ior, px_ixor, px_ishl, px_ishr, px_iushr, px_ladd, px_lsub, px_lmul, px_land, px_lor, px_lcmp, px_lushr, px_lshl, px_ineg, px_i2l, px_l2i, px_idiv, px_irem, px_ldiv, px_lrem, px_dup0, px_pop0, px_dup2, px_pop2, px_dup2x, px_goto, px_if_eq, px_ic_eq, px_if_ne, px_ic_ne, px_if_lt, px_ic_lt, px_if_ge, px_ic_ge, px_if_gt, px_ic_gt, px_if_le, px_ic_le, px_ifnull, px_ifnonnull, px_lookupswitch, px_tableswitch, px_getfield, px_iaload, px_laload, px_caload, px_aaload, px_iastore, px_lastore, px_arraylength, px_putfield, px_ireturn, px_lreturn, px_areturn, px_return, px_iv0, px_is0, px_iv1, px_is1, px_iv2, px_is2, px_iv3, px_is3, px_iv4, px_is4, px_iv5, px_is5, px_iv6, px_is6, px_max, px_min, px_abs, px_maxJ, px_minJ, px_ii0, px_ii1, px_iio, px_copy, pz_cpk, pz_lk, pz_alk, pz_ask, pz_gfk, pz_lnk, pz_bx, pz_b, pz_z, pz_s1, pz_s2, pz_wt, pz_cmp, List.getElem?_cons_zero, List.getElem?_cons_succ, List.getElem?_nil, List.set_cons_zero, List.set_cons_succ, List.length_cons, List.length_nil, List.nil_append, List.cons_append, Option.toList_some, Option.toList_none, if_true, if_false, ite_true, ite_false, and_true, true_and, and_self, or_self, or_false, false_or, true_or, or_true, and_false, false_and, not_true_eq_false, not_false_eq_true, forall_const, ne_eq, reduceCtorEq, implies_true, false_implies, true_implies, Int.toNat_natCast, Nat.reduceAdd, Nat.reduceSub, Nat.reduceLT, Nat.reduceLeDiff, Nat.reduceEqDiff, Int.reduceLT, Int.reduceLE, Int.reduceToNat, Int.reduceNeg, Int.reduceEq, Int.reduceAdd, Nat.reduceMul, Int.reduceSub, Nat.reduceBEq, Int.reduceMul, Nat.add_zero, Nat.zero_add, Int.cast_ofNat_Int, Int.ofNat_eq_coe, decide_eq_true_eq, Nat.lt_irrefl, Nat.le_refl, List.getElem?_toArray, Option.elim_some, Option.elim_none, n_new, n_newa, n_anew, n_multi, n_aa, sh_t, Int.reduceLE, Int.reduceLT, e_0, e_1, e_3, e_4, e_6, e_8, e_9, e_11, e_13, e_15, e_16, e_17, e_19, e_21, e_23, e_25, e_27, e_29, e_31, e_33, e_35, e_37, e_39, e_41, e_43, e_45, e_47, e_49, e_51, e_53, e_55, e_57, e_59, e_61, e_63, e_65, e_67, e_69, e_71, e_73, e_75, e_77, e_79, e_81, e_83, e_85, e_87, e_89, e_91, e_93, e_95, e_99, e_103, e_104, e_119, e_134, e_135, e_138, e_141, e_144, e_147, paM_15, q, h0, b1, b2, e]
set_option maxRecDepth 100000 in
theorem i_Pa : pz_cal (d + 2) 58 [(2, 15)] ((pz_SH.take 16, ss, 0, 0, 0), M) = some (none, ((pz_SH.take 97, ss, 81, 5840, 0), paM M 40)) := by
  have e := i_PaL (d := d) (ss := ss) (M := M) 40 0 rfl
  simp only [Nat.mul_zero, Nat.add_zero, paM, Int.cast_ofNat_Int] at e
  simp (maxSteps := 1000000) (disch := first | omega | assumption | decide +kernel) only [↓reduceIte, sp_0, sp_s, Option.map_some, Option.map_none, Option.some.injEq, o_le, o_nle, o_lt, o_nlt, o_eq, o_neq, w32_id, up_at, nw_at, nw_s, k_Pa_init, px_iconst, px_bipush, px_sipush, px_ldc, px_ldc_w, px_lconst, px_ldc2_w, px_aconst_null, px_getstatic, px_iload_n, px_iload, px_lload_n, px_lload, px_aload_n, px_aload, px_istore_n, px_istore, px_astore_n, px_astore, px_lstore_n, px_lstore, px_iinc, px_iadd, px_isub, px_imul, px_iand, px_ior, px_ixor, px_ishl, px_ishr, px_iushr, px_ladd, px_lsub, px_lmul, px_land, px_lor, px_lcmp, px_lushr, px_lshl, px_ineg, px_i2l, px_l2i, px_idiv, px_irem, px_ldiv, px_lrem, px_dup0, px_pop0, px_dup2, px_pop2, px_dup2x, px_goto, px_if_eq, px_ic_eq, px_if_ne, px_ic_ne, px_if_lt, px_ic_lt, px_if_ge, px_ic_ge, px_if_gt, px_ic_gt, px_if_le, px_ic_le, px_ifnull, px_ifnonnull, px_lookupswitch, px_tableswitch, px_getfield, px_iaload, px_laload, px_caload, px_aaload, px_iastore, px_lastore, px_arraylength, px_putfield, px_ireturn, px_lreturn, px_areturn, px_return, px_iv0, px_is0, px_iv1, px_is1, px_iv2, px_is2, px_iv3, px_is3, px_iv4, px_is4, px_iv5, px_is5, px_iv6, px_is6, px_max, px_min, px_abs, px_maxJ, px_minJ, px_ii0, px_ii1, px_iio, px_copy, pz_cpk, pz_lk, pz_alk, pz_ask, pz_gfk, pz_lnk, pz_bx, pz_b, pz_z, pz_s1, pz_s2, pz_wt, pz_cmp, List.getElem?_cons_zero, List.getElem?_cons_succ, List.getElem?_nil, List.set_cons_zero, List.set_cons_succ, List.length_cons, List.length_nil, List.nil_append, List.cons_append, Option.toList_some, Option.toList_none, if_true, if_false, ite_true, ite_false, and_true, true_and, and_self, or_self, or_false, false_or, true_or, or_true, and_false, false_and, not_true_eq_false, not_false_eq_true, forall_const, ne_eq, reduceCtorEq, implies_true, false_implies, true_implies, Int.toNat_natCast, Nat.reduceAdd, Nat.reduceSub, Nat.reduceLT, Nat.reduceLeDiff, Nat.reduceEqDiff, Int.reduceLT, Int.reduceLE, Int.reduceToNat, Int.reduceNeg, Int.reduceEq, Int.reduceAdd, Nat.reduceMul, Int.reduceSub, Nat.reduceBEq, Int.reduceMul, Nat.add_zero, Nat.zero_add, Int.cast_ofNat_Int, Int.ofNat_eq_coe, decide_eq_true_eq, Nat.lt_irrefl, Nat.le_refl, List.getElem?_toArray, Option.elim_some, Option.elim_none, j_Pa_init_0, n_new, n_newa, n_anew, n_multi, n_aa, sh_t, Int.reduceLE, Int.reduceLT, e_0, e_1, e_3, e_4, e_6, e_8, e_9, e_11, e_13, e_15, e_16, e_17, e_19, e_21, e_23, e_25, e_27, e_29, e_31, e_33, e_35, e_37, e_39, e_41, e_43, e_45, e_47, e_49, e_51, e_53, e_55, e_57, e_59, e_61, e_63, e_65, e_67, e_69, e_71, e_73, e_75, e_77, e_79, e_81, e_83, e_85, e_87, e_89, e_91, e_93, e_95, e_99, e_103, e_104, e_119, e_134, e_135, e_138, e_141, e_144, e_147, e, Int.natCast_zero, paM]
set_option maxRecDepth 100000 in
theorem i_CC (h4 : ∀ (l : List (Nat × Nat)) (c : Nat × Nat × Nat) (M : pz_M), pz_sh ((l, ss, c), M) 4105 = some (112, 8)) : pz_cal (d + 4) 94 [(2, 0)] ((pz_SH.take 1, ss, 0, 0, 0), M) = some (none, ((pz_SH.take 147, ss, 146, 9634, 0), mCC M)) := by
  have i_Mi4 := fun (d : Nat) (M : pz_M) => i_Mi (d := d) (M := M) h4
  simp (maxSteps := 1000000) (disch := first | omega | assumption | decide +kernel) only [↓reduceIte, sp_0, sp_s, Option.map_some, Option.map_none, Option.some.injEq, o_le, o_nle, o_lt, o_nlt, o_eq, o_neq, w32_id, up_at, nw_at, nw_s, k_CC_init, px_iconst, px_bipush, px_sipush, px_ldc, px_ldc_w, px_lconst, px_ldc2_w, px_aconst_null, px_getstatic, px_iload_n, px_iload, px_lload_n, px_lload, px_aload_n, px_aload, px_istore_n, px_istore, px_astore_n, px_astore, px_lstore_n, px_lstore, px_iinc, px_iadd, px_isub, px_imul, px_iand, px_ior, px_ixor, px_ishl, px_ishr, px_iushr, px_ladd, px_lsub, px_lmul, px_land, px_lor, px_lcmp, px_lushr, px_lshl, px_ineg, px_i2l, px_l2i, px_idiv, px_irem, px_ldiv, px_lrem, px_dup0, px_pop0, px_dup2, px_pop2, px_dup2x, px_goto, px_if_eq, px_ic_eq, px_if_ne, px_ic_ne, px_if_lt, px_ic_lt, px_if_ge, px_ic_ge, px_if_gt, px_ic_gt, px_if_le, px_ic_le, px_ifnull, px_ifnonnull, px_lookupswitch, px_tableswitch, px_getfield, px_iaload, px_laload, px_caload, px_aaload, px_iastore, px_lastore, px_arraylength, px_putfield, px_ireturn, px_lreturn, px_areturn, px_return, px_iv0, px_is0, px_iv1, px_is1, px_iv2, px_is2, px_iv3, px_is3, px_iv4, px_is4, px_iv5, px_is5, px_iv6, px_is6, px_max, px_min, px_abs, px_maxJ, px_minJ, px_ii0, px_ii1, px_iio, px_copy, pz_cpk, pz_lk, pz_alk, pz_ask, pz_gfk, pz_lnk, pz_bx, pz_b, pz_z, pz_s1, pz_s2, pz_wt, pz_cmp, List.getElem?_cons_zero, List.getElem?_cons_succ, List.getElem?_nil, List.set_cons_zero, List.set_cons_succ, List.length_cons, List.length_nil, List.nil_append, List.cons_append, Option.toList_some, Option.toList_none, if_true, if_false, ite_true, ite_false, and_true, true_and, and_self, or_self, or_false, false_or, true_or, or_true, and_false, false_and, not_true_eq_false, not_false_eq_true, forall_const, ne_eq, reduceCtorEq, implies_true, false_implies, true_implies, Int.toNat_natCast, Nat.reduceAdd, Nat.reduceSub, Nat.reduceLT, Nat.reduceLeDiff, Nat.reduceEqDiff, Int.reduceLT, Int.reduceLE, Int.reduceToNat, Int.reduceNeg, Int.reduceEq, Int.reduceAdd, Nat.reduceMul, Int.reduceSub, Nat.reduceBEq, Int.reduceMul, Nat.add_zero, Nat.zero_add, Int.cast_ofNat_Int, Int.ofNat_eq_coe, decide_eq_true_eq, Nat.lt_irrefl, Nat.le_refl, List.getElem?_toArray, Option.elim_some, Option.elim_none, j_CC_init_0, j_CC_init_161, j_CC_init_189, n_new, n_newa, n_anew, n_multi, n_aa, sh_t, Int.reduceLE, Int.reduceLT, e_0, e_1, e_3, e_4, e_6, e_8, e_9, e_11, e_13, e_15, e_16, e_17, e_19, e_21, e_23, e_25, e_27, e_29, e_31, e_33, e_35, e_37, e_39, e_41, e_43, e_45, e_47, e_49, e_51, e_53, e_55, e_57, e_59, e_61, e_63, e_65, e_67, e_69, e_71, e_73, e_75, e_77, e_79, e_81, e_83, e_85, e_87, e_89, e_91, e_93, e_95, e_99, e_103, e_104, e_119, e_134, e_135, e_138, e_141, e_144, e_147, i_Ta, i_Ct, i_Lt, i_Co9, i_Co11, i_Co13, i_Pa, i_Mi4, i_Sc, i_Di, i_La135, i_La138, i_La141, i_La144, mCC, mC2, mC1, mCo_at, paM_lo, mSc_lo, mMi_lo, mLa_lo, mCt_lo, mLt_lo, mTa_lo]
def mI (M : pz_M) : pz_M := (pz_nw (mMo (pz_nw (mCC (pz_nw M 0 (fun j => pz_df (pz_tf 10 j)))) 147 (fun j => pz_df (pz_tf 11 j)))) 178 (fun _ => 0))
set_option maxRecDepth 100000 in
theorem l_init (h4 : ∀ (l : List (Nat × Nat)) (c : Nat × Nat × Nat) (M : pz_M), pz_sh ((l, ss, c), M) 4105 = some (112, 8)) (h1 : 179 ≤ rc) (h2 : 26717 ≤ rs) : pz_p bl_Lw_law (pz_cL (d + 40)) rc rs 0 [] [(2, 4106), (9, 0), (9, 0), (9, 0), (9, 0), (9, 0), (9, 0)] [] ((pz_SH.take 0, ss, 0, 0, 0), M) = lwP (d + 40) rc rs 23 ss 0 179 26717 0 (9, 0) (9, 0) (mI M) := by
  have i_CC4 := fun (d : Nat) (M : pz_M) => i_CC (d := d) (M := M) h4
  have b1 : 147 ≤ rc := by omega
  have b2 : 9651 ≤ rs := by omega
  have b3 : 178 ≤ rc := by omega
  have b4 : 26716 ≤ rs := by omega
  unfold lwP
  rw [j_Lw_law_0]
  simp (maxSteps := 1000000) (disch := first | omega | assumption | decide +kernel) only [↓reduceIte, sp_0, sp_s, Option.map_some, Option.map_none, Option.some.injEq, o_le, o_nle, o_lt, o_nlt, o_eq, o_neq, w32_id, up_at, nw_at, nw_s, px_iconst, px_bipush, px_sipush, px_ldc, px_ldc_w, px_lconst, px_ldc2_w, px_aconst_null, px_getstatic, px_iload_n, px_iload, px_lload_n, px_lload, px_aload_n, px_aload, px_istore_n, px_istore, px_astore_n, px_astore, px_lstore_n, px_lstore, px_iinc, px_iadd, px_isub, px_imul, px_iand, px_ior, px_ixor, px_ishl, px_ishr, px_iushr, px_ladd, px_lsub, px_lmul, px_land, px_lor, px_lcmp, px_lushr, px_lshl, px_ineg, px_i2l, px_l2i, px_idiv, px_irem, px_ldiv, px_lrem, px_dup0, px_pop0, px_dup2, px_pop2, px_dup2x, px_goto, px_if_eq, px_ic_eq, px_if_ne, px_ic_ne, px_if_lt, px_ic_lt, px_if_ge, px_ic_ge, px_if_gt, px_ic_gt, px_if_le, px_ic_le, px_ifnull, px_ifnonnull, px_lookupswitch, px_tableswitch, px_getfield, px_iaload, px_laload, px_caload, px_aaload, px_iastore, px_lastore, px_arraylength, px_putfield, px_ireturn, px_lreturn, px_areturn, px_return, px_iv0, px_is0, px_iv1, px_is1, px_iv2, px_is2, px_iv3, px_is3, px_iv4, px_is4, px_iv5, px_is5, px_iv6, px_is6, px_max, px_min, px_abs, px_maxJ, px_minJ, px_ii0, px_ii1, px_iio, px_copy, pz_cpk, pz_lk, pz_alk, pz_ask, pz_gfk, pz_lnk, pz_bx, pz_b, pz_z, pz_s1, pz_s2, pz_wt, pz_cmp, List.getElem?_cons_zero, List.getElem?_cons_succ, List.getElem?_nil, List.set_cons_zero, List.set_cons_succ, List.length_cons, List.length_nil, List.nil_append, List.cons_append, Option.toList_some, Option.toList_none, if_true, if_false, ite_true, ite_false, and_true, true_and, and_self, or_self, or_false, false_or, true_or, or_true, and_false, false_and, not_true_eq_false, not_false_eq_true, forall_const, ne_eq, reduceCtorEq, implies_true, false_implies, true_implies, Int.toNat_natCast, Nat.reduceAdd, Nat.reduceSub, Nat.reduceLT, Nat.reduceLeDiff, Nat.reduceEqDiff, Int.reduceLT, Int.reduceLE, Int.reduceToNat, Int.reduceNeg, Int.reduceEq, Int.reduceAdd, Nat.reduceMul, Int.reduceSub, Nat.reduceBEq, Int.reduceMul, Nat.add_zero, Nat.zero_add, Int.cast_ofNat_Int, Int.ofNat_eq_coe, decide_eq_true_eq, Nat.lt_irrefl, Nat.le_refl, List.getElem?_toArray, Option.elim_some, Option.elim_none, n_new, n_newa, n_anew, n_multi, n_aa, sh_t, Int.reduceLE, Int.reduceLT, e_0, e_1, e_3, e_4, e_6, e_8, e_9, e_11, e_13, e_15, e_16, e_17, e_19, e_21, e_23, e_25, e_27, e_29, e_31, e_33, e_35, e_37, e_39, e_41, e_43, e_45, e_47, e_49, e_51, e_53, e_55, e_57, e_59, e_61, e_63, e_65, e_67, e_69, e_71, e_73, e_75, e_77, e_79, e_81, e_83, e_85, e_87, e_89, e_91, e_93, e_95, e_99, e_103, e_104, e_119, e_134, e_135, e_138, e_141, e_144, e_147, cL_ne, i_CC4, i_Mo, b1, b2, b3, b4, mI, tk_f, Int.natCast_zero]
def mB (S : pz_M) : pz_M := fun a b => if a < 4096 then 0 else S a b
theorem up_p {M' : pz_M} (h : M a b = M' a b) : pz_up M k j z a b = pz_up M' k j z a b := by rw [up_at, up_at, h]
theorem nw_p {M' : pz_M} (h : M a b = M' a b) : pz_nw M k f a b = pz_nw M' k f a b := by rw [nw_at, nw_at, h]
theorem nM_p {M' : pz_M} (h : M a b = M' a b) : nM M k a b = nM M' k a b := by unfold nM; rw [h]
theorem paM_p {M' : pz_M} (h : M a b = M' a b) : paM M i a b = paM M' i a b := by
  induction i with
  | zero => rw [paM, paM]; exact up_p (nw_p h)
  | succ i ih => rw [paM, paM, mCo, mCo]; exact up_p (up_p (nw_p (nw_p ih)))
theorem mI_p {M' : pz_M} (h : M a b = M' a b) : mI M a b = mI M' a b := by
  unfold mI mMo mCC mC2 mC1 mSc mSp104 mSp119 mMi mLa mLt mCt mTa mCo
  repeat (first | exact h | apply up_p | apply nw_p | apply nM_p | apply paM_p)
theorem mI_hi (ha : 179 ≤ a) : mI M a b = M a b := by
  unfold mI mMo mCC mC2 mC1 mSc mSp104 mSp119 mMi mLa mLt mCt mTa mCo
  simp (disch := first | omega | assumption | decide +kernel) only [up_hi, nw_hi, nM_hi, paM_hi]
def mZ : pz_M := mI (fun _ _ => 0)
theorem mI_z {S : pz_M} (h : a < 4096) : mI (mB S) a b = mZ a b := mI_p (by unfold mB; rw [if_pos h])
theorem z_rf : ∀ q ∈ rf_L, q.1 < 4096 ∧ mZ q.1 q.2.1 = q.2.2 := by decide +kernel
theorem z_0 : ∀ k, k < 73 → mZ 106 k = 0 ∧ mZ 121 k = 0 := by decide +kernel
theorem z_10 : ∀ k, k < 144 → mZ 10 k = 0 := by decide +kernel
theorem z_161 : ∀ k, k < 4 → mZ 161 k = 0 := by decide +kernel
theorem z_c : (mZ 1 1 = 0 ∧ mZ 0 4 = 0 ∧ mZ 0 5 = -1 ∧ mZ 15 1 = 0 ∧ mZ 15 2 = 0 ∧ mZ 0 12 = 0 ∧ mZ 0 9 = 0) ∧ (mZ 147 2 = 0 ∧ mZ 147 13 = 0 ∧ mZ 147 30 = -1 ∧ mZ 147 26 = 0 ∧ mZ 147 27 = 0 ∧ mZ 147 28 = 0) ∧ mZ 165 30 = 0 ∧ mZ 165 31 = 0 ∧ mZ 165 32 = 0 ∧ mZ 147 36 = 0 ∧ mZ 147 46 = 0 ∧ mZ 147 49 = 0 := by decide +kernel
theorem JJ_init {S : pz_M} (hS : STc S) : JJ (mI (mB S)) := by
  obtain ⟨⟨c1, c2, c3, c4, c5, c6, c7⟩, ⟨r1, r2, r3, r4, r5, r6⟩, s1, s2, s3, s4, s5, s6⟩ := z_c
  have hst : STc (mI (mB S)) := STc_c hS (fun c hc => by funext b; rw [mI_hi (by omega)]; unfold mB; rw [if_neg (by omega)])
  have hR : ∀ j, j < 144 → mI (mB S) 10 j = 0 := fun j hj => by rw [mI_z (by decide)]; exact z_10 j hj
  have h141 := hR 141 (by decide)
  have h142 := hR 142 (by decide)
  have h143 := hR 143 (by decide)
  refine ⟨fun q hq => by rw [mI_z (z_rf q hq).1]; exact (z_rf q hq).2, fun _ => 0, 0, 0, fun _ => [], -1, mI (mB S) 10, 0, 0, fun _ _ => 0, fun _ _ => 0, 0, fun _ => 0, fun _ => 0, fun _ => 0, 0, fun _ => 0, fun _ => 0, ?_, ?_, ?_⟩
  · refine ⟨fun k _ hk => ?_, rfl, ⟨?_, by decide, fun i hi => absurd hi (by omega)⟩, ?_, fun k hk => absurd hk (by omega), ?_, ⟨?_, by decide, ?_, by decide, fun i hi => absurd hi (by omega)⟩, ⟨?_, by decide, fun i hi => absurd hi (by omega)⟩, ?_, fun h => absurd h (by decide), hst⟩
    · rw [mI_z (by decide), mI_z (by decide)]; exact z_0 k hk
    all_goals rw [mI_z (by decide)]
    · exact c1
    · exact c2
    · exact c3
    · exact c4
    · exact c5
    · exact c6
    · exact c7
  · refine ⟨⟨?_, by decide, fun i hi => absurd hi (by omega)⟩, ?_, fun k hk => absurd hk (by omega), ?_, ⟨⟨fun e he => ?_, ?_, ?_, ?_⟩, fun c hc => ?_, fun c hc => ?_⟩, ⟨⟨?_, ?_, ?_⟩, fun c hc => ?_, fun c hc => ?_, fun c hc => ?_⟩, ⟨?_, by decide, fun i hi => absurd hi (by omega)⟩, ⟨?_, by decide, fun i hi => absurd hi (by omega)⟩, ?_, fun h => absurd h (by decide)⟩
    · rw [mI_z (by decide)]; exact r1
    · rw [mI_z (by decide)]; exact r2
    · rw [mI_z (by decide)]; exact r3
    · rw [hR e (by omega), mI_z (by decide)]; exact z_161 e he
    · rw [hR _ (by decide), mI_z (by decide)]; exact r4
    · rw [hR _ (by decide), mI_z (by decide)]; exact r5
    · rw [hR _ (by decide), mI_z (by decide)]; exact r6
    · rw [h141] at hc; omega
    · rw [h142] at hc; omega
    · rw [hR _ (by decide), mI_z (by decide)]; exact s1
    · rw [hR _ (by decide), mI_z (by decide)]; exact s2
    · rw [hR _ (by decide), mI_z (by decide)]; exact s3
    · rw [h141] at hc; omega
    · rw [h142] at hc; omega
    · rw [h143] at hc; omega
    · rw [mI_z (by decide)]; exact s4
    · rw [mI_z (by decide)]; exact s5
    · rw [mI_z (by decide)]; exact s6
  · refine ⟨by decide, fun k hk => absurd hk (by omega), Or.inl rfl, ⟨⟨fun j hj => ?_, fun j hj => ?_, fun c hc => ?_, fun c hc => ?_, ?_, ?_, ?_⟩, fun c hc => ?_, fun i hi h => ?_⟩, fun i hi => absurd hi (by omega), Or.inl rfl, fun h => absurd h (by decide)⟩
    · rw [hR j hj]; omega
    · rw [hR j (by omega)]; omega
    · rw [hR _ (by omega)]; omega
    · rw [hR _ (by omega), hR _ (by omega)]; omega
    · rw [h141]; omega
    · rw [h142]; omega
    · rw [h143]; omega
    · rw [hR _ (by omega)]; omega
    · rw [h143] at h; omega
end P9h
