/-! THE TAPE: feed -/
/-- the byte of a number at a shift -/
def bt (a s : Int) : Int := pz_and (pz_shr a s) 255
def c1 (x : Int) : Int := if x = 0 then 0 else 1
def nb (a : Int) : Int := c1 (bt a 24) + c1 (bt a 16) + c1 (bt a 8) + c1 (bt a 0)
theorem c1_r (x : Int) : 0 ≤ c1 x ∧ c1 x ≤ 1 := by unfold c1; split <;> decide
theorem nb_r (a : Int) : 0 ≤ nb a ∧ nb a ≤ 4 := by
  unfold nb
  have := c1_r (bt a 24)
  have := c1_r (bt a 16)
  have := c1_r (bt a 8)
  have := c1_r (bt a 0)
  omega
/-- a tape: its signs, its length; one byte more -/
def pT (t : (Nat → Int) × Int) (x : Int) : (Nat → Int) × Int := if x = 0 then t else (fun i => if i = t.2.toNat then x else t.1 i, t.2 + 1)
/-- a memory with a tape in its cells: signs in cell c, length at (k, j) -/
def sT (M : pz_M) (c k j : Nat) (t : (Nat → Int) × Int) : pz_M := fun a b => if a = c then t.1 b else if a = k ∧ b = j then t.2 else M a b
section P13
variable {d : Nat} {ss : List (Nat × Nat)} {dd : Nat} {M : pz_M}
theorem c_Ta_bytesOf_1 {a n s : Int} {X : pz_X} {C : Nat → List pz_V → pz_X → pz_A} (hs : 0 ≤ s) (hs2 : s ≤ 24) (hn : 0 ≤ n) (hn2 : n ≤ 100) : pz_p bl_Ta_bytesOf C 0 0 5 [] [(0, a), (0, n), (0, s)] [] X = pz_p bl_Ta_bytesOf C 0 0 5 [] [(0, a), (0, n + c1 (bt a s)), (0, s - 8)] [] X := by
  rw [j_Ta_bytesOf_5]
  have e1 : pz_w32 (s + -8) = s - 8 := by rw [w32_id (by omega) (by omega)]; omega
  have e2 : ¬ s < 0 := by omega
  have e3 : pz_w32 (n + 1) = n + 1 := w32_id (by omega) (by omega)
  have e0 : pz_and (pz_shr a s) 255 = bt a s := rfl
  by_cases hb : bt a s = 0
  · have e4 : n + c1 (bt a s) = n := by unfold c1; rw [if_pos hb]; omega
    rw [e4]
    simp only [px_iconst, px_bipush, px_sipush, px_ldc, px_ldc_w, px_lconst, px_ldc2_w, px_aconst_null, px_getstatic, px_iload_n, px_iload, px_lload_n, px_lload, px_aload_n, px_aload, px_istore_n, px_istore, px_astore_n, px_astore, px_lstore_n, px_lstore, px_iinc, px_iadd, px_isub, px_imul, px_iand, px_ior, px_ixor, px_ishl, px_ishr, px_iushr, px_ladd, px_lsub, px_lmul, px_land, px_lor, px_lcmp, px_lushr, px_lshl, px_ineg, px_i2l, px_l2i, px_idiv, px_irem, px_ldiv, px_lrem, px_dup0, px_pop0, px_dup2, px_pop2, px_dup2x, px_goto, px_if_eq, px_ic_eq, px_if_ne, px_ic_ne, px_if_lt, px_ic_lt, px_if_ge, px_ic_ge, px_if_gt, px_ic_gt, px_if_le, px_ic_le, px_ifnull, px_ifnonnull, px_lookupswitch, px_tableswitch, px_getfield, px_iaload, px_laload, px_caload, px_aaload, px_iastore, px_lastore, px_arraylength, px_putfield, px_ireturn, px_lreturn, px_areturn, px_return, px_iv0, px_is0, px_iv1, px_is1, px_iv2, px_is2, px_iv3, px_is3, px_iv4, px_is4, px_iv5, px_is5, px_iv6, px_is6, px_max, px_min, px_abs, px_maxJ, px_minJ, px_ii0, px_ii1, px_iio, px_copy, pz_cpk, pz_lk, pz_alk, pz_ask, pz_gfk, pz_lnk, pz_bx, pz_b, pz_z, pz_s1, pz_s2, pz_sp, pz_wt, pz_cmp, List.getElem?_cons_zero, List.getElem?_cons_succ, List.getElem?_nil, List.set_cons_zero, List.set_cons_succ, List.length_cons, List.length_nil, List.nil_append, List.cons_append, Option.toList_some, Option.toList_none, if_true, if_false, ite_true, ite_false, and_true, true_and, and_self, or_self, or_false, false_or, true_or, or_true, and_false, false_and, not_true_eq_false, not_false_eq_true, forall_const, ne_eq, reduceCtorEq, implies_true, false_implies, true_implies, Int.toNat_natCast, Nat.reduceAdd, Nat.reduceSub, Nat.reduceLT, Nat.reduceLeDiff, Nat.reduceEqDiff, Int.reduceLT, Int.reduceLE, Int.reduceToNat, Int.reduceNeg, Int.reduceEq, Int.reduceAdd, Nat.reduceMul, Int.reduceSub, Nat.reduceBEq, Int.reduceMul, Nat.add_zero, Nat.zero_add, Int.cast_ofNat_Int, Int.ofNat_eq_coe, decide_eq_true_eq, Nat.lt_irrefl, Nat.le_refl, j_Ta_bytesOf_22, j_Ta_bytesOf_28, e0, e1, e2, hb]
  · have e4 : n + c1 (bt a s) = n + 1 := by unfold c1; rw [if_neg hb]
    rw [e4]
    simp only [px_iconst, px_bipush, px_sipush, px_ldc, px_ldc_w, px_lconst, px_ldc2_w, px_aconst_null, px_getstatic, px_iload_n, px_iload, px_lload_n, px_lload, px_aload_n, px_aload, px_istore_n, px_istore, px_astore_n, px_astore, px_lstore_n, px_lstore, px_iinc, px_iadd, px_isub, px_imul, px_iand, px_ior, px_ixor, px_ishl, px_ishr, px_iushr, px_ladd, px_lsub, px_lmul, px_land, px_lor, px_lcmp, px_lushr, px_lshl, px_ineg, px_i2l, px_l2i, px_idiv, px_irem, px_ldiv, px_lrem, px_dup0, px_pop0, px_dup2, px_pop2, px_dup2x, px_goto, px_if_eq, px_ic_eq, px_if_ne, px_ic_ne, px_if_lt, px_ic_lt, px_if_ge, px_ic_ge, px_if_gt, px_ic_gt, px_if_le, px_ic_le, px_ifnull, px_ifnonnull, px_lookupswitch, px_tableswitch, px_getfield, px_iaload, px_laload, px_caload, px_aaload, px_iastore, px_lastore, px_arraylength, px_putfield, px_ireturn, px_lreturn, px_areturn, px_return, px_iv0, px_is0, px_iv1, px_is1, px_iv2, px_is2, px_iv3, px_is3, px_iv4, px_is4, px_iv5, px_is5, px_iv6, px_is6, px_max, px_min, px_abs, px_maxJ, px_minJ, px_ii0, px_ii1, px_iio, px_copy, pz_cpk, pz_lk, pz_alk, pz_ask, pz_gfk, pz_lnk, pz_bx, pz_b, pz_z, pz_s1, pz_s2, pz_sp, pz_wt, pz_cmp, List.getElem?_cons_zero, List.getElem?_cons_succ, List.getElem?_nil, List.set_cons_zero, List.set_cons_succ, List.length_cons, List.length_nil, List.nil_append, List.cons_append, Option.toList_some, Option.toList_none, if_true, if_false, ite_true, ite_false, and_true, true_and, and_self, or_self, or_false, false_or, true_or, or_true, and_false, false_and, not_true_eq_false, not_false_eq_true, forall_const, ne_eq, reduceCtorEq, implies_true, false_implies, true_implies, Int.toNat_natCast, Nat.reduceAdd, Nat.reduceSub, Nat.reduceLT, Nat.reduceLeDiff, Nat.reduceEqDiff, Int.reduceLT, Int.reduceLE, Int.reduceToNat, Int.reduceNeg, Int.reduceEq, Int.reduceAdd, Nat.reduceMul, Int.reduceSub, Nat.reduceBEq, Int.reduceMul, Nat.add_zero, Nat.zero_add, Int.cast_ofNat_Int, Int.ofNat_eq_coe, decide_eq_true_eq, Nat.lt_irrefl, Nat.le_refl, j_Ta_bytesOf_22, j_Ta_bytesOf_28, e0, e1, e2, e3, hb]
theorem c_Ta_bytesOf {a : Int} {X : pz_X} (hc : X.1.2.2.1 = 0) (hs : X.1.2.2.2.1 = 0) : pz_cal (d + 1) 81 [(0, a)] X = some (some (0, nb a), X) := by
  have r1 := c1_r (bt a 24)
  have r2 := c1_r (bt a 16)
  have r3 := c1_r (bt a 8)
  simp only [k_Ta_bytesOf, px_iconst, px_bipush, px_sipush, px_ldc, px_ldc_w, px_lconst, px_ldc2_w, px_aconst_null, px_getstatic, px_iload_n, px_iload, px_lload_n, px_lload, px_aload_n, px_aload, px_istore_n, px_istore, px_astore_n, px_astore, px_lstore_n, px_lstore, px_iinc, px_iadd, px_isub, px_imul, px_iand, px_ior, px_ixor, px_ishl, px_ishr, px_iushr, px_ladd, px_lsub, px_lmul, px_land, px_lor, px_lcmp, px_lushr, px_lshl, px_ineg, px_i2l, px_l2i, px_idiv, px_irem, px_ldiv, px_lrem, px_dup0, px_pop0, px_dup2, px_pop2, px_dup2x, px_goto, px_if_eq, px_ic_eq, px_if_ne, px_ic_ne, px_if_lt, px_ic_lt, px_if_ge, px_ic_ge, px_if_gt, px_ic_gt, px_if_le, px_ic_le, px_ifnull, px_ifnonnull, px_lookupswitch, px_tableswitch, px_getfield, px_iaload, px_laload, px_caload, px_aaload, px_iastore, px_lastore, px_arraylength, px_putfield, px_ireturn, px_lreturn, px_areturn, px_return, px_iv0, px_is0, px_iv1, px_is1, px_iv2, px_is2, px_iv3, px_is3, px_iv4, px_is4, px_iv5, px_is5, px_iv6, px_is6, px_max, px_min, px_abs, px_maxJ, px_minJ, px_ii0, px_ii1, px_iio, px_copy, pz_cpk, pz_lk, pz_alk, pz_ask, pz_gfk, pz_lnk, pz_bx, pz_b, pz_z, pz_s1, pz_s2, pz_sp, pz_wt, pz_cmp, List.getElem?_cons_zero, List.getElem?_cons_succ, List.getElem?_nil, List.set_cons_zero, List.set_cons_succ, List.length_cons, List.length_nil, List.nil_append, List.cons_append, Option.toList_some, Option.toList_none, if_true, if_false, ite_true, ite_false, and_true, true_and, and_self, or_self, or_false, false_or, true_or, or_true, and_false, false_and, not_true_eq_false, not_false_eq_true, forall_const, ne_eq, reduceCtorEq, implies_true, false_implies, true_implies, Int.toNat_natCast, Nat.reduceAdd, Nat.reduceSub, Nat.reduceLT, Nat.reduceLeDiff, Nat.reduceEqDiff, Int.reduceLT, Int.reduceLE, Int.reduceToNat, Int.reduceNeg, Int.reduceEq, Int.reduceAdd, Nat.reduceMul, Int.reduceSub, Nat.reduceBEq, Int.reduceMul, Nat.add_zero, Nat.zero_add, Int.cast_ofNat_Int, Int.ofNat_eq_coe, decide_eq_true_eq, Nat.lt_irrefl, Nat.le_refl, j_Ta_bytesOf_0]
  rw [c_Ta_bytesOf_1 (by omega) (by omega) (by omega) (by omega)]
  simp only [Int.reduceSub]
  rw [c_Ta_bytesOf_1 (by omega) (by omega) (by omega) (by omega)]
  simp only [Int.reduceSub]
  rw [c_Ta_bytesOf_1 (by omega) (by omega) (by omega) (by omega)]
  simp only [Int.reduceSub]
  rw [c_Ta_bytesOf_1 (by omega) (by omega) (by omega) (by omega), j_Ta_bytesOf_5]
  simp only [px_iconst, px_bipush, px_sipush, px_ldc, px_ldc_w, px_lconst, px_ldc2_w, px_aconst_null, px_getstatic, px_iload_n, px_iload, px_lload_n, px_lload, px_aload_n, px_aload, px_istore_n, px_istore, px_astore_n, px_astore, px_lstore_n, px_lstore, px_iinc, px_iadd, px_isub, px_imul, px_iand, px_ior, px_ixor, px_ishl, px_ishr, px_iushr, px_ladd, px_lsub, px_lmul, px_land, px_lor, px_lcmp, px_lushr, px_lshl, px_ineg, px_i2l, px_l2i, px_idiv, px_irem, px_ldiv, px_lrem, px_dup0, px_pop0, px_dup2, px_pop2, px_dup2x, px_goto, px_if_eq, px_ic_eq, px_if_ne, px_ic_ne, px_if_lt, px_ic_lt, px_if_ge, px_ic_ge, px_if_gt, px_ic_gt, px_if_le, px_ic_le, px_ifnull, px_ifnonnull, px_lookupswitch, px_tableswitch, px_getfield, px_iaload, px_laload, px_caload, px_aaload, px_iastore, px_lastore, px_arraylength, px_putfield, px_ireturn, px_lreturn, px_areturn, px_return, px_iv0, px_is0, px_iv1, px_is1, px_iv2, px_is2, px_iv3, px_is3, px_iv4, px_is4, px_iv5, px_is5, px_iv6, px_is6, px_max, px_min, px_abs, px_maxJ, px_minJ, px_ii0, px_ii1, px_iio, px_copy, pz_cpk, pz_lk, pz_alk, pz_ask, pz_gfk, pz_lnk, pz_bx, pz_b, pz_z, pz_s1, pz_s2, pz_sp, pz_wt, pz_cmp, List.getElem?_cons_zero, List.getElem?_cons_succ, List.getElem?_nil, List.set_cons_zero, List.set_cons_succ, List.length_cons, List.length_nil, List.nil_append, List.cons_append, Option.toList_some, Option.toList_none, if_true, if_false, ite_true, ite_false, and_true, true_and, and_self, or_self, or_false, false_or, true_or, or_true, and_false, false_and, not_true_eq_false, not_false_eq_true, forall_const, ne_eq, reduceCtorEq, implies_true, false_implies, true_implies, Int.toNat_natCast, Nat.reduceAdd, Nat.reduceSub, Nat.reduceLT, Nat.reduceLeDiff, Nat.reduceEqDiff, Int.reduceLT, Int.reduceLE, Int.reduceToNat, Int.reduceNeg, Int.reduceEq, Int.reduceAdd, Nat.reduceMul, Int.reduceSub, Nat.reduceBEq, Int.reduceMul, Nat.add_zero, Nat.zero_add, Int.cast_ofNat_Int, Int.ofNat_eq_coe, decide_eq_true_eq, Nat.lt_irrefl, Nat.le_refl, j_Ta_bytesOf_22, j_Ta_bytesOf_28, hc, hs]
  unfold nb
  simp only [Int.zero_add, Int.reduceSub]
/-- one turn of Tape.add -/
theorem c_Ta_add_1 {a s x3 : Int} {t9 : Nat} (hR : Rf M) (hs : 0 ≤ s) (hs2 : s ≤ 24) (hn : 0 ≤ M 1 1) (hn2 : bt a s ≠ 0 → M 1 1 < 240) : pz_p bl_Ta_add (pz_cal d) 0 0 3 [] [(2, 1), (0, a), (0, s), (t9, x3)] [] ((pz_SH, ss, 0, 0, dd), M) = pz_p bl_Ta_add (pz_cal d) 0 0 3 [] [(2, 1), (0, a), (0, s - 8), (0, bt a s)] [] ((pz_SH, ss, 0, 0, dd), sT M 2 1 1 (pT (M 2, M 1 1) (bt a s))) := by
  rw [j_Ta_add_3]
  have e1 : pz_w32 (s + -8) = s - 8 := by rw [w32_id (by omega) (by omega)]; omega
  have e2 : ¬ s < 0 := by omega
  have e0 : pz_and (pz_shr a s) 255 = bt a s := rfl
  by_cases hb : bt a s = 0
  · have e3 : sT M 2 1 1 (pT (M 2, M 1 1) (bt a s)) = M := by
      funext p q
      unfold sT pT
      rw [if_pos hb]
      by_cases h1 : p = 2
      · simp [h1]
      · by_cases h2 : p = 1 ∧ q = 1
        · simp [h2.1, h2.2]
        · simp [h1, h2]
    rw [e3]
    simp only [px_iconst, px_bipush, px_sipush, px_ldc, px_ldc_w, px_lconst, px_ldc2_w, px_aconst_null, px_getstatic, px_iload_n, px_iload, px_lload_n, px_lload, px_aload_n, px_aload, px_istore_n, px_istore, px_astore_n, px_astore, px_lstore_n, px_lstore, px_iinc, px_iadd, px_isub, px_imul, px_iand, px_ior, px_ixor, px_ishl, px_ishr, px_iushr, px_ladd, px_lsub, px_lmul, px_land, px_lor, px_lcmp, px_lushr, px_lshl, px_ineg, px_i2l, px_l2i, px_idiv, px_irem, px_ldiv, px_lrem, px_dup0, px_pop0, px_dup2, px_pop2, px_dup2x, px_goto, px_if_eq, px_ic_eq, px_if_ne, px_ic_ne, px_if_lt, px_ic_lt, px_if_ge, px_ic_ge, px_if_gt, px_ic_gt, px_if_le, px_ic_le, px_ifnull, px_ifnonnull, px_lookupswitch, px_tableswitch, px_getfield, px_iaload, px_laload, px_caload, px_aaload, px_iastore, px_lastore, px_arraylength, px_putfield, px_ireturn, px_lreturn, px_areturn, px_return, px_iv0, px_is0, px_iv1, px_is1, px_iv2, px_is2, px_iv3, px_is3, px_iv4, px_is4, px_iv5, px_is5, px_iv6, px_is6, px_max, px_min, px_abs, px_maxJ, px_minJ, px_ii0, px_ii1, px_iio, px_copy, pz_cpk, pz_lk, pz_alk, pz_ask, pz_gfk, pz_lnk, pz_bx, pz_b, pz_z, pz_s1, pz_s2, pz_sp, pz_wt, pz_cmp, List.getElem?_cons_zero, List.getElem?_cons_succ, List.getElem?_nil, List.set_cons_zero, List.set_cons_succ, List.length_cons, List.length_nil, List.nil_append, List.cons_append, Option.toList_some, Option.toList_none, if_true, if_false, ite_true, ite_false, and_true, true_and, and_self, or_self, or_false, false_or, true_or, or_true, and_false, false_and, not_true_eq_false, not_false_eq_true, forall_const, ne_eq, reduceCtorEq, implies_true, false_implies, true_implies, Int.toNat_natCast, Nat.reduceAdd, Nat.reduceSub, Nat.reduceLT, Nat.reduceLeDiff, Nat.reduceEqDiff, Int.reduceLT, Int.reduceLE, Int.reduceToNat, Int.reduceNeg, Int.reduceEq, Int.reduceAdd, Nat.reduceMul, Int.reduceSub, Nat.reduceBEq, Int.reduceMul, Nat.add_zero, Nat.zero_add, Int.cast_ofNat_Int, Int.ofNat_eq_coe, decide_eq_true_eq, Nat.lt_irrefl, Nat.le_refl, j_Ta_add_58, j_Ta_add_64, e0, e1, e2, hb]
  · have h3 := hn2 hb
    have e3 : sT M 2 1 1 (pT (M 2, M 1 1) (bt a s)) = pz_up (pz_up M 2 (M 1 1).toNat (bt a s)) 1 1 (M 1 1 + 1) := by
      funext p q
      unfold sT pT pz_up
      rw [if_neg hb]
      by_cases h1 : p = 2
      · subst h1
        simp
      · by_cases h2 : p = 1 ∧ q = 1
        · simp [h2.1, h2.2]
        · simp [h1, h2]
    rw [e3]
    have e4 : pz_w32 (M 1 1 + 1) = M 1 1 + 1 := w32_id (by omega) (by omega)
    have e5 : ¬ M 1 1 < 0 := by omega
    have e6 : ¬ (240 : Int) ≤ M 1 1 := by omega
    have e7 : pz_up M 2 (M 1 1).toNat (bt a s) 1 1 = M 1 1 := by simp [pz_up]
    simp only [px_iconst, px_bipush, px_sipush, px_ldc, px_ldc_w, px_lconst, px_ldc2_w, px_aconst_null, px_getstatic, px_iload_n, px_iload, px_lload_n, px_lload, px_aload_n, px_aload, px_istore_n, px_istore, px_astore_n, px_astore, px_lstore_n, px_lstore, px_iinc, px_iadd, px_isub, px_imul, px_iand, px_ior, px_ixor, px_ishl, px_ishr, px_iushr, px_ladd, px_lsub, px_lmul, px_land, px_lor, px_lcmp, px_lushr, px_lshl, px_ineg, px_i2l, px_l2i, px_idiv, px_irem, px_ldiv, px_lrem, px_dup0, px_pop0, px_dup2, px_pop2, px_dup2x, px_goto, px_if_eq, px_ic_eq, px_if_ne, px_ic_ne, px_if_lt, px_ic_lt, px_if_ge, px_ic_ge, px_if_gt, px_ic_gt, px_if_le, px_ic_le, px_ifnull, px_ifnonnull, px_lookupswitch, px_tableswitch, px_getfield, px_iaload, px_laload, px_caload, px_aaload, px_iastore, px_lastore, px_arraylength, px_putfield, px_ireturn, px_lreturn, px_areturn, px_return, px_iv0, px_is0, px_iv1, px_is1, px_iv2, px_is2, px_iv3, px_is3, px_iv4, px_is4, px_iv5, px_is5, px_iv6, px_is6, px_max, px_min, px_abs, px_maxJ, px_minJ, px_ii0, px_ii1, px_iio, px_copy, pz_cpk, pz_lk, pz_alk, pz_ask, pz_gfk, pz_lnk, pz_bx, pz_b, pz_z, pz_s1, pz_s2, pz_sp, pz_wt, pz_cmp, List.getElem?_cons_zero, List.getElem?_cons_succ, List.getElem?_nil, List.set_cons_zero, List.set_cons_succ, List.length_cons, List.length_nil, List.nil_append, List.cons_append, Option.toList_some, Option.toList_none, if_true, if_false, ite_true, ite_false, and_true, true_and, and_self, or_self, or_false, false_or, true_or, or_true, and_false, false_and, not_true_eq_false, not_false_eq_true, forall_const, ne_eq, reduceCtorEq, implies_true, false_implies, true_implies, Int.toNat_natCast, Nat.reduceAdd, Nat.reduceSub, Nat.reduceLT, Nat.reduceLeDiff, Nat.reduceEqDiff, Int.reduceLT, Int.reduceLE, Int.reduceToNat, Int.reduceNeg, Int.reduceEq, Int.reduceAdd, Nat.reduceMul, Int.reduceSub, Nat.reduceBEq, Int.reduceMul, Nat.add_zero, Nat.zero_add, Int.cast_ofNat_Int, Int.ofNat_eq_coe, decide_eq_true_eq, Nat.lt_irrefl, Nat.le_refl, j_Ta_add_58, j_Ta_add_64, h_1, h_2, rf_1_0 hR, e0, e1, e2, e4, e5, e6, e7, hb, hn, h3]
theorem sT_sT {M : pz_M} {c k j : Nat} {t u : (Nat → Int) × Int} : sT (sT M c k j t) c k j u = sT M c k j u := by
  funext a b
  unfold sT
  by_cases h1 : a = c
  · simp [h1]
  · by_cases h2 : a = k ∧ b = j
    · simp [h1, h2]
    · simp [h1, h2]
theorem sT_c {M : pz_M} {c k j : Nat} {t : (Nat → Int) × Int} : sT M c k j t c = t.1 := by
  funext b
  simp [sT]
theorem sT_k {M : pz_M} {c k j : Nat} {t : (Nat → Int) × Int} (h : k ≠ c) : sT M c k j t k j = t.2 := by simp [sT, h]
theorem sT_o {M : pz_M} {c k j a b : Nat} {t : (Nat → Int) × Int} (h : a ≠ c) (h2 : ¬ (a = k ∧ b = j)) : sT M c k j t a b = M a b := by simp [sT, h, h2]
theorem sT_self {M : pz_M} {c k j : Nat} : sT M c k j (M c, M k j) = M := by
  funext a b
  unfold sT
  by_cases h1 : a = c
  · simp [h1]
  · by_cases h2 : a = k ∧ b = j
    · obtain ⟨rfl, rfl⟩ := h2
      simp [h1]
    · simp [h1, h2]
theorem pT_2 (t : (Nat → Int) × Int) (x : Int) : (pT t x).2 = t.2 + c1 x := by
  unfold pT c1
  split
  · omega
  · rfl
/-- four bytes of a number -/
def p4 (t : (Nat → Int) × Int) (a : Int) : (Nat → Int) × Int := pT (pT (pT (pT t (bt a 24)) (bt a 16)) (bt a 8)) (bt a 0)
theorem p4_2 (t : (Nat → Int) × Int) (a : Int) : (p4 t a).2 = t.2 + nb a := by
  unfold p4 nb
  rw [pT_2, pT_2, pT_2, pT_2]
  omega
theorem Rf_sT1 {M : pz_M} {t : (Nat → Int) × Int} (h : Rf M) : Rf (sT M 2 1 1 t) := Rf_of h (fun q hq => by
  have h1 : q.1 ≠ 2 ∧ ¬ (q.1 = 1 ∧ q.2.1 = 1) := (by decide +kernel : ∀ q ∈ rf_L, q.1 ≠ 2 ∧ ¬ (q.1 = 1 ∧ q.2.1 = 1)) q hq
  exact sT_o h1.1 h1.2)
theorem c1_nz {x : Int} (h : x ≠ 0) : c1 x = 1 := if_neg h
theorem c_Ta_add {a : Int} (hR : Rf M) (hn : 0 ≤ M 1 1) (hn2 : M 1 1 + nb a ≤ 240) : pz_cal (d + 1) 83 [(2, 1), (0, a)] ((pz_SH, ss, 0, 0, dd), M) = some (none, ((pz_SH, ss, 0, 0, dd), sT M 2 1 1 (p4 (M 2, M 1 1) a))) := by
  have r1 := c1_r (bt a 24)
  have r2 := c1_r (bt a 16)
  have r3 := c1_r (bt a 8)
  have r4 := c1_r (bt a 0)
  have k : (1 : Nat) ≠ 2 := by decide
  unfold nb at hn2
  simp only [k_Ta_add, px_iconst, px_bipush, px_sipush, px_ldc, px_ldc_w, px_lconst, px_ldc2_w, px_aconst_null, px_getstatic, px_iload_n, px_iload, px_lload_n, px_lload, px_aload_n, px_aload, px_istore_n, px_istore, px_astore_n, px_astore, px_lstore_n, px_lstore, px_iinc, px_iadd, px_isub, px_imul, px_iand, px_ior, px_ixor, px_ishl, px_ishr, px_iushr, px_ladd, px_lsub, px_lmul, px_land, px_lor, px_lcmp, px_lushr, px_lshl, px_ineg, px_i2l, px_l2i, px_idiv, px_irem, px_ldiv, px_lrem, px_dup0, px_pop0, px_dup2, px_pop2, px_dup2x, px_goto, px_if_eq, px_ic_eq, px_if_ne, px_ic_ne, px_if_lt, px_ic_lt, px_if_ge, px_ic_ge, px_if_gt, px_ic_gt, px_if_le, px_ic_le, px_ifnull, px_ifnonnull, px_lookupswitch, px_tableswitch, px_getfield, px_iaload, px_laload, px_caload, px_aaload, px_iastore, px_lastore, px_arraylength, px_putfield, px_ireturn, px_lreturn, px_areturn, px_return, px_iv0, px_is0, px_iv1, px_is1, px_iv2, px_is2, px_iv3, px_is3, px_iv4, px_is4, px_iv5, px_is5, px_iv6, px_is6, px_max, px_min, px_abs, px_maxJ, px_minJ, px_ii0, px_ii1, px_iio, px_copy, pz_cpk, pz_lk, pz_alk, pz_ask, pz_gfk, pz_lnk, pz_bx, pz_b, pz_z, pz_s1, pz_s2, pz_sp, pz_wt, pz_cmp, List.getElem?_cons_zero, List.getElem?_cons_succ, List.getElem?_nil, List.set_cons_zero, List.set_cons_succ, List.length_cons, List.length_nil, List.nil_append, List.cons_append, Option.toList_some, Option.toList_none, if_true, if_false, ite_true, ite_false, and_true, true_and, and_self, or_self, or_false, false_or, true_or, or_true, and_false, false_and, not_true_eq_false, not_false_eq_true, forall_const, ne_eq, reduceCtorEq, implies_true, false_implies, true_implies, Int.toNat_natCast, Nat.reduceAdd, Nat.reduceSub, Nat.reduceLT, Nat.reduceLeDiff, Nat.reduceEqDiff, Int.reduceLT, Int.reduceLE, Int.reduceToNat, Int.reduceNeg, Int.reduceEq, Int.reduceAdd, Nat.reduceMul, Int.reduceSub, Nat.reduceBEq, Int.reduceMul, Nat.add_zero, Nat.zero_add, Int.cast_ofNat_Int, Int.ofNat_eq_coe, decide_eq_true_eq, Nat.lt_irrefl, Nat.le_refl, j_Ta_add_0]
  rw [c_Ta_add_1 hR (by omega) (by omega) hn (fun h => by have := c1_nz h; omega)]
  simp only [Int.reduceSub]
  rw [c_Ta_add_1 (Rf_sT1 hR) (by omega) (by omega) (by rw [sT_k k, pT_2]; show 0 ≤ M 1 1 + _; omega) (fun h => by rw [sT_k k, pT_2]; show M 1 1 + _ < 240; have := c1_nz h; omega)]
  simp only [sT_sT, sT_c, sT_k k, Int.reduceSub]
  rw [c_Ta_add_1 (Rf_sT1 hR) (by omega) (by omega) (by rw [sT_k k, pT_2, pT_2]; show 0 ≤ M 1 1 + _ + _; omega) (fun h => by rw [sT_k k, pT_2, pT_2]; show M 1 1 + _ + _ < 240; have := c1_nz h; omega)]
  simp only [sT_sT, sT_c, sT_k k, Int.reduceSub]
  rw [c_Ta_add_1 (Rf_sT1 hR) (by omega) (by omega) (by rw [sT_k k, pT_2, pT_2, pT_2]; show 0 ≤ M 1 1 + _ + _ + _; omega) (fun h => by rw [sT_k k, pT_2, pT_2, pT_2]; show M 1 1 + _ + _ + _ < 240; have := c1_nz h; omega)]
  simp only [sT_sT, sT_c, sT_k k, Int.reduceSub]
  rw [j_Ta_add_3]
  simp only [px_iconst, px_bipush, px_sipush, px_ldc, px_ldc_w, px_lconst, px_ldc2_w, px_aconst_null, px_getstatic, px_iload_n, px_iload, px_lload_n, px_lload, px_aload_n, px_aload, px_istore_n, px_istore, px_astore_n, px_astore, px_lstore_n, px_lstore, px_iinc, px_iadd, px_isub, px_imul, px_iand, px_ior, px_ixor, px_ishl, px_ishr, px_iushr, px_ladd, px_lsub, px_lmul, px_land, px_lor, px_lcmp, px_lushr, px_lshl, px_ineg, px_i2l, px_l2i, px_idiv, px_irem, px_ldiv, px_lrem, px_dup0, px_pop0, px_dup2, px_pop2, px_dup2x, px_goto, px_if_eq, px_ic_eq, px_if_ne, px_ic_ne, px_if_lt, px_ic_lt, px_if_ge, px_ic_ge, px_if_gt, px_ic_gt, px_if_le, px_ic_le, px_ifnull, px_ifnonnull, px_lookupswitch, px_tableswitch, px_getfield, px_iaload, px_laload, px_caload, px_aaload, px_iastore, px_lastore, px_arraylength, px_putfield, px_ireturn, px_lreturn, px_areturn, px_return, px_iv0, px_is0, px_iv1, px_is1, px_iv2, px_is2, px_iv3, px_is3, px_iv4, px_is4, px_iv5, px_is5, px_iv6, px_is6, px_max, px_min, px_abs, px_maxJ, px_minJ, px_ii0, px_ii1, px_iio, px_copy, pz_cpk, pz_lk, pz_alk, pz_ask, pz_gfk, pz_lnk, pz_bx, pz_b, pz_z, pz_s1, pz_s2, pz_sp, pz_wt, pz_cmp, List.getElem?_cons_zero, List.getElem?_cons_succ, List.getElem?_nil, List.set_cons_zero, List.set_cons_succ, List.length_cons, List.length_nil, List.nil_append, List.cons_append, Option.toList_some, Option.toList_none, if_true, if_false, ite_true, ite_false, and_true, true_and, and_self, or_self, or_false, false_or, true_or, or_true, and_false, false_and, not_true_eq_false, not_false_eq_true, forall_const, ne_eq, reduceCtorEq, implies_true, false_implies, true_implies, Int.toNat_natCast, Nat.reduceAdd, Nat.reduceSub, Nat.reduceLT, Nat.reduceLeDiff, Nat.reduceEqDiff, Int.reduceLT, Int.reduceLE, Int.reduceToNat, Int.reduceNeg, Int.reduceEq, Int.reduceAdd, Nat.reduceMul, Int.reduceSub, Nat.reduceBEq, Int.reduceMul, Nat.add_zero, Nat.zero_add, Int.cast_ofNat_Int, Int.ofNat_eq_coe, decide_eq_true_eq, Nat.lt_irrefl, Nat.le_refl, j_Ta_add_58, j_Ta_add_64]
  rfl
end P13
