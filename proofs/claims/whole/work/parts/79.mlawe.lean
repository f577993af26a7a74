/-! THE REFERENCE READS A LAW: units of every depth -/
section P79
variable {d : Nat} {ss : List (Nat × Nat)} {dd : Nat} {T : Nat → Int} {n : Nat}
set_option maxRecDepth 100000 in
theorem m_unit_s {nn pp s : Nat → Rs Ex} {h t j : Nat} {D : Int} (hj : j ≤ 6) (ht : t ≤ 4) (hD : D ≤ 6) (hg : ∀ p, p ≤ n → Gr n p h False (s p)) (hb : ∀ p, s (bl T n p) = s p) (hs4 : ∀ M p l, Sr M T n p l t D → ∃ M', pz_cal (d + 4) 204 [(2, 147)] ((pz_SH, ss, 0, 0, dd), M) = some (none, ((pz_SH, ss, 0, 0, dd), M')) ∧ Rq M t n p l D j (s p) M') (hs5 : ∀ M p l, Sr M T n p l t D → ∃ M', pz_cal (d + 5) 204 [(2, 147)] ((pz_SH, ss, 0, 0, dd), M) = some (none, ((pz_SH, ss, 0, 0, dd), M')) ∧ Rq M t n p l D j (s p) M') : ∀ M p l, Sr M T n p l t D → ch T n (bl T n p) ≠ 33 → ch T n (bl T n p) ≠ 40 → ∃ M', pz_cal (d + 6) 200 [(2, 147)] ((pz_SH, ss, 0, 0, dd), M) = some (none, ((pz_SH, ss, 0, 0, dd), M')) ∧ Rq M t n p l D j (unt T n nn pp s p) M' := by
  intro M p l hS c1 c2
  obtain ⟨hR, hT, h3, hp, h4, h5, h14, h51, hl⟩ := hS
  have n240 := hT.2.1
  have b1 := bl_le (T := T) hp
  have b2 := bl_ge (T := T) (n := n) (p := p)
  have e1 := m_look (d := d + 3) (ss := ss) (dd := dd) hR hT h3 hp
  have hF1 : Pe t M (pz_up M 147 3 (bl T n p : Int)) := Pe_3
  have S1 : Sr (pz_up M 147 3 (bl T n p : Int)) T n (bl T n p) l t D := ⟨Rf_Pe hR hF1, TR_Pe hT hF1, u7_3, b1, by rw [u7_o (by decide)]; exact h4, by rw [u7_o (by decide)]; exact h5, by rw [u7_o (by decide)]; exact h14, by rw [u7_c (by decide)]; exact h51, by omega⟩
  have k9 : pz_up M 147 3 (bl T n p : Int) 149 = M 149 := u7_c (by decide)
  have k10 : pz_up M 147 3 (bl T n p : Int) 150 = M 150 := u7_c (by decide)
  obtain ⟨M3, t3, r3⟩ := hs5 _ _ _ S1
  have g1 := hg (bl T n p) b1
  rw [hb] at r3 g1
  unfold unt
  rw [if_neg c1, if_neg c2]
  generalize ch T n (bl T n p) = cc at *
  generalize pz_up M 147 3 (bl T n p : Int) = M1 at *
  match hz : s p, r3, g1 with
  | .inl z, r3, g1 =>
    obtain ⟨M4, t4, r4⟩ := m_compare (d := d + 1) (ss := ss) (dd := dd) hj ht hD hg hs4 (Br_of S1 r3 g1)
    have q2 := r3.2.2.1
    refine ⟨M4, ?_, Rq_base r4 hF1 k9 k10 b2⟩
    simp (maxSteps := 1000000) (disch := omega) only [↓reduceIte, sp_0, sp_s, Option.map_some, Option.map_none, Option.some.injEq, o_le, o_nle, o_lt, o_nlt, o_eq, o_neq, w32_id, up_at, nw_at, nw_s, k_Mo_unit, px_iconst, px_bipush, px_sipush, px_ldc, px_ldc_w, px_lconst, px_ldc2_w, px_aconst_null, px_getstatic, px_iload_n, px_iload, px_lload_n, px_lload, px_aload_n, px_aload, px_istore_n, px_istore, px_astore_n, px_astore, px_lstore_n, px_lstore, px_iinc, px_iadd, px_isub, px_imul, px_iand, px_ior, px_ixor, px_ishl, px_ishr, px_iushr, px_ladd, px_lsub, px_lmul, px_land, px_lor, px_lcmp, px_lushr, px_lshl, px_ineg, px_i2l, px_l2i, px_idiv, px_irem, px_ldiv, px_lrem, px_dup0, px_pop0, px_dup2, px_pop2, px_dup2x, px_goto, px_if_eq, px_ic_eq, px_if_ne, px_ic_ne, px_if_lt, px_ic_lt, px_if_ge, px_ic_ge, px_if_gt, px_ic_gt, px_if_le, px_ic_le, px_ifnull, px_ifnonnull, px_lookupswitch, px_tableswitch, px_getfield, px_iaload, px_laload, px_caload, px_aaload, px_iastore, px_lastore, px_arraylength, px_putfield, px_ireturn, px_lreturn, px_areturn, px_return, px_iv0, px_is0, px_iv1, px_is1, px_iv2, px_is2, px_iv3, px_is3, px_iv4, px_is4, px_iv5, px_is5, px_iv6, px_is6, px_max, px_min, px_abs, px_maxJ, px_minJ, px_ii0, px_ii1, px_iio, px_copy, pz_cpk, pz_lk, pz_alk, pz_ask, pz_gfk, pz_lnk, pz_bx, pz_b, pz_z, pz_s1, pz_s2, pz_wt, pz_cmp, List.getElem?_cons_zero, List.getElem?_cons_succ, List.getElem?_nil, List.set_cons_zero, List.set_cons_succ, List.length_cons, List.length_nil, List.nil_append, List.cons_append, Option.toList_some, Option.toList_none, if_true, if_false, ite_true, ite_false, and_true, true_and, and_self, or_self, or_false, false_or, true_or, or_true, and_false, false_and, not_true_eq_false, not_false_eq_true, forall_const, ne_eq, reduceCtorEq, implies_true, false_implies, true_implies, Int.toNat_natCast, Nat.reduceAdd, Nat.reduceSub, Nat.reduceLT, Nat.reduceLeDiff, Nat.reduceEqDiff, Int.reduceLT, Int.reduceLE, Int.reduceToNat, Int.reduceNeg, Int.reduceEq, Int.reduceAdd, Nat.reduceMul, Int.reduceSub, Nat.reduceBEq, Int.reduceMul, Nat.add_zero, Nat.zero_add, Int.cast_ofNat_Int, Int.ofNat_eq_coe, decide_eq_true_eq, Nat.lt_irrefl, Nat.le_refl, List.getElem?_toArray, Option.elim_some, Option.elim_none, j_Mo_unit_0, j_Mo_unit_47, j_Mo_unit_78, j_Mo_unit_94, g_147, e1, t3, q2, t4]
  | .inr w, r3, g1 =>
    have q2 := r3.2.1
    refine ⟨M3, ?_, Rq_base r3 hF1 k9 k10 b2⟩
    simp (maxSteps := 1000000) (disch := omega) only [↓reduceIte, sp_0, sp_s, Option.map_some, Option.map_none, Option.some.injEq, o_le, o_nle, o_lt, o_nlt, o_eq, o_neq, w32_id, up_at, nw_at, nw_s, k_Mo_unit, px_iconst, px_bipush, px_sipush, px_ldc, px_ldc_w, px_lconst, px_ldc2_w, px_aconst_null, px_getstatic, px_iload_n, px_iload, px_lload_n, px_lload, px_aload_n, px_aload, px_istore_n, px_istore, px_astore_n, px_astore, px_lstore_n, px_lstore, px_iinc, px_iadd, px_isub, px_imul, px_iand, px_ior, px_ixor, px_ishl, px_ishr, px_iushr, px_ladd, px_lsub, px_lmul, px_land, px_lor, px_lcmp, px_lushr, px_lshl, px_ineg, px_i2l, px_l2i, px_idiv, px_irem, px_ldiv, px_lrem, px_dup0, px_pop0, px_dup2, px_pop2, px_dup2x, px_goto, px_if_eq, px_ic_eq, px_if_ne, px_ic_ne, px_if_lt, px_ic_lt, px_if_ge, px_ic_ge, px_if_gt, px_ic_gt, px_if_le, px_ic_le, px_ifnull, px_ifnonnull, px_lookupswitch, px_tableswitch, px_getfield, px_iaload, px_laload, px_caload, px_aaload, px_iastore, px_lastore, px_arraylength, px_putfield, px_ireturn, px_lreturn, px_areturn, px_return, px_iv0, px_is0, px_iv1, px_is1, px_iv2, px_is2, px_iv3, px_is3, px_iv4, px_is4, px_iv5, px_is5, px_iv6, px_is6, px_max, px_min, px_abs, px_maxJ, px_minJ, px_ii0, px_ii1, px_iio, px_copy, pz_cpk, pz_lk, pz_alk, pz_ask, pz_gfk, pz_lnk, pz_bx, pz_b, pz_z, pz_s1, pz_s2, pz_wt, pz_cmp, List.getElem?_cons_zero, List.getElem?_cons_succ, List.getElem?_nil, List.set_cons_zero, List.set_cons_succ, List.length_cons, List.length_nil, List.nil_append, List.cons_append, Option.toList_some, Option.toList_none, if_true, if_false, ite_true, ite_false, and_true, true_and, and_self, or_self, or_false, false_or, true_or, or_true, and_false, false_and, not_true_eq_false, not_false_eq_true, forall_const, ne_eq, reduceCtorEq, implies_true, false_implies, true_implies, Int.toNat_natCast, Nat.reduceAdd, Nat.reduceSub, Nat.reduceLT, Nat.reduceLeDiff, Nat.reduceEqDiff, Int.reduceLT, Int.reduceLE, Int.reduceToNat, Int.reduceNeg, Int.reduceEq, Int.reduceAdd, Nat.reduceMul, Int.reduceSub, Nat.reduceBEq, Int.reduceMul, Nat.add_zero, Nat.zero_add, Int.cast_ofNat_Int, Int.ofNat_eq_coe, decide_eq_true_eq, Nat.lt_irrefl, Nat.le_refl, List.getElem?_toArray, Option.elim_some, Option.elim_none, j_Mo_unit_0, j_Mo_unit_47, j_Mo_unit_78, j_Mo_unit_94, g_147, e1, t3, q2]
set_option maxRecDepth 100000 in
theorem m_unit_f {t : Nat} (ht : t ≤ 4) : ∀ M p l, Sr M T n p l t 6 → ch T n (bl T n p) = 33 ∨ ch T n (bl T n p) = 40 → ∃ M', pz_cal (d + 4) 200 [(2, 147)] ((pz_SH, ss, 0, 0, dd), M) = some (none, ((pz_SH, ss, 0, 0, dd), M')) ∧ Rq M t n p l 6 0 (flt T n p) M' := by
  intro M p l hS c1
  obtain ⟨hR, hT, h3, hp, h4, h5, h14, h51, hl⟩ := hS
  have n240 := hT.2.1
  have b1 := bl_le (T := T) hp
  have b2 := bl_ge (T := T) (n := n) (p := p)
  have b3 : bl T n p < n := ch_lt (T := T) rfl (by omega)
  have e1 := m_look (d := d + 1) (ss := ss) (dd := dd) hR hT h3 hp
  have h31 : pz_up M 147 3 (bl T n p : Int) 147 3 = (bl T n p : Int) := u7_3
  have h41 : pz_up M 147 3 (bl T n p : Int) 147 4 = -1 := by rw [u7_o (by decide)]; exact h4
  have h51' : pz_up M 147 3 (bl T n p : Int) 147 5 = 6 := by rw [u7_o (by decide)]; exact h5
  have e3 := m_opens6 (d := d + 1) (ss := ss) (dd := dd) h31 (by omega) h41 h51'
  refine ⟨pz_up (pz_up (pz_up (pz_up M 147 3 (bl T n p : Int)) 147 4 (bl T n p : Int)) 147 5 7) 147 3 ((bl T n p : Int) + 1), ?_, Pe_t Pe_3 (Pe_t Pe_4 (Pe_t Pe_5 Pe_3)), by rw [u7_o (by decide), u7_o (by decide)]; exact u7_4, bl T n p + 1, l, 7, u7_3, by omega, by omega, by rw [u7_o (by decide)]; exact u7_5, by omega, by omega, by rw [u7_c (by decide), u7_c (by decide), u7_c (by decide), u7_c (by decide)]; exact h51, by omega⟩
  have w4 : pz_up (pz_up (pz_up (pz_up M 147 3 (bl T n p : Int)) 147 4 (bl T n p : Int)) 147 5 7) 147 3 ((bl T n p : Int) + 1) 147 4 = (bl T n p : Int) := by rw [u7_o (by decide), u7_o (by decide)]; exact u7_4
  generalize pz_up (pz_up (pz_up (pz_up M 147 3 (bl T n p : Int)) 147 4 (bl T n p : Int)) 147 5 7) 147 3 ((bl T n p : Int) + 1) = M2 at *
  generalize pz_up M 147 3 (bl T n p : Int) = M1 at *
  rcases c1 with c1 | c1
  · rw [c1] at e1
    simp (maxSteps := 1000000) (disch := omega) only [↓reduceIte, sp_0, sp_s, Option.map_some, Option.map_none, Option.some.injEq, o_le, o_nle, o_lt, o_nlt, o_eq, o_neq, w32_id, up_at, nw_at, nw_s, k_Mo_unit, px_iconst, px_bipush, px_sipush, px_ldc, px_ldc_w, px_lconst, px_ldc2_w, px_aconst_null, px_getstatic, px_iload_n, px_iload, px_lload_n, px_lload, px_aload_n, px_aload, px_istore_n, px_istore, px_astore_n, px_astore, px_lstore_n, px_lstore, px_iinc, px_iadd, px_isub, px_imul, px_iand, px_ior, px_ixor, px_ishl, px_ishr, px_iushr, px_ladd, px_lsub, px_lmul, px_land, px_lor, px_lcmp, px_lushr, px_lshl, px_ineg, px_i2l, px_l2i, px_idiv, px_irem, px_ldiv, px_lrem, px_dup0, px_pop0, px_dup2, px_pop2, px_dup2x, px_goto, px_if_eq, px_ic_eq, px_if_ne, px_ic_ne, px_if_lt, px_ic_lt, px_if_ge, px_ic_ge, px_if_gt, px_ic_gt, px_if_le, px_ic_le, px_ifnull, px_ifnonnull, px_lookupswitch, px_tableswitch, px_getfield, px_iaload, px_laload, px_caload, px_aaload, px_iastore, px_lastore, px_arraylength, px_putfield, px_ireturn, px_lreturn, px_areturn, px_return, px_iv0, px_is0, px_iv1, px_is1, px_iv2, px_is2, px_iv3, px_is3, px_iv4, px_is4, px_iv5, px_is5, px_iv6, px_is6, px_max, px_min, px_abs, px_maxJ, px_minJ, px_ii0, px_ii1, px_iio, px_copy, pz_cpk, pz_lk, pz_alk, pz_ask, pz_gfk, pz_lnk, pz_bx, pz_b, pz_z, pz_s1, pz_s2, pz_wt, pz_cmp, List.getElem?_cons_zero, List.getElem?_cons_succ, List.getElem?_nil, List.set_cons_zero, List.set_cons_succ, List.length_cons, List.length_nil, List.nil_append, List.cons_append, Option.toList_some, Option.toList_none, if_true, if_false, ite_true, ite_false, and_true, true_and, and_self, or_self, or_false, false_or, true_or, or_true, and_false, false_and, not_true_eq_false, not_false_eq_true, forall_const, ne_eq, reduceCtorEq, implies_true, false_implies, true_implies, Int.toNat_natCast, Nat.reduceAdd, Nat.reduceSub, Nat.reduceLT, Nat.reduceLeDiff, Nat.reduceEqDiff, Int.reduceLT, Int.reduceLE, Int.reduceToNat, Int.reduceNeg, Int.reduceEq, Int.reduceAdd, Nat.reduceMul, Int.reduceSub, Nat.reduceBEq, Int.reduceMul, Nat.add_zero, Nat.zero_add, Int.cast_ofNat_Int, Int.ofNat_eq_coe, decide_eq_true_eq, Nat.lt_irrefl, Nat.le_refl, List.getElem?_toArray, Option.elim_some, Option.elim_none, j_Mo_unit_0, j_Mo_unit_47, j_Mo_unit_78, j_Mo_unit_94, g_147, e1, e3, w4]
  · rw [c1] at e1
    simp (maxSteps := 1000000) (disch := omega) only [↓reduceIte, sp_0, sp_s, Option.map_some, Option.map_none, Option.some.injEq, o_le, o_nle, o_lt, o_nlt, o_eq, o_neq, w32_id, up_at, nw_at, nw_s, k_Mo_unit, px_iconst, px_bipush, px_sipush, px_ldc, px_ldc_w, px_lconst, px_ldc2_w, px_aconst_null, px_getstatic, px_iload_n, px_iload, px_lload_n, px_lload, px_aload_n, px_aload, px_istore_n, px_istore, px_astore_n, px_astore, px_lstore_n, px_lstore, px_iinc, px_iadd, px_isub, px_imul, px_iand, px_ior, px_ixor, px_ishl, px_ishr, px_iushr, px_ladd, px_lsub, px_lmul, px_land, px_lor, px_lcmp, px_lushr, px_lshl, px_ineg, px_i2l, px_l2i, px_idiv, px_irem, px_ldiv, px_lrem, px_dup0, px_pop0, px_dup2, px_pop2, px_dup2x, px_goto, px_if_eq, px_ic_eq, px_if_ne, px_ic_ne, px_if_lt, px_ic_lt, px_if_ge, px_ic_ge, px_if_gt, px_ic_gt, px_if_le, px_ic_le, px_ifnull, px_ifnonnull, px_lookupswitch, px_tableswitch, px_getfield, px_iaload, px_laload, px_caload, px_aaload, px_iastore, px_lastore, px_arraylength, px_putfield, px_ireturn, px_lreturn, px_areturn, px_return, px_iv0, px_is0, px_iv1, px_is1, px_iv2, px_is2, px_iv3, px_is3, px_iv4, px_is4, px_iv5, px_is5, px_iv6, px_is6, px_max, px_min, px_abs, px_maxJ, px_minJ, px_ii0, px_ii1, px_iio, px_copy, pz_cpk, pz_lk, pz_alk, pz_ask, pz_gfk, pz_lnk, pz_bx, pz_b, pz_z, pz_s1, pz_s2, pz_wt, pz_cmp, List.getElem?_cons_zero, List.getElem?_cons_succ, List.getElem?_nil, List.set_cons_zero, List.set_cons_succ, List.length_cons, List.length_nil, List.nil_append, List.cons_append, Option.toList_some, Option.toList_none, if_true, if_false, ite_true, ite_false, and_true, true_and, and_self, or_self, or_false, false_or, true_or, or_true, and_false, false_and, not_true_eq_false, not_false_eq_true, forall_const, ne_eq, reduceCtorEq, implies_true, false_implies, true_implies, Int.toNat_natCast, Nat.reduceAdd, Nat.reduceSub, Nat.reduceLT, Nat.reduceLeDiff, Nat.reduceEqDiff, Int.reduceLT, Int.reduceLE, Int.reduceToNat, Int.reduceNeg, Int.reduceEq, Int.reduceAdd, Nat.reduceMul, Int.reduceSub, Nat.reduceBEq, Int.reduceMul, Nat.add_zero, Nat.zero_add, Int.cast_ofNat_Int, Int.ofNat_eq_coe, decide_eq_true_eq, Nat.lt_irrefl, Nat.le_refl, List.getElem?_toArray, Option.elim_some, Option.elim_none, j_Mo_unit_0, j_Mo_unit_47, j_Mo_unit_78, j_Mo_unit_94, g_147, e1, e3, w4]
set_option maxRecDepth 100000 in
theorem m_unit_n {u : Nat → Rs Ex} {h t j : Nat} {D : Int} (hj : j < 6) (ht : t ≤ 4) (hD : 0 ≤ D ∧ D < 6) (hg : ∀ p, p ≤ n → Gr n p h True (u p)) (hu : ∀ M p l, Sr M T n p l t (D + 1) → ∃ M', pz_cal (d + 3) 200 [(2, 147)] ((pz_SH, ss, 0, 0, dd), M) = some (none, ((pz_SH, ss, 0, 0, dd), M')) ∧ Rq M t n p l (D + 1) j (u p) M') : ∀ M p l, Sr M T n p l t D → ch T n (bl T n p) = 33 → ∃ M', pz_cal (d + 4) 200 [(2, 147)] ((pz_SH, ss, 0, 0, dd), M) = some (none, ((pz_SH, ss, 0, 0, dd), M')) ∧ Rq M t n p l D (j + 1) (gNt T n u p) M' := by
  intro M p l hS c1
  obtain ⟨hR, hT, h3, hp, h4, h5, h14, h51, hl⟩ := hS
  have n240 := hT.2.1
  have b1 := bl_le (T := T) hp
  have b2 := bl_ge (T := T) (n := n) (p := p)
  have b3 : bl T n p < n := ch_lt c1 (by decide)
  have e1 := m_look (d := d + 1) (ss := ss) (dd := dd) hR hT h3 hp
  rw [c1] at e1
  have h31 : pz_up M 147 3 (bl T n p : Int) 147 3 = (bl T n p : Int) := u7_3
  have h51' : pz_up M 147 3 (bl T n p : Int) 147 5 = D := by rw [u7_o (by decide)]; exact h5
  have e3 := m_opens (d := d + 2) (ss := ss) (dd := dd) h31 (by omega) h51' hD
  have hF2 : Pe t M (pz_up (pz_up (pz_up M 147 3 (bl T n p : Int)) 147 5 (D + 1)) 147 3 ((bl T n p : Int) + 1)) := Pe_t Pe_3 (Pe_t Pe_5 Pe_3)
  have h32 : pz_up (pz_up (pz_up M 147 3 (bl T n p : Int)) 147 5 (D + 1)) 147 3 ((bl T n p : Int) + 1) 147 3 = ((bl T n p + 1 : Nat) : Int) := u7_3
  have h42 : pz_up (pz_up (pz_up M 147 3 (bl T n p : Int)) 147 5 (D + 1)) 147 3 ((bl T n p : Int) + 1) 147 4 = -1 := by rw [u7_o (by decide), u7_o (by decide), u7_o (by decide)]; exact h4
  have h52 : pz_up (pz_up (pz_up M 147 3 (bl T n p : Int)) 147 5 (D + 1)) 147 3 ((bl T n p : Int) + 1) 147 5 = D + 1 := by rw [u7_o (by decide)]; exact u7_5
  have k9 : pz_up (pz_up (pz_up M 147 3 (bl T n p : Int)) 147 5 (D + 1)) 147 3 ((bl T n p : Int) + 1) 149 = M 149 := by rw [u7_c (by decide), u7_c (by decide), u7_c (by decide)]
  have k10 : pz_up (pz_up (pz_up M 147 3 (bl T n p : Int)) 147 5 (D + 1)) 147 3 ((bl T n p : Int) + 1) 150 = M 150 := by rw [u7_c (by decide), u7_c (by decide), u7_c (by decide)]
  have k11 : pz_up (pz_up (pz_up M 147 3 (bl T n p : Int)) 147 5 (D + 1)) 147 3 ((bl T n p : Int) + 1) 151 = M 151 := by rw [u7_c (by decide), u7_c (by decide), u7_c (by decide)]
  generalize pz_up (pz_up (pz_up M 147 3 (bl T n p : Int)) 147 5 (D + 1)) 147 3 ((bl T n p : Int) + 1) = M2 at *
  obtain ⟨M3, t3, f3, r3⟩ := hu M2 (bl T n p + 1) l ⟨Rf_Pe hR hF2, TR_Pe hT hF2, h32, by omega, h42, h52, by rw [hF2.2.1 14 (by decide) (by decide) (by decide)]; exact h14, by rw [k11]; exact h51, by omega⟩
  have g1 := hg (bl T n p + 1) (by omega)
  have hF3 := Pe_t hF2 f3
  have hR3 := Rf_Pe hR hF3
  have h314 : M3 147 14 = (t : Int) := by rw [hF3.2.1 14 (by decide) (by decide) (by decide)]; exact h14
  unfold gNt
  generalize pz_up M 147 3 (bl T n p : Int) = M1 at *
  match hz : u (bl T n p + 1), r3, g1 with
  | .inl z, r3, g1 =>
    obtain ⟨q1, q2, q3, q4⟩ := r3
    have g2 := g1.1
    have g3 := g1.2.1
    have e5 := m_put (d := d + 2) (ss := ss) (dd := dd) (c := 9) (v := 0) hR3 h314 ht q4.1 (by omega)
    have hA4 := Am2_t q4 (Am2_1 (M := M3) (t := t) (l := l + z.1.1.length) (c := 9) (v := 0))
    have hF4 := Pe_t hF3 (Pe_pu (M := M3) (t := t) (l := l + z.1.1.length) (c := 9) (v := 0) (by omega))
    have k3 : pu M3 t (l + z.1.1.length) 9 0 147 = M3 147 := pu_147
    generalize pu M3 t (l + z.1.1.length) 9 0 = M4 at *
    have h54 : M4 147 5 = D + 1 := by rw [k3]; exact q3
    refine ⟨pz_up M4 147 5 D, ?_, Pe_t hF4 Pe_5, by rw [u7_o (by decide), k3]; exact q1, by rw [u7_o (by decide), k3]; exact q2, u7_5, Am2_7 (Am2_base hA4 k9 k10)⟩
    have e9 : D + 1 - 1 = D := by omega
    simp (maxSteps := 1000000) (disch := omega) only [↓reduceIte, sp_0, sp_s, Option.map_some, Option.map_none, Option.some.injEq, o_le, o_nle, o_lt, o_nlt, o_eq, o_neq, w32_id, up_at, nw_at, nw_s, k_Mo_unit, px_iconst, px_bipush, px_sipush, px_ldc, px_ldc_w, px_lconst, px_ldc2_w, px_aconst_null, px_getstatic, px_iload_n, px_iload, px_lload_n, px_lload, px_aload_n, px_aload, px_istore_n, px_istore, px_astore_n, px_astore, px_lstore_n, px_lstore, px_iinc, px_iadd, px_isub, px_imul, px_iand, px_ior, px_ixor, px_ishl, px_ishr, px_iushr, px_ladd, px_lsub, px_lmul, px_land, px_lor, px_lcmp, px_lushr, px_lshl, px_ineg, px_i2l, px_l2i, px_idiv, px_irem, px_ldiv, px_lrem, px_dup0, px_pop0, px_dup2, px_pop2, px_dup2x, px_goto, px_if_eq, px_ic_eq, px_if_ne, px_ic_ne, px_if_lt, px_ic_lt, px_if_ge, px_ic_ge, px_if_gt, px_ic_gt, px_if_le, px_ic_le, px_ifnull, px_ifnonnull, px_lookupswitch, px_tableswitch, px_getfield, px_iaload, px_laload, px_caload, px_aaload, px_iastore, px_lastore, px_arraylength, px_putfield, px_ireturn, px_lreturn, px_areturn, px_return, px_iv0, px_is0, px_iv1, px_is1, px_iv2, px_is2, px_iv3, px_is3, px_iv4, px_is4, px_iv5, px_is5, px_iv6, px_is6, px_max, px_min, px_abs, px_maxJ, px_minJ, px_ii0, px_ii1, px_iio, px_copy, pz_cpk, pz_lk, pz_alk, pz_ask, pz_gfk, pz_lnk, pz_bx, pz_b, pz_z, pz_s1, pz_s2, pz_wt, pz_cmp, List.getElem?_cons_zero, List.getElem?_cons_succ, List.getElem?_nil, List.set_cons_zero, List.set_cons_succ, List.length_cons, List.length_nil, List.nil_append, List.cons_append, Option.toList_some, Option.toList_none, if_true, if_false, ite_true, ite_false, and_true, true_and, and_self, or_self, or_false, false_or, true_or, or_true, and_false, false_and, not_true_eq_false, not_false_eq_true, forall_const, ne_eq, reduceCtorEq, implies_true, false_implies, true_implies, Int.toNat_natCast, Nat.reduceAdd, Nat.reduceSub, Nat.reduceLT, Nat.reduceLeDiff, Nat.reduceEqDiff, Int.reduceLT, Int.reduceLE, Int.reduceToNat, Int.reduceNeg, Int.reduceEq, Int.reduceAdd, Nat.reduceMul, Int.reduceSub, Nat.reduceBEq, Int.reduceMul, Nat.add_zero, Nat.zero_add, Int.cast_ofNat_Int, Int.ofNat_eq_coe, decide_eq_true_eq, Nat.lt_irrefl, Nat.le_refl, List.getElem?_toArray, Option.elim_some, Option.elim_none, j_Mo_unit_0, j_Mo_unit_47, j_Mo_unit_78, j_Mo_unit_94, g_147, e1, e3, h42, t3, e5, h54, e9]
  | .inr w, r3, g1 =>
    obtain ⟨q1, q, l', D', q2, q3, q4, q5, q6, q7, q8, q9⟩ := r3
    have e5 := m_put (d := d + 2) (ss := ss) (dd := dd) (c := 9) (v := 0) hR3 h314 ht q8 (by omega)
    have hF4 := Pe_t hF3 (Pe_pu (M := M3) (t := t) (l := l') (c := 9) (v := 0) (by omega))
    have k3 : pu M3 t l' 9 0 147 = M3 147 := pu_147
    have k4 : pu M3 t l' 9 0 151 t = ((l' + 1 : Nat) : Int) := pu_151
    generalize pu M3 t l' 9 0 = M4 at *
    have h54 : M4 147 5 = D' := by rw [k3]; exact q5
    refine ⟨pz_up M4 147 5 (D' - 1), ?_, Pe_t hF4 Pe_5, by rw [u7_o (by decide), k3]; exact q1, q, l' + 1, D' - 1, by rw [u7_o (by decide), k3]; exact q2, by omega, by omega, u7_5, by omega, by omega, by rw [u7_c (by decide)]; exact k4, by omega⟩
    simp (maxSteps := 1000000) (disch := omega) only [↓reduceIte, sp_0, sp_s, Option.map_some, Option.map_none, Option.some.injEq, o_le, o_nle, o_lt, o_nlt, o_eq, o_neq, w32_id, up_at, nw_at, nw_s, k_Mo_unit, px_iconst, px_bipush, px_sipush, px_ldc, px_ldc_w, px_lconst, px_ldc2_w, px_aconst_null, px_getstatic, px_iload_n, px_iload, px_lload_n, px_lload, px_aload_n, px_aload, px_istore_n, px_istore, px_astore_n, px_astore, px_lstore_n, px_lstore, px_iinc, px_iadd, px_isub, px_imul, px_iand, px_ior, px_ixor, px_ishl, px_ishr, px_iushr, px_ladd, px_lsub, px_lmul, px_land, px_lor, px_lcmp, px_lushr, px_lshl, px_ineg, px_i2l, px_l2i, px_idiv, px_irem, px_ldiv, px_lrem, px_dup0, px_pop0, px_dup2, px_pop2, px_dup2x, px_goto, px_if_eq, px_ic_eq, px_if_ne, px_ic_ne, px_if_lt, px_ic_lt, px_if_ge, px_ic_ge, px_if_gt, px_ic_gt, px_if_le, px_ic_le, px_ifnull, px_ifnonnull, px_lookupswitch, px_tableswitch, px_getfield, px_iaload, px_laload, px_caload, px_aaload, px_iastore, px_lastore, px_arraylength, px_putfield, px_ireturn, px_lreturn, px_areturn, px_return, px_iv0, px_is0, px_iv1, px_is1, px_iv2, px_is2, px_iv3, px_is3, px_iv4, px_is4, px_iv5, px_is5, px_iv6, px_is6, px_max, px_min, px_abs, px_maxJ, px_minJ, px_ii0, px_ii1, px_iio, px_copy, pz_cpk, pz_lk, pz_alk, pz_ask, pz_gfk, pz_lnk, pz_bx, pz_b, pz_z, pz_s1, pz_s2, pz_wt, pz_cmp, List.getElem?_cons_zero, List.getElem?_cons_succ, List.getElem?_nil, List.set_cons_zero, List.set_cons_succ, List.length_cons, List.length_nil, List.nil_append, List.cons_append, Option.toList_some, Option.toList_none, if_true, if_false, ite_true, ite_false, and_true, true_and, and_self, or_self, or_false, false_or, true_or, or_true, and_false, false_and, not_true_eq_false, not_false_eq_true, forall_const, ne_eq, reduceCtorEq, implies_true, false_implies, true_implies, Int.toNat_natCast, Nat.reduceAdd, Nat.reduceSub, Nat.reduceLT, Nat.reduceLeDiff, Nat.reduceEqDiff, Int.reduceLT, Int.reduceLE, Int.reduceToNat, Int.reduceNeg, Int.reduceEq, Int.reduceAdd, Nat.reduceMul, Int.reduceSub, Nat.reduceBEq, Int.reduceMul, Nat.add_zero, Nat.zero_add, Int.cast_ofNat_Int, Int.ofNat_eq_coe, decide_eq_true_eq, Nat.lt_irrefl, Nat.le_refl, List.getElem?_toArray, Option.elim_some, Option.elim_none, j_Mo_unit_0, j_Mo_unit_47, j_Mo_unit_78, j_Mo_unit_94, g_147, e1, e3, h42, t3, e5, h54]
set_option maxRecDepth 100000 in
theorem m_unit_p {s : Nat → Rs Ex} {h t j : Nat} {D : Int} (hj : j < 6) (ht : t ≤ 4) (hD : 0 ≤ D ∧ D < 6) (hg : ∀ p, p ≤ n → Gr n p h True (s p)) (hs : ∀ M p l, Sr M T n p l t (D + 1) → ∃ M', pz_cal (d + 3) 199 [(2, 147)] ((pz_SH, ss, 0, 0, dd), M) = some (none, ((pz_SH, ss, 0, 0, dd), M')) ∧ Rq M t n p l (D + 1) j (s p) M') : ∀ M p l, Sr M T n p l t D → ch T n (bl T n p) = 40 → ∃ M', pz_cal (d + 4) 200 [(2, 147)] ((pz_SH, ss, 0, 0, dd), M) = some (none, ((pz_SH, ss, 0, 0, dd), M')) ∧ Rq M t n p l D (j + 1) (inb T n s 41 (bl T n p + 1)) M' := by
  intro M p l hS c1
  obtain ⟨hR, hT, h3, hp, h4, h5, h14, h51, hl⟩ := hS
  have n240 := hT.2.1
  have b1 := bl_le (T := T) hp
  have b2 := bl_ge (T := T) (n := n) (p := p)
  have b3 : bl T n p < n := ch_lt c1 (by decide)
  have e1 := m_look (d := d + 1) (ss := ss) (dd := dd) hR hT h3 hp
  rw [c1] at e1
  have h31 : pz_up M 147 3 (bl T n p : Int) 147 3 = (bl T n p : Int) := u7_3
  have h51' : pz_up M 147 3 (bl T n p : Int) 147 5 = D := by rw [u7_o (by decide)]; exact h5
  have e3 := m_opens (d := d + 2) (ss := ss) (dd := dd) h31 (by omega) h51' hD
  have hF2 : Pe t M (pz_up (pz_up (pz_up M 147 3 (bl T n p : Int)) 147 5 (D + 1)) 147 3 ((bl T n p : Int) + 1)) := Pe_t Pe_3 (Pe_t Pe_5 Pe_3)
  have h32 : pz_up (pz_up (pz_up M 147 3 (bl T n p : Int)) 147 5 (D + 1)) 147 3 ((bl T n p : Int) + 1) 147 3 = ((bl T n p + 1 : Nat) : Int) := u7_3
  have h42 : pz_up (pz_up (pz_up M 147 3 (bl T n p : Int)) 147 5 (D + 1)) 147 3 ((bl T n p : Int) + 1) 147 4 = -1 := by rw [u7_o (by decide), u7_o (by decide), u7_o (by decide)]; exact h4
  have h52 : pz_up (pz_up (pz_up M 147 3 (bl T n p : Int)) 147 5 (D + 1)) 147 3 ((bl T n p : Int) + 1) 147 5 = D + 1 := by rw [u7_o (by decide)]; exact u7_5
  have k9 : pz_up (pz_up (pz_up M 147 3 (bl T n p : Int)) 147 5 (D + 1)) 147 3 ((bl T n p : Int) + 1) 149 = M 149 := by rw [u7_c (by decide), u7_c (by decide), u7_c (by decide)]
  have k10 : pz_up (pz_up (pz_up M 147 3 (bl T n p : Int)) 147 5 (D + 1)) 147 3 ((bl T n p : Int) + 1) 150 = M 150 := by rw [u7_c (by decide), u7_c (by decide), u7_c (by decide)]
  have k11 : pz_up (pz_up (pz_up M 147 3 (bl T n p : Int)) 147 5 (D + 1)) 147 3 ((bl T n p : Int) + 1) 151 = M 151 := by rw [u7_c (by decide), u7_c (by decide), u7_c (by decide)]
  generalize pz_up (pz_up (pz_up M 147 3 (bl T n p : Int)) 147 5 (D + 1)) 147 3 ((bl T n p : Int) + 1) = M2 at *
  obtain ⟨M3, t3, f3, r3⟩ := hs M2 (bl T n p + 1) l ⟨Rf_Pe hR hF2, TR_Pe hT hF2, h32, by omega, h42, h52, by rw [hF2.2.1 14 (by decide) (by decide) (by decide)]; exact h14, by rw [k11]; exact h51, by omega⟩
  have g1 := hg (bl T n p + 1) (by omega)
  have hF3 := Pe_t hF2 f3
  unfold inb
  generalize pz_up M 147 3 (bl T n p : Int) = M1 at *
  match hz : s (bl T n p + 1), r3, g1 with
  | .inl z, r3, g1 =>
    obtain ⟨q1, q2, q3, q4⟩ := r3
    have g2 := g1.1
    have g3 := g1.2.1
    have z1 := bl_le (T := T) g2
    have z2 := bl_ge (T := T) (n := n) (p := z.2)
    have e4 := m_closes (d := d) (ss := ss) (dd := dd) (c := 41) (Rf_Pe hR hF3) (TR_Pe hT hF3) q1 g2 q2 q3 (by omega)
    rw [show D + 1 - 1 = D by omega] at e4
    show ∃ M', _ = _ ∧ Rq M t n p l D (j + 1) (if ch T n (bl T n z.2) = 41 then _ else _) M'
    by_cases c2 : ch T n (bl T n z.2) = 41
    · rw [if_pos c2] at e4 ⊢
      refine ⟨pz_up (pz_up M3 147 3 ((bl T n z.2 : Int) + 1)) 147 5 D, ?_, Pe_t hF3 (Pe_t Pe_3 Pe_5), by rw [u7_o (by decide)]; exact u7_3, by rw [u7_o (by decide), u7_o (by decide)]; exact q2, u7_5, Am2_7 (Am2_7 (Am2_base q4 k9 k10))⟩
      generalize pz_up (pz_up M3 147 3 ((bl T n z.2 : Int) + 1)) 147 5 D = M4 at *
      simp (maxSteps := 1000000) (disch := omega) only [↓reduceIte, sp_0, sp_s, Option.map_some, Option.map_none, Option.some.injEq, o_le, o_nle, o_lt, o_nlt, o_eq, o_neq, w32_id, up_at, nw_at, nw_s, k_Mo_unit, px_iconst, px_bipush, px_sipush, px_ldc, px_ldc_w, px_lconst, px_ldc2_w, px_aconst_null, px_getstatic, px_iload_n, px_iload, px_lload_n, px_lload, px_aload_n, px_aload, px_istore_n, px_istore, px_astore_n, px_astore, px_lstore_n, px_lstore, px_iinc, px_iadd, px_isub, px_imul, px_iand, px_ior, px_ixor, px_ishl, px_ishr, px_iushr, px_ladd, px_lsub, px_lmul, px_land, px_lor, px_lcmp, px_lushr, px_lshl, px_ineg, px_i2l, px_l2i, px_idiv, px_irem, px_ldiv, px_lrem, px_dup0, px_pop0, px_dup2, px_pop2, px_dup2x, px_goto, px_if_eq, px_ic_eq, px_if_ne, px_ic_ne, px_if_lt, px_ic_lt, px_if_ge, px_ic_ge, px_if_gt, px_ic_gt, px_if_le, px_ic_le, px_ifnull, px_ifnonnull, px_lookupswitch, px_tableswitch, px_getfield, px_iaload, px_laload, px_caload, px_aaload, px_iastore, px_lastore, px_arraylength, px_putfield, px_ireturn, px_lreturn, px_areturn, px_return, px_iv0, px_is0, px_iv1, px_is1, px_iv2, px_is2, px_iv3, px_is3, px_iv4, px_is4, px_iv5, px_is5, px_iv6, px_is6, px_max, px_min, px_abs, px_maxJ, px_minJ, px_ii0, px_ii1, px_iio, px_copy, pz_cpk, pz_lk, pz_alk, pz_ask, pz_gfk, pz_lnk, pz_bx, pz_b, pz_z, pz_s1, pz_s2, pz_wt, pz_cmp, List.getElem?_cons_zero, List.getElem?_cons_succ, List.getElem?_nil, List.set_cons_zero, List.set_cons_succ, List.length_cons, List.length_nil, List.nil_append, List.cons_append, Option.toList_some, Option.toList_none, if_true, if_false, ite_true, ite_false, and_true, true_and, and_self, or_self, or_false, false_or, true_or, or_true, and_false, false_and, not_true_eq_false, not_false_eq_true, forall_const, ne_eq, reduceCtorEq, implies_true, false_implies, true_implies, Int.toNat_natCast, Nat.reduceAdd, Nat.reduceSub, Nat.reduceLT, Nat.reduceLeDiff, Nat.reduceEqDiff, Int.reduceLT, Int.reduceLE, Int.reduceToNat, Int.reduceNeg, Int.reduceEq, Int.reduceAdd, Nat.reduceMul, Int.reduceSub, Nat.reduceBEq, Int.reduceMul, Nat.add_zero, Nat.zero_add, Int.cast_ofNat_Int, Int.ofNat_eq_coe, decide_eq_true_eq, Nat.lt_irrefl, Nat.le_refl, List.getElem?_toArray, Option.elim_some, Option.elim_none, j_Mo_unit_0, j_Mo_unit_47, j_Mo_unit_78, j_Mo_unit_94, g_147, e1, e3, h42, t3, e4]
    · rw [if_neg c2] at e4 ⊢
      have k4 := q4.1
      refine ⟨pz_up (pz_up (pz_up (pz_up M3 147 3 (bl T n z.2 : Int)) 147 4 (bl T n z.2 : Int)) 147 3 ((bl T n z.2 : Int) + 1)) 147 5 D, ?_, Pe_t hF3 (Pe_t Pe_3 (Pe_t Pe_4 (Pe_t Pe_3 Pe_5))), by rw [u7_o (by decide), u7_o (by decide)]; exact u7_4, bl T n z.2 + 1, l + z.1.1.length, D, by rw [u7_o (by decide)]; exact u7_3, by omega, by omega, u7_5, Int.le_refl _, by omega, by rw [u7_c (by decide), u7_c (by decide), u7_c (by decide), u7_c (by decide)]; exact k4, by omega⟩
      generalize pz_up (pz_up (pz_up (pz_up M3 147 3 (bl T n z.2 : Int)) 147 4 (bl T n z.2 : Int)) 147 3 ((bl T n z.2 : Int) + 1)) 147 5 D = M4 at *
      simp (maxSteps := 1000000) (disch := omega) only [↓reduceIte, sp_0, sp_s, Option.map_some, Option.map_none, Option.some.injEq, o_le, o_nle, o_lt, o_nlt, o_eq, o_neq, w32_id, up_at, nw_at, nw_s, k_Mo_unit, px_iconst, px_bipush, px_sipush, px_ldc, px_ldc_w, px_lconst, px_ldc2_w, px_aconst_null, px_getstatic, px_iload_n, px_iload, px_lload_n, px_lload, px_aload_n, px_aload, px_istore_n, px_istore, px_astore_n, px_astore, px_lstore_n, px_lstore, px_iinc, px_iadd, px_isub, px_imul, px_iand, px_ior, px_ixor, px_ishl, px_ishr, px_iushr, px_ladd, px_lsub, px_lmul, px_land, px_lor, px_lcmp, px_lushr, px_lshl, px_ineg, px_i2l, px_l2i, px_idiv, px_irem, px_ldiv, px_lrem, px_dup0, px_pop0, px_dup2, px_pop2, px_dup2x, px_goto, px_if_eq, px_ic_eq, px_if_ne, px_ic_ne, px_if_lt, px_ic_lt, px_if_ge, px_ic_ge, px_if_gt, px_ic_gt, px_if_le, px_ic_le, px_ifnull, px_ifnonnull, px_lookupswitch, px_tableswitch, px_getfield, px_iaload, px_laload, px_caload, px_aaload, px_iastore, px_lastore, px_arraylength, px_putfield, px_ireturn, px_lreturn, px_areturn, px_return, px_iv0, px_is0, px_iv1, px_is1, px_iv2, px_is2, px_iv3, px_is3, px_iv4, px_is4, px_iv5, px_is5, px_iv6, px_is6, px_max, px_min, px_abs, px_maxJ, px_minJ, px_ii0, px_ii1, px_iio, px_copy, pz_cpk, pz_lk, pz_alk, pz_ask, pz_gfk, pz_lnk, pz_bx, pz_b, pz_z, pz_s1, pz_s2, pz_wt, pz_cmp, List.getElem?_cons_zero, List.getElem?_cons_succ, List.getElem?_nil, List.set_cons_zero, List.set_cons_succ, List.length_cons, List.length_nil, List.nil_append, List.cons_append, Option.toList_some, Option.toList_none, if_true, if_false, ite_true, ite_false, and_true, true_and, and_self, or_self, or_false, false_or, true_or, or_true, and_false, false_and, not_true_eq_false, not_false_eq_true, forall_const, ne_eq, reduceCtorEq, implies_true, false_implies, true_implies, Int.toNat_natCast, Nat.reduceAdd, Nat.reduceSub, Nat.reduceLT, Nat.reduceLeDiff, Nat.reduceEqDiff, Int.reduceLT, Int.reduceLE, Int.reduceToNat, Int.reduceNeg, Int.reduceEq, Int.reduceAdd, Nat.reduceMul, Int.reduceSub, Nat.reduceBEq, Int.reduceMul, Nat.add_zero, Nat.zero_add, Int.cast_ofNat_Int, Int.ofNat_eq_coe, decide_eq_true_eq, Nat.lt_irrefl, Nat.le_refl, List.getElem?_toArray, Option.elim_some, Option.elim_none, j_Mo_unit_0, j_Mo_unit_47, j_Mo_unit_78, j_Mo_unit_94, g_147, e1, e3, h42, t3, e4]
  | .inr w, r3, g1 =>
    obtain ⟨q1, q, l', D', q2, q3, q4, q5, q6, q7, q8, q9⟩ := r3
    have e4 := m_closes_w (d := d + 2) (ss := ss) (dd := dd) (c := 41) q2 (by omega) q1 (by omega) q5 (by omega)
    refine ⟨pz_up (pz_up M3 147 3 ((q : Int) + 1)) 147 5 (D' - 1), ?_, Pe_t hF3 (Pe_t Pe_3 Pe_5), by rw [u7_o (by decide), u7_o (by decide)]; exact q1, q + 1, l', D' - 1, by rw [u7_o (by decide)]; exact u7_3, by omega, by omega, u7_5, by omega, by omega, by rw [u7_c (by decide), u7_c (by decide)]; exact q8, by omega⟩
    generalize pz_up (pz_up M3 147 3 ((q : Int) + 1)) 147 5 (D' - 1) = M4 at *
    simp (maxSteps := 1000000) (disch := omega) only [↓reduceIte, sp_0, sp_s, Option.map_some, Option.map_none, Option.some.injEq, o_le, o_nle, o_lt, o_nlt, o_eq, o_neq, w32_id, up_at, nw_at, nw_s, k_Mo_unit, px_iconst, px_bipush, px_sipush, px_ldc, px_ldc_w, px_lconst, px_ldc2_w, px_aconst_null, px_getstatic, px_iload_n, px_iload, px_lload_n, px_lload, px_aload_n, px_aload, px_istore_n, px_istore, px_astore_n, px_astore, px_lstore_n, px_lstore, px_iinc, px_iadd, px_isub, px_imul, px_iand, px_ior, px_ixor, px_ishl, px_ishr, px_iushr, px_ladd, px_lsub, px_lmul, px_land, px_lor, px_lcmp, px_lushr, px_lshl, px_ineg, px_i2l, px_l2i, px_idiv, px_irem, px_ldiv, px_lrem, px_dup0, px_pop0, px_dup2, px_pop2, px_dup2x, px_goto, px_if_eq, px_ic_eq, px_if_ne, px_ic_ne, px_if_lt, px_ic_lt, px_if_ge, px_ic_ge, px_if_gt, px_ic_gt, px_if_le, px_ic_le, px_ifnull, px_ifnonnull, px_lookupswitch, px_tableswitch, px_getfield, px_iaload, px_laload, px_caload, px_aaload, px_iastore, px_lastore, px_arraylength, px_putfield, px_ireturn, px_lreturn, px_areturn, px_return, px_iv0, px_is0, px_iv1, px_is1, px_iv2, px_is2, px_iv3, px_is3, px_iv4, px_is4, px_iv5, px_is5, px_iv6, px_is6, px_max, px_min, px_abs, px_maxJ, px_minJ, px_ii0, px_ii1, px_iio, px_copy, pz_cpk, pz_lk, pz_alk, pz_ask, pz_gfk, pz_lnk, pz_bx, pz_b, pz_z, pz_s1, pz_s2, pz_wt, pz_cmp, List.getElem?_cons_zero, List.getElem?_cons_succ, List.getElem?_nil, List.set_cons_zero, List.set_cons_succ, List.length_cons, List.length_nil, List.nil_append, List.cons_append, Option.toList_some, Option.toList_none, if_true, if_false, ite_true, ite_false, and_true, true_and, and_self, or_self, or_false, false_or, true_or, or_true, and_false, false_and, not_true_eq_false, not_false_eq_true, forall_const, ne_eq, reduceCtorEq, implies_true, false_implies, true_implies, Int.toNat_natCast, Nat.reduceAdd, Nat.reduceSub, Nat.reduceLT, Nat.reduceLeDiff, Nat.reduceEqDiff, Int.reduceLT, Int.reduceLE, Int.reduceToNat, Int.reduceNeg, Int.reduceEq, Int.reduceAdd, Nat.reduceMul, Int.reduceSub, Nat.reduceBEq, Int.reduceMul, Nat.add_zero, Nat.zero_add, Int.cast_ofNat_Int, Int.ofNat_eq_coe, decide_eq_true_eq, Nat.lt_irrefl, Nat.le_refl, List.getElem?_toArray, Option.elim_some, Option.elim_none, j_Mo_unit_0, j_Mo_unit_47, j_Mo_unit_78, j_Mo_unit_94, g_147, e1, e3, h42, t3, e4]
set_option maxRecDepth 100000 in
theorem m_unit_j {t : Nat} (ht : t ≤ 4) : ∀ (j : Nat) (D : Int), 0 ≤ D → D + (j : Int) = 6 → ∀ (d : Nat) M p l, Sr M T n p l t D → ∃ M', pz_cal (d + 8 + 4 * j) 200 [(2, 147)] ((pz_SH, ss, 0, 0, dd), M) = some (none, ((pz_SH, ss, 0, 0, dd), M')) ∧ Rq M t n p l D j (gUn T n j p) M'
  | 0, D, hD0, hD, d => by
    intro M p l hS
    have hD6 : D = 6 := by omega
    subst hD6
    by_cases c : ch T n (bl T n p) = 33 ∨ ch T n (bl T n p) = 40
    · have r := m_unit_f (d := d + 4) (ss := ss) (dd := dd) ht M p l hS c
      have e : gUn T n 0 p = flt T n p := by
        unfold gUn unt
        rcases c with c | c
        · rw [if_pos c]
        · rw [if_neg (by omega), if_pos c]
      rw [e]
      exact r
    · exact m_unit_s (d := d + 2) (by omega) ht (by omega) (Gr_gSm 0) (gSm_bl 0) (m_sum_j ht 0 6 (by decide) (by decide) d) (m_sum_j ht 0 6 (by decide) (by decide) (d + 1)) M p l hS (fun h => c (.inl h)) (fun h => c (.inr h))
  | j + 1, D, hD0, hD, d => by
    intro M p l hS
    rw [show d + 8 + 4 * (j + 1) = (d + 4 * j + 6) + 6 by omega]
    by_cases c : ch T n (bl T n p) = 33
    · have u := m_unit_j ht j (D + 1) (by omega) (by omega) (d + 3)
      rw [show d + 3 + 8 + 4 * j = (d + 4 * j + 8) + 3 by omega] at u
      have r := m_unit_n (d := d + 4 * j + 8) (ss := ss) (dd := dd) (by omega) ht ⟨hD0, by omega⟩ (Gr_gUn j) u M p l hS c
      have e : gUn T n (j + 1) p = gNt T n (gUn T n j) p := by
        show unt T n (gNt T n (gUn T n j)) (fun p => inb T n (gCd T n (gUn T n j)) 41 (bl T n p + 1)) (gSm T n (j + 1)) p = _
        unfold unt
        rw [if_pos c]
      rw [e]
      exact r
    · by_cases c2 : ch T n (bl T n p) = 40
      · have u := m_unit_j ht j (D + 1) (by omega) (by omega)
        have co := m_condition (d := d + 4 * j + 5) (ss := ss) (dd := dd) (T := T) (n := n) (j := j) (D := D + 1) (by omega) ht (by omega) (Gr_gUn j) (fun k => by
          have := u (d + k)
          rw [show d + k + 8 + 4 * j = d + 4 * j + 5 + k + 3 by omega] at this
          exact this)
        have r := m_unit_p (d := d + 4 * j + 8) (ss := ss) (dd := dd) (by omega) ht ⟨hD0, by omega⟩ (Gr_gCd (T := T) (Gr_gUn j)) co M p l hS c2
        have e : gUn T n (j + 1) p = inb T n (gCd T n (gUn T n j)) 41 (bl T n p + 1) := by
          show unt T n (gNt T n (gUn T n j)) (fun p => inb T n (gCd T n (gUn T n j)) 41 (bl T n p + 1)) (gSm T n (j + 1)) p = _
          unfold unt
          rw [if_neg c, if_pos c2]
        rw [e]
        exact r
      · have s4 := m_sum_j (ss := ss) (dd := dd) (T := T) (n := n) ht (j + 1) D hD0 (by omega) (d + j + 1)
        have s5 := m_sum_j (ss := ss) (dd := dd) (T := T) (n := n) ht (j + 1) D hD0 (by omega) (d + j + 2)
        rw [show d + j + 1 + 6 + 3 * (j + 1) = (d + 4 * j + 6) + 4 by omega] at s4
        rw [show d + j + 2 + 6 + 3 * (j + 1) = (d + 4 * j + 6) + 5 by omega] at s5
        exact m_unit_s (d := d + 4 * j + 6) (by omega) ht (by omega) (Gr_gSm (j + 1)) (gSm_bl (j + 1)) s4 s5 M p l hS c c2
end P79
/-! THE REFERENCE READS A LAW: clauses -/
/-- what reading a clause of text t leaves -/
def Pr (t : Nat) (M M' : pz_M) : Prop := (∀ c, c ≠ 147 → (c < 149 ∨ 155 < c) → M' c = M c) ∧ (∀ j, j ≠ 3 → j ≠ 4 → j ≠ 5 → M' 147 j = M 147 j) ∧ (∀ i, (i < 520 * t ∨ 520 * t + 520 ≤ i) → M' 149 i = M 149 i ∧ M' 150 i = M 150 i) ∧ (∀ i, i ≠ t → M' 151 i = M 151 i ∧ M' 152 i = M 152 i) ∧ ∀ i, (i < 140 * t ∨ 140 * t + 140 ≤ i) → M' 153 i = M 153 i ∧ M' 154 i = M 154 i ∧ M' 155 i = M 155 i
theorem Pr_Pe {t : Nat} {M M' : pz_M} (h : Pe t M M') : Pr t M M' := by
  have e : ∀ c, 151 < c → M' c = M c := fun c hc => h.1 c (by omega) (by omega) (by omega) (by omega)
  exact ⟨fun c a b => h.1 c a (by omega) (by omega) (by omega), h.2.1, h.2.2.1, fun i hi => ⟨h.2.2.2 i hi, by rw [e 152 (by decide)]⟩, fun i _ => ⟨by rw [e 153 (by decide)], by rw [e 154 (by decide)], by rw [e 155 (by decide)]⟩⟩
theorem Pr_t {t : Nat} {M M1 M2 : pz_M} (h : Pr t M M1) (g : Pr t M1 M2) : Pr t M M2 := ⟨fun c a b => (g.1 c a b).trans (h.1 c a b), fun j a b x => (g.2.1 j a b x).trans (h.2.1 j a b x), fun i a => ⟨(g.2.2.1 i a).1.trans (h.2.2.1 i a).1, (g.2.2.1 i a).2.trans (h.2.2.1 i a).2⟩, fun i a => ⟨(g.2.2.2.1 i a).1.trans (h.2.2.2.1 i a).1, (g.2.2.2.1 i a).2.trans (h.2.2.2.1 i a).2⟩, fun i a => ⟨(g.2.2.2.2 i a).1.trans (h.2.2.2.2 i a).1, (g.2.2.2.2 i a).2.1.trans (h.2.2.2.2 i a).2.1, (g.2.2.2.2 i a).2.2.trans (h.2.2.2.2 i a).2.2⟩⟩
theorem Pr_up {t : Nat} {M : pz_M} {k j : Nat} {v : Int} (h : k = 152 ∧ j = t ∨ (k = 153 ∨ k = 154 ∨ k = 155) ∧ 140 * t ≤ j ∧ j < 140 * t + 140) : Pr t M (pz_up M k j v) := ⟨fun c a b => by funext z; rw [up_at, if_neg (by omega)], fun z a b x => by rw [up_at, if_neg (by omega)], fun i a => ⟨by rw [up_at, if_neg (by omega)], by rw [up_at, if_neg (by omega)]⟩, fun i a => ⟨by rw [up_at, if_neg (by omega)], by rw [up_at, if_neg (by omega)]⟩, fun i a => ⟨by rw [up_at, if_neg (by omega)], by rw [up_at, if_neg (by omega)], by rw [up_at, if_neg (by omega)]⟩⟩
theorem Rf_Pr {t : Nat} {M M' : pz_M} (h : Rf M) (q : Pr t M M') : Rf M' := Rf_of h (fun x hx => by
  have h1 : (x.1 < 149 ∨ 155 < x.1) ∧ (x.1 = 147 → x.2.1 ≠ 3 ∧ x.2.1 ≠ 4 ∧ x.2.1 ≠ 5) := (by decide +kernel : ∀ x ∈ rf_L, (x.1 < 149 ∨ 155 < x.1) ∧ (x.1 = 147 → x.2.1 ≠ 3 ∧ x.2.1 ≠ 4 ∧ x.2.1 ≠ 5)) x hx
  by_cases e : x.1 = 147
  · rw [e]; exact q.2.1 _ (h1.2 e).1 (h1.2 e).2.1 (h1.2 e).2.2
  · rw [q.1 _ e h1.1])
theorem TR_Pr {t : Nat} {M M' : pz_M} {T : Nat → Int} {n : Nat} (h : TR M T n) (q : Pr t M M') : TR M' T n := ⟨by rw [q.2.1 2 (by decide) (by decide) (by decide)]; exact h.1, h.2.1, fun i hi => by rw [q.1 148 (by decide) (by decide)]; exact h.2.2 i hi⟩
/-- the codes of a clause, and how many are its condition's -/
def xc (x : Option Ex × Ex) : List (Int × Int) := match x with
  | (none, s) => s.1
  | (some c, s) => c.1 ++ s.1
def xt (x : Option Ex × Ex) : Nat := match x with
  | (none, _) => 0
  | (some c, _) => c.1.length
/-- clause i of text t, its codes from l on -/
def CL (M : pz_M) (t i l : Nat) (x : Option Ex × Ex) : Prop := M 153 (140 * t + i) = (l : Int) ∧ M 154 (140 * t + i) = ((l + xt x : Nat) : Int) ∧ M 155 (140 * t + i) = ((l + (xc x).length : Nat) : Int) ∧ ∀ k u, (xc x)[k]? = some u → M 149 (520 * t + (l + k)) = u.1 ∧ M 150 (520 * t + (l + k)) = u.2
/-- what reading a clause comes to -/
def Rqc (M : pz_M) (t m l : Nat) (r : Rs (Option Ex × Ex)) (M' : pz_M) : Prop := Pr t M M' ∧ match r with
  | .inl z => M' 147 3 = (z.2 : Int) ∧ M' 147 4 = -1 ∧ M' 147 5 = 0 ∧ M' 152 t = ((m + 1 : Nat) : Int) ∧ M' 151 t = ((l + (xc z.1).length : Nat) : Int) ∧ CL M' t m l z.1 ∧ (∀ i, i < l → M' 149 (520 * t + i) = M 149 (520 * t + i) ∧ M' 150 (520 * t + i) = M 150 (520 * t + i)) ∧ ∀ i, i < m → M' 153 (140 * t + i) = M 153 (140 * t + i) ∧ M' 154 (140 * t + i) = M 154 (140 * t + i) ∧ M' 155 (140 * t + i) = M 155 (140 * t + i)
  | .inr w => M' 147 4 = (w : Int)
/-- the end of a clause -/
def fz (M : pz_M) (t m : Nat) : pz_M := pz_up (pz_up M 155 (140 * t + m) (M 151 t)) 152 t ((m : Int) + 1)
section P80
variable {d : Nat} {ss : List (Nat × Nat)} {dd : Nat} {T : Nat → Int} {n : Nat} {M : pz_M}
set_option maxRecDepth 100000 in
theorem m_cl_251 {t m : Nat} {b : Int} (hR : Rf M) (h14 : M 147 14 = (t : Int)) (ht : t ≤ 4) (h52 : M 152 t = (m : Int)) (hm : m < 140) : pz_p bl_Mo_clause (pz_cal (d + 1)) 0 0 251 [] [(2, 147), (0, 140 * (t : Int) + m), (0, b)] [] ((pz_SH, ss, 0, 0, dd), M) = some (none, ((pz_SH, ss, 0, 0, dd), fz M t m)) := by
  have e1 : ((140 : Int) * t + m).toNat = 140 * t + m := by omega
  unfold fz
  rw [j_Mo_clause_251]
  simp (maxSteps := 1000000) (disch := omega) only [↓reduceIte, sp_0, sp_s, Option.map_some, Option.map_none, Option.some.injEq, o_le, o_nle, o_lt, o_nlt, o_eq, o_neq, w32_id, up_at, nw_at, nw_s, px_iconst, px_bipush, px_sipush, px_ldc, px_ldc_w, px_lconst, px_ldc2_w, px_aconst_null, px_getstatic, px_iload_n, px_iload, px_lload_n, px_lload, px_aload_n, px_aload, px_istore_n, px_istore, px_astore_n, px_astore, px_lstore_n, px_lstore, px_iinc, px_iadd, px_isub, px_imul, px_iand, px_ior, px_ixor, px_ishl, px_ishr, px_iushr, px_ladd, px_lsub, px_lmul, px_land, px_lor, px_lcmp, px_lushr, px_lshl, px_ineg, px_i2l, px_l2i, px_idiv, px_irem, px_ldiv, px_lrem, px_dup0, px_pop0, px_dup2, px_pop2, px_dup2x, px_goto, px_if_eq, px_ic_eq, px_if_ne, px_ic_ne, px_if_lt, px_ic_lt, px_if_ge, px_ic_ge, px_if_gt, px_ic_gt, px_if_le, px_ic_le, px_ifnull, px_ifnonnull, px_lookupswitch, px_tableswitch, px_getfield, px_iaload, px_laload, px_caload, px_aaload, px_iastore, px_lastore, px_arraylength, px_putfield, px_ireturn, px_lreturn, px_areturn, px_return, px_iv0, px_is0, px_iv1, px_is1, px_iv2, px_is2, px_iv3, px_is3, px_iv4, px_is4, px_iv5, px_is5, px_iv6, px_is6, px_max, px_min, px_abs, px_maxJ, px_minJ, px_ii0, px_ii1, px_iio, px_copy, pz_cpk, pz_lk, pz_alk, pz_ask, pz_gfk, pz_lnk, pz_bx, pz_b, pz_z, pz_s1, pz_s2, pz_wt, pz_cmp, List.getElem?_cons_zero, List.getElem?_cons_succ, List.getElem?_nil, List.set_cons_zero, List.set_cons_succ, List.length_cons, List.length_nil, List.nil_append, List.cons_append, Option.toList_some, Option.toList_none, if_true, if_false, ite_true, ite_false, and_true, true_and, and_self, or_self, or_false, false_or, true_or, or_true, and_false, false_and, not_true_eq_false, not_false_eq_true, forall_const, ne_eq, reduceCtorEq, implies_true, false_implies, true_implies, Int.toNat_natCast, Nat.reduceAdd, Nat.reduceSub, Nat.reduceLT, Nat.reduceLeDiff, Nat.reduceEqDiff, Int.reduceLT, Int.reduceLE, Int.reduceToNat, Int.reduceNeg, Int.reduceEq, Int.reduceAdd, Nat.reduceMul, Int.reduceSub, Nat.reduceBEq, Int.reduceMul, Nat.add_zero, Nat.zero_add, Int.cast_ofNat_Int, Int.ofNat_eq_coe, decide_eq_true_eq, Nat.lt_irrefl, Nat.le_refl, List.getElem?_toArray, Option.elim_some, Option.elim_none, g_147, g_151, g_152, g_155, rf_147_8 hR, rf_147_9 hR, rf_147_12 hR, h14, h52, e1]
set_option maxRecDepth 100000 in
theorem m_cl_184 {t m : Nat} {b : Int} (hR : Rf M) (h14 : M 147 14 = (t : Int)) (ht : t ≤ 4) (h52 : M 152 t = (m : Int)) (hm : m < 140) (hb : b = 0 ∨ b = 1 ∧ 0 ≤ M 147 4) : pz_p bl_Mo_clause (pz_cal (d + 1)) 0 0 184 [] [(2, 147), (0, 140 * (t : Int) + m), (0, b)] [] ((pz_SH, ss, 0, 0, dd), M) = some (none, ((pz_SH, ss, 0, 0, dd), fz (pz_up M 154 (140 * t + m) (M 153 (140 * t + m))) t m)) := by
  have e1 : ((140 : Int) * t + m).toNat = 140 * t + m := by omega
  have hP : Pr t M (pz_up M 154 (140 * t + m) (M 153 (140 * t + m))) := Pr_up (.inr ⟨.inr (.inl rfl), by omega, by omega⟩)
  have k4 : pz_up M 154 (140 * t + m) (M 153 (140 * t + m)) 147 4 = M 147 4 := by rw [up_at, if_neg (by omega)]
  have e2 := m_cl_251 (d := d) (ss := ss) (dd := dd) (M := pz_up M 154 (140 * t + m) (M 153 (140 * t + m))) (t := t) (m := m) (b := b) (Rf_Pr hR hP) (by rw [up_at, if_neg (by omega)]; exact h14) ht (by rw [up_at, if_neg (by omega)]; exact h52) hm
  generalize hM1 : pz_up M 154 (140 * t + m) (M 153 (140 * t + m)) = M1 at *
  rw [← e2]
  rcases hb with hb | ⟨hb, h4⟩
  · subst hb
    rw [j_Mo_clause_184]
    simp (maxSteps := 1000000) (disch := omega) only [↓reduceIte, sp_0, sp_s, Option.map_some, Option.map_none, Option.some.injEq, o_le, o_nle, o_lt, o_nlt, o_eq, o_neq, w32_id, nw_s, px_iconst, px_bipush, px_sipush, px_ldc, px_ldc_w, px_lconst, px_ldc2_w, px_aconst_null, px_getstatic, px_iload_n, px_iload, px_lload_n, px_lload, px_aload_n, px_aload, px_istore_n, px_istore, px_astore_n, px_astore, px_lstore_n, px_lstore, px_iinc, px_iadd, px_isub, px_imul, px_iand, px_ior, px_ixor, px_ishl, px_ishr, px_iushr, px_ladd, px_lsub, px_lmul, px_land, px_lor, px_lcmp, px_lushr, px_lshl, px_ineg, px_i2l, px_l2i, px_idiv, px_irem, px_ldiv, px_lrem, px_dup0, px_pop0, px_dup2, px_pop2, px_dup2x, px_goto, px_if_eq, px_ic_eq, px_if_ne, px_ic_ne, px_if_lt, px_ic_lt, px_if_ge, px_ic_ge, px_if_gt, px_ic_gt, px_if_le, px_ic_le, px_ifnull, px_ifnonnull, px_lookupswitch, px_tableswitch, px_getfield, px_iaload, px_laload, px_caload, px_aaload, px_iastore, px_lastore, px_arraylength, px_putfield, px_ireturn, px_lreturn, px_areturn, px_return, px_iv0, px_is0, px_iv1, px_is1, px_iv2, px_is2, px_iv3, px_is3, px_iv4, px_is4, px_iv5, px_is5, px_iv6, px_is6, px_max, px_min, px_abs, px_maxJ, px_minJ, px_ii0, px_ii1, px_iio, px_copy, pz_cpk, pz_lk, pz_alk, pz_ask, pz_gfk, pz_lnk, pz_bx, pz_b, pz_z, pz_s1, pz_s2, pz_wt, pz_cmp, List.getElem?_cons_zero, List.getElem?_cons_succ, List.getElem?_nil, List.set_cons_zero, List.set_cons_succ, List.length_cons, List.length_nil, List.nil_append, List.cons_append, Option.toList_some, Option.toList_none, if_true, if_false, ite_true, ite_false, and_true, true_and, and_self, or_self, or_false, false_or, true_or, or_true, and_false, false_and, not_true_eq_false, not_false_eq_true, forall_const, ne_eq, reduceCtorEq, implies_true, false_implies, true_implies, Int.toNat_natCast, Nat.reduceAdd, Nat.reduceSub, Nat.reduceLT, Nat.reduceLeDiff, Nat.reduceEqDiff, Int.reduceLT, Int.reduceLE, Int.reduceToNat, Int.reduceNeg, Int.reduceEq, Int.reduceAdd, Nat.reduceMul, Int.reduceSub, Nat.reduceBEq, Int.reduceMul, Nat.add_zero, Nat.zero_add, Int.cast_ofNat_Int, Int.ofNat_eq_coe, decide_eq_true_eq, Nat.lt_irrefl, Nat.le_refl, List.getElem?_toArray, Option.elim_some, Option.elim_none, g_147, g_153, g_154, rf_147_10 hR, rf_147_11 hR, e1, hM1]
  · subst hb
    rw [← k4] at h4
    rw [j_Mo_clause_184]
    simp (maxSteps := 1000000) (disch := omega) only [↓reduceIte, sp_0, sp_s, Option.map_some, Option.map_none, Option.some.injEq, o_le, o_nle, o_lt, o_nlt, o_eq, o_neq, w32_id, nw_s, px_iconst, px_bipush, px_sipush, px_ldc, px_ldc_w, px_lconst, px_ldc2_w, px_aconst_null, px_getstatic, px_iload_n, px_iload, px_lload_n, px_lload, px_aload_n, px_aload, px_istore_n, px_istore, px_astore_n, px_astore, px_lstore_n, px_lstore, px_iinc, px_iadd, px_isub, px_imul, px_iand, px_ior, px_ixor, px_ishl, px_ishr, px_iushr, px_ladd, px_lsub, px_lmul, px_land, px_lor, px_lcmp, px_lushr, px_lshl, px_ineg, px_i2l, px_l2i, px_idiv, px_irem, px_ldiv, px_lrem, px_dup0, px_pop0, px_dup2, px_pop2, px_dup2x, px_goto, px_if_eq, px_ic_eq, px_if_ne, px_ic_ne, px_if_lt, px_ic_lt, px_if_ge, px_ic_ge, px_if_gt, px_ic_gt, px_if_le, px_ic_le, px_ifnull, px_ifnonnull, px_lookupswitch, px_tableswitch, px_getfield, px_iaload, px_laload, px_caload, px_aaload, px_iastore, px_lastore, px_arraylength, px_putfield, px_ireturn, px_lreturn, px_areturn, px_return, px_iv0, px_is0, px_iv1, px_is1, px_iv2, px_is2, px_iv3, px_is3, px_iv4, px_is4, px_iv5, px_is5, px_iv6, px_is6, px_max, px_min, px_abs, px_maxJ, px_minJ, px_ii0, px_ii1, px_iio, px_copy, pz_cpk, pz_lk, pz_alk, pz_ask, pz_gfk, pz_lnk, pz_bx, pz_b, pz_z, pz_s1, pz_s2, pz_wt, pz_cmp, List.getElem?_cons_zero, List.getElem?_cons_succ, List.getElem?_nil, List.set_cons_zero, List.set_cons_succ, List.length_cons, List.length_nil, List.nil_append, List.cons_append, Option.toList_some, Option.toList_none, if_true, if_false, ite_true, ite_false, and_true, true_and, and_self, or_self, or_false, false_or, true_or, or_true, and_false, false_and, not_true_eq_false, not_false_eq_true, forall_const, ne_eq, reduceCtorEq, implies_true, false_implies, true_implies, Int.toNat_natCast, Nat.reduceAdd, Nat.reduceSub, Nat.reduceLT, Nat.reduceLeDiff, Nat.reduceEqDiff, Int.reduceLT, Int.reduceLE, Int.reduceToNat, Int.reduceNeg, Int.reduceEq, Int.reduceAdd, Nat.reduceMul, Int.reduceSub, Nat.reduceBEq, Int.reduceMul, Nat.add_zero, Nat.zero_add, Int.cast_ofNat_Int, Int.ofNat_eq_coe, decide_eq_true_eq, Nat.lt_irrefl, Nat.le_refl, List.getElem?_toArray, Option.elim_some, Option.elim_none, g_147, g_153, g_154, rf_147_10 hR, rf_147_11 hR, e1, hM1]
theorem fz_o {t m c : Nat} (h : c ≠ 155) (h2 : c ≠ 152) : fz M t m c = M c := by unfold fz; funext z; rw [up_at, if_neg (by omega), up_at, if_neg (by omega)]
theorem Pr_fz {t m : Nat} (hm : m < 140) : Pr t M (fz M t m) := Pr_t (Pr_up (.inr ⟨.inr (.inr rfl), by omega, by omega⟩)) (Pr_up (.inl ⟨rfl, rfl⟩))
theorem fz_152 {t m : Nat} : fz M t m 152 t = ((m + 1 : Nat) : Int) := by unfold fz; rw [up_at, if_pos ⟨rfl, rfl⟩]; rfl
theorem fz_155 {t m : Nat} : fz M t m 155 (140 * t + m) = M 151 t := by unfold fz; rw [up_at, if_neg (by omega), up_at, if_pos ⟨rfl, rfl⟩]
theorem fz_155o {t m i : Nat} (h : i ≠ 140 * t + m) : fz M t m 155 i = M 155 i := by unfold fz; rw [up_at, if_neg (by omega), up_at, if_neg (by omega)]
set_option maxRecDepth 100000 in
/-- behind a condition -/
theorem m_cl_some {t m p0 l0 p : Nat} {e : Ex} {M0 : pz_M} (ht : t ≤ 4) (hm : m < 140) (hB : Br M0 M T n t p0 l0 0 e p) (h52 : M 152 t = (m : Int)) (h53 : M 153 (140 * t + m) = (l0 : Int)) : ∃ M', pz_p bl_Mo_clause (pz_cal (d + 25)) 0 0 184 [] [(2, 147), (0, 140 * (t : Int) + m), (0, 1)] [] ((pz_SH, ss, 0, 0, dd), M) = some (none, ((pz_SH, ss, 0, 0, dd), M')) ∧ Pr t M M' ∧ match gRs T n e p with
    | .inl z => M' 147 3 = (z.2 : Int) ∧ M' 147 4 = -1 ∧ M' 147 5 = 0 ∧ M' 152 t = ((m + 1 : Nat) : Int) ∧ M' 151 t = ((l0 + (xc z.1).length : Nat) : Int) ∧ CL M' t m l0 z.1 ∧ (∀ i, i < l0 → M' 149 (520 * t + i) = M0 149 (520 * t + i) ∧ M' 150 (520 * t + i) = M0 150 (520 * t + i)) ∧ ∀ i, i < m → M' 153 (140 * t + i) = M 153 (140 * t + i) ∧ M' 154 (140 * t + i) = M 154 (140 * t + i) ∧ M' 155 (140 * t + i) = M 155 (140 * t + i)
    | .inr w => M' 147 4 = (w : Int) := by
  obtain ⟨hR0, hT0, h014, hl0, hF, h3, hp, h4, h5, hAp, hl⟩ := hB
  have n240 := hT0.2.1
  have hR := Rf_Pe hR0 hF
  have hT := TR_Pe hT0 hF
  have h14 : M 147 14 = (t : Int) := by rw [hF.2.1 14 (by decide) (by decide) (by decide)]; exact h014
  have b1 := bl_le (T := T) hp
  have b2 := bl_ge (T := T) (n := n) (p := p)
  have e1 : ((140 : Int) * t + m).toNat = 140 * t + m := by omega
  have hP1 : Pr t M (pz_up M 154 (140 * t + m) (M 153 (140 * t + m))) := Pr_up (.inr ⟨.inr (.inl rfl), by omega, by omega⟩)
  have o1 : ∀ c, c ≠ 154 → pz_up M 154 (140 * t + m) (M 153 (140 * t + m)) c = M c := fun c hc => by funext z; rw [up_at, if_neg (by omega)]
  have o1b : ∀ i, i ≠ 140 * t + m → pz_up M 154 (140 * t + m) (M 153 (140 * t + m)) 154 i = M 154 i := fun i hi => by rw [up_at, if_neg (by omega)]
  generalize hM1 : pz_up M 154 (140 * t + m) (M 153 (140 * t + m)) = M1 at *
  have hR1 := Rf_Pr hR hP1
  have hT1 := TR_Pr hT hP1
  have h41 : M1 147 4 = -1 := by rw [o1 147 (by decide)]; exact h4
  have h31 : M1 147 3 = (p : Int) := by rw [o1 147 (by decide)]; exact h3
  have e2 := m_look (d := d + 23) (ss := ss) (dd := dd) hR1 hT1 h31 hp
  have h32 : pz_up M1 147 3 (bl T n p : Int) 147 3 = (bl T n p : Int) := u7_3
  have h42 : pz_up M1 147 3 (bl T n p : Int) 147 4 = -1 := by rw [u7_o (by decide)]; exact h41
  unfold gRs
  by_cases c : ch T n (bl T n p) = 63
  · rw [if_pos c]
    rw [c] at e2
    have b3 : bl T n p < n := ch_lt c (by decide)
    have k8 : pz_up (pz_up M1 147 3 (bl T n p : Int)) 147 3 ((bl T n p : Int) + 1) = pz_up M1 147 3 ((bl T n p : Int) + 1) := up_up2
    have q0 : M 151 t = ((l0 + e.1.length : Nat) : Int) := hAp.1
    have h513 : pz_up M1 147 3 ((bl T n p : Int) + 1) 151 t = ((l0 + e.1.length : Nat) : Int) := by rw [u7_c (by decide), o1 151 (by decide)]; exact q0
    have h143 : pz_up M1 147 3 ((bl T n p : Int) + 1) 147 14 = (t : Int) := by rw [u7_o (by decide), o1 147 (by decide)]; exact h14
    have hP3 : Pr t M (pz_up M1 147 3 ((bl T n p : Int) + 1)) := Pr_t hP1 (Pr_Pe Pe_3)
    have hR3 := Rf_Pr hR hP3
    have h33 : pz_up M1 147 3 ((bl T n p : Int) + 1) 147 3 = ((bl T n p + 1 : Nat) : Int) := u7_3
    have h43 : pz_up M1 147 3 ((bl T n p : Int) + 1) 147 4 = -1 := by rw [u7_o (by decide)]; exact h41
    have h53' : pz_up M1 147 3 ((bl T n p : Int) + 1) 147 5 = 0 := by rw [u7_o (by decide), o1 147 (by decide)]; exact h5
    have o3 : ∀ c, c ≠ 147 → pz_up M1 147 3 ((bl T n p : Int) + 1) c = M1 c := fun c hc => u7_c hc
    generalize pz_up M1 147 3 ((bl T n p : Int) + 1) = M3 at *
    have hP4 : Pr t M (pz_up M3 154 (140 * t + m) ((l0 + e.1.length : Nat) : Int)) := Pr_t hP3 (Pr_up (.inr ⟨.inr (.inl rfl), by omega, by omega⟩))
    have o4 : ∀ c, c ≠ 154 → pz_up M3 154 (140 * t + m) ((l0 + e.1.length : Nat) : Int) c = M3 c := fun c hc => by funext z; rw [up_at, if_neg (by omega)]
    have o4b : ∀ i, i ≠ 140 * t + m → pz_up M3 154 (140 * t + m) ((l0 + e.1.length : Nat) : Int) 154 i = M3 154 i := fun i hi => by rw [up_at, if_neg (by omega)]
    have v4 : pz_up M3 154 (140 * t + m) ((l0 + e.1.length : Nat) : Int) 154 (140 * t + m) = ((l0 + e.1.length : Nat) : Int) := by rw [up_at, if_pos ⟨rfl, rfl⟩]
    generalize hM4 : pz_up M3 154 (140 * t + m) ((l0 + e.1.length : Nat) : Int) = M4 at *
    obtain ⟨M5, t5, f5, r5⟩ := m_sum_j (ss := ss) (dd := dd) (T := T) (n := n) ht 6 0 (by decide) (by decide) (d + 1) M4 (bl T n p + 1) (l0 + e.1.length) ⟨Rf_Pr hR hP4, TR_Pr hT hP4, by rw [o4 147 (by decide)]; exact h33, by omega, by rw [o4 147 (by decide)]; exact h43, by rw [o4 147 (by decide)]; exact h53', by rw [o4 147 (by decide)]; exact h143, by rw [o4 151 (by decide)]; exact h513, by omega⟩
    have t5 : pz_cal (d + 25) 204 [(2, 147)] ((pz_SH, ss, 0, 0, dd), M4) = some (none, ((pz_SH, ss, 0, 0, dd), M5)) := t5
    have hP5 := Pr_t hP4 (Pr_Pe f5)
    have h145 : M5 147 14 = (t : Int) := by rw [hP5.2.1 14 (by decide) (by decide) (by decide)]; exact h14
    have h525 : M5 152 t = (m : Int) := by rw [f5.1 152 (by decide) (by decide) (by decide) (by decide), o4 152 (by decide), o3 152 (by decide), o1 152 (by decide)]; exact h52
    have e6 := m_cl_251 (d := d + 24) (ss := ss) (dd := dd) (b := 1) (Rf_Pr hR hP5) h145 ht h525 hm
    have e6 : pz_p bl_Mo_clause (pz_cal (d + 25)) 0 0 251 [] [(2, 147), (0, 140 * (t : Int) + m), (0, 1)] [] ((pz_SH, ss, 0, 0, dd), M5) = some (none, ((pz_SH, ss, 0, 0, dd), fz M5 t m)) := e6
    have run : pz_p bl_Mo_clause (pz_cal (d + 25)) 0 0 184 [] [(2, 147), (0, 140 * (t : Int) + m), (0, 1)] [] ((pz_SH, ss, 0, 0, dd), M) = some (none, ((pz_SH, ss, 0, 0, dd), fz M5 t m)) := by
      rw [← e6]
      generalize pz_up M1 147 3 (bl T n p : Int) = M2 at *
      rw [j_Mo_clause_184]
      simp (maxSteps := 1000000) (disch := omega) only [↓reduceIte, sp_0, sp_s, Option.map_some, Option.map_none, Option.some.injEq, o_le, o_nle, o_lt, o_nlt, o_eq, o_neq, w32_id, nw_s, px_iconst, px_bipush, px_sipush, px_ldc, px_ldc_w, px_lconst, px_ldc2_w, px_aconst_null, px_getstatic, px_iload_n, px_iload, px_lload_n, px_lload, px_aload_n, px_aload, px_istore_n, px_istore, px_astore_n, px_astore, px_lstore_n, px_lstore, px_iinc, px_iadd, px_isub, px_imul, px_iand, px_ior, px_ixor, px_ishl, px_ishr, px_iushr, px_ladd, px_lsub, px_lmul, px_land, px_lor, px_lcmp, px_lushr, px_lshl, px_ineg, px_i2l, px_l2i, px_idiv, px_irem, px_ldiv, px_lrem, px_dup0, px_pop0, px_dup2, px_pop2, px_dup2x, px_goto, px_if_eq, px_ic_eq, px_if_ne, px_ic_ne, px_if_lt, px_ic_lt, px_if_ge, px_ic_ge, px_if_gt, px_ic_gt, px_if_le, px_ic_le, px_ifnull, px_ifnonnull, px_lookupswitch, px_tableswitch, px_getfield, px_iaload, px_laload, px_caload, px_aaload, px_iastore, px_lastore, px_arraylength, px_putfield, px_ireturn, px_lreturn, px_areturn, px_return, px_iv0, px_is0, px_iv1, px_is1, px_iv2, px_is2, px_iv3, px_is3, px_iv4, px_is4, px_iv5, px_is5, px_iv6, px_is6, px_max, px_min, px_abs, px_maxJ, px_minJ, px_ii0, px_ii1, px_iio, px_copy, pz_cpk, pz_lk, pz_alk, pz_ask, pz_gfk, pz_lnk, pz_bx, pz_b, pz_z, pz_s1, pz_s2, pz_wt, pz_cmp, List.getElem?_cons_zero, List.getElem?_cons_succ, List.getElem?_nil, List.set_cons_zero, List.set_cons_succ, List.length_cons, List.length_nil, List.nil_append, List.cons_append, Option.toList_some, Option.toList_none, if_true, if_false, ite_true, ite_false, and_true, true_and, and_self, or_self, or_false, false_or, true_or, or_true, and_false, false_and, not_true_eq_false, not_false_eq_true, forall_const, ne_eq, reduceCtorEq, implies_true, false_implies, true_implies, Int.toNat_natCast, Nat.reduceAdd, Nat.reduceSub, Nat.reduceLT, Nat.reduceLeDiff, Nat.reduceEqDiff, Int.reduceLT, Int.reduceLE, Int.reduceToNat, Int.reduceNeg, Int.reduceEq, Int.reduceAdd, Nat.reduceMul, Int.reduceSub, Nat.reduceBEq, Int.reduceMul, Nat.add_zero, Nat.zero_add, Int.cast_ofNat_Int, Int.ofNat_eq_coe, decide_eq_true_eq, Nat.lt_irrefl, Nat.le_refl, List.getElem?_toArray, Option.elim_some, Option.elim_none, j_Mo_clause_222, g_147, g_151, g_153, g_154, rf_147_10 hR, rf_147_11 hR, rf_147_8 hR3, rf_147_11 hR3, e1, hM1, h41, e2, h32, k8, h143, h513, hM4, t5]
    refine ⟨fz M5 t m, run, Pr_t hP5 (Pr_fz hm), ?_⟩
    match hz : gSm T n 6 (bl T n p + 1), r5 with
    | .inl z, r5 =>
      obtain ⟨q1, q2, q3, q4⟩ := r5
      have x1 : xc (some e, z.1) = e.1 ++ z.1.1 := rfl
      have k151 : fz M5 t m 151 t = ((l0 + (e.1 ++ z.1.1).length : Nat) : Int) := by rw [fz_o (by decide) (by decide), q4.1, List.length_append]; congr 1; omega
      have k9 : M4 149 = M 149 := by rw [o4 149 (by decide), o3 149 (by decide), o1 149 (by decide)]
      have k10 : M4 150 = M 150 := by rw [o4 150 (by decide), o3 150 (by decide), o1 150 (by decide)]
      have A5 : Am2 M0 M5 t l0 (e.1 ++ z.1.1) := Am2_t hAp (Am2_base q4 k9 k10)
      refine ⟨by rw [fz_o (by decide) (by decide)]; exact q1, by rw [fz_o (by decide) (by decide)]; exact q2, by rw [fz_o (by decide) (by decide)]; exact q3, fz_152, k151, ⟨?_, ?_, ?_, ?_⟩, ?_, ?_⟩
      · rw [fz_o (by decide) (by decide), f5.1 153 (by decide) (by decide) (by decide) (by decide), o4 153 (by decide), o3 153 (by decide), o1 153 (by decide)]; exact h53
      · rw [fz_o (by decide) (by decide), f5.1 154 (by decide) (by decide) (by decide) (by decide)]; exact v4
      · rw [fz_155, ← fz_o (M := M5) (t := t) (m := m) (c := 151) (by decide) (by decide)]; exact k151
      · intro k u hk
        rw [fz_o (by decide) (by decide), fz_o (by decide) (by decide)]
        exact A5.2.2 k u hk
      · intro i hi
        rw [fz_o (by decide) (by decide), fz_o (by decide) (by decide)]
        exact A5.2.1 i hi
      · intro i hi
        rw [fz_o (by decide) (by decide), fz_o (by decide) (by decide), fz_155o (by omega), f5.1 153 (by decide) (by decide) (by decide) (by decide), f5.1 154 (by decide) (by decide) (by decide) (by decide), f5.1 155 (by decide) (by decide) (by decide) (by decide), o4 153 (by decide), o4 155 (by decide), o4b _ (by omega), o3 153 (by decide), o3 154 (by decide), o3 155 (by decide), o1 153 (by decide), o1 155 (by decide), o1b _ (by omega)]
        exact ⟨rfl, rfl, rfl⟩
    | .inr w, r5 =>
      show fz M5 t m 147 4 = (w : Int)
      rw [fz_o (by decide) (by decide)]
      exact r5.1
  · rw [if_neg c]
    have e3 := m_bad (d := d + 24) (ss := ss) (dd := dd) h32 h42
    refine ⟨pz_up (pz_up M1 147 3 (bl T n p : Int)) 147 4 (bl T n p : Int), ?_, Pr_t hP1 (Pr_Pe (Pe_t Pe_3 Pe_4)), u7_4⟩
    generalize ch T n (bl T n p) = cc at *
    generalize pz_up (pz_up M1 147 3 (bl T n p : Int)) 147 4 (bl T n p : Int) = M3 at *
    generalize pz_up M1 147 3 (bl T n p : Int) = M2 at *
    rw [j_Mo_clause_184]
    simp (maxSteps := 1000000) (disch := omega) only [↓reduceIte, sp_0, sp_s, Option.map_some, Option.map_none, Option.some.injEq, o_le, o_nle, o_lt, o_nlt, o_eq, o_neq, w32_id, nw_s, px_iconst, px_bipush, px_sipush, px_ldc, px_ldc_w, px_lconst, px_ldc2_w, px_aconst_null, px_getstatic, px_iload_n, px_iload, px_lload_n, px_lload, px_aload_n, px_aload, px_istore_n, px_istore, px_astore_n, px_astore, px_lstore_n, px_lstore, px_iinc, px_iadd, px_isub, px_imul, px_iand, px_ior, px_ixor, px_ishl, px_ishr, px_iushr, px_ladd, px_lsub, px_lmul, px_land, px_lor, px_lcmp, px_lushr, px_lshl, px_ineg, px_i2l, px_l2i, px_idiv, px_irem, px_ldiv, px_lrem, px_dup0, px_pop0, px_dup2, px_pop2, px_dup2x, px_goto, px_if_eq, px_ic_eq, px_if_ne, px_ic_ne, px_if_lt, px_ic_lt, px_if_ge, px_ic_ge, px_if_gt, px_ic_gt, px_if_le, px_ic_le, px_ifnull, px_ifnonnull, px_lookupswitch, px_tableswitch, px_getfield, px_iaload, px_laload, px_caload, px_aaload, px_iastore, px_lastore, px_arraylength, px_putfield, px_ireturn, px_lreturn, px_areturn, px_return, px_iv0, px_is0, px_iv1, px_is1, px_iv2, px_is2, px_iv3, px_is3, px_iv4, px_is4, px_iv5, px_is5, px_iv6, px_is6, px_max, px_min, px_abs, px_maxJ, px_minJ, px_ii0, px_ii1, px_iio, px_copy, pz_cpk, pz_lk, pz_alk, pz_ask, pz_gfk, pz_lnk, pz_bx, pz_b, pz_z, pz_s1, pz_s2, pz_wt, pz_cmp, List.getElem?_cons_zero, List.getElem?_cons_succ, List.getElem?_nil, List.set_cons_zero, List.set_cons_succ, List.length_cons, List.length_nil, List.nil_append, List.cons_append, Option.toList_some, Option.toList_none, if_true, if_false, ite_true, ite_false, and_true, true_and, and_self, or_self, or_false, false_or, true_or, or_true, and_false, false_and, not_true_eq_false, not_false_eq_true, forall_const, ne_eq, reduceCtorEq, implies_true, false_implies, true_implies, Int.toNat_natCast, Nat.reduceAdd, Nat.reduceSub, Nat.reduceLT, Nat.reduceLeDiff, Nat.reduceEqDiff, Int.reduceLT, Int.reduceLE, Int.reduceToNat, Int.reduceNeg, Int.reduceEq, Int.reduceAdd, Nat.reduceMul, Int.reduceSub, Nat.reduceBEq, Int.reduceMul, Nat.add_zero, Nat.zero_add, Int.cast_ofNat_Int, Int.ofNat_eq_coe, decide_eq_true_eq, Nat.lt_irrefl, Nat.le_refl, List.getElem?_toArray, Option.elim_some, Option.elim_none, j_Mo_clause_222, g_147, g_151, g_153, g_154, rf_147_10 hR, rf_147_11 hR, e1, hM1, h41, e2, e3]
end P80
