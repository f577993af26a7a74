/-! THE CLASS READS A LAW: brackets, sums of every depth -/
section P66
variable {d : Nat} {ss : List (Nat × Nat)} {dd : Nat} {T : Nat → Int} {n : Nat}
set_option maxRecDepth 100000 in
theorem c_atom_6 (hss : ∀ M', pz_sh ((pz_SH, ss, 0, 0, dd), M') 4105 = some (112, 8)) : ∀ M p l, Sc M T n p l → LLt M → Rc M l (fun v M' => some (some (0, v), ((pz_SH, ss, 0, 0, dd), M'))) (pz_cal (d + 3) 39 [(2, 6), (0, 6)] ((pz_SH, ss, 0, 0, dd), M)) (atm T n (flt T n) p) := by
  intro M p l hS hL
  by_cases c1 : ch T n (bl T n p) = 91
  · obtain ⟨hR, hT, h2, hp, h62, hl⟩ := hS
    have n240 := hT.2.1
    have e1 := c_sign (d := d + 1) (ss := ss) (dd := dd) hR hT h2 hp
    have hF1 : Pf M (pz_up M 1 2 (bl T n p : Int)) := Pf_up (.inl ⟨rfl, .inl rfl⟩)
    have hR1 := Rf_Pf hR hF1
    have e2 := c_fail (d := d + 1) (ss := ss) (dd := dd) (M := pz_up M 1 2 (bl T n p : Int)) (p := (bl T n p : Int)) (by rw [up_at, if_pos ⟨rfl, rfl⟩])
    unfold atm
    rw [if_pos c1]
    rw [c1] at e1
    refine ⟨pz_up (pz_up M 1 2 (bl T n p : Int)) 1 3 (bl T n p : Int), ?_, Pf_t hF1 (Pf_up (.inl ⟨rfl, .inr rfl⟩)), by rw [up_at, if_pos ⟨rfl, rfl⟩], l, by rw [up_at, if_neg (by omega), up_at, if_neg (by omega)]; exact h62, by omega⟩
    show _ = some (some (0, 0), ((pz_SH, ss, 0, 0, dd), pz_up (pz_up M 1 2 (bl T n p : Int)) 1 3 (bl T n p : Int)))
    generalize pz_up M 1 2 (bl T n p : Int) = M1 at *
    simp (maxSteps := 1000000) (disch := omega) only [↓reduceIte, sp_0, sp_s, Option.map_some, Option.map_none, Option.some.injEq, o_le, o_nle, o_lt, o_nlt, o_eq, o_neq, w32_id, up_at, nw_at, nw_s, k_Lt_atom, px_iconst, px_bipush, px_sipush, px_ldc, px_ldc_w, px_lconst, px_ldc2_w, px_aconst_null, px_getstatic, px_iload_n, px_iload, px_lload_n, px_lload, px_aload_n, px_aload, px_istore_n, px_istore, px_astore_n, px_astore, px_lstore_n, px_lstore, px_iinc, px_iadd, px_isub, px_imul, px_iand, px_ior, px_ixor, px_ishl, px_ishr, px_iushr, px_ladd, px_lsub, px_lmul, px_land, px_lor, px_lcmp, px_lushr, px_lshl, px_ineg, px_i2l, px_l2i, px_idiv, px_irem, px_ldiv, px_lrem, px_dup0, px_pop0, px_dup2, px_pop2, px_dup2x, px_goto, px_if_eq, px_ic_eq, px_if_ne, px_ic_ne, px_if_lt, px_ic_lt, px_if_ge, px_ic_ge, px_if_gt, px_ic_gt, px_if_le, px_ic_le, px_ifnull, px_ifnonnull, px_lookupswitch, px_tableswitch, px_getfield, px_iaload, px_laload, px_caload, px_aaload, px_iastore, px_lastore, px_arraylength, px_putfield, px_ireturn, px_lreturn, px_areturn, px_return, px_iv0, px_is0, px_iv1, px_is1, px_iv2, px_is2, px_iv3, px_is3, px_iv4, px_is4, px_iv5, px_is5, px_iv6, px_is6, px_max, px_min, px_abs, px_maxJ, px_minJ, px_ii0, px_ii1, px_iio, px_copy, pz_cpk, pz_lk, pz_alk, pz_ask, pz_gfk, pz_lnk, pz_bx, pz_b, pz_z, pz_s1, pz_s2, pz_wt, pz_cmp, List.getElem?_cons_zero, List.getElem?_cons_succ, List.getElem?_nil, List.set_cons_zero, List.set_cons_succ, List.length_cons, List.length_nil, List.nil_append, List.cons_append, Option.toList_some, Option.toList_none, if_true, if_false, ite_true, ite_false, and_true, true_and, and_self, or_self, or_false, false_or, true_or, or_true, and_false, false_and, not_true_eq_false, not_false_eq_true, forall_const, ne_eq, reduceCtorEq, implies_true, false_implies, true_implies, Int.toNat_natCast, Nat.reduceAdd, Nat.reduceSub, Nat.reduceLT, Nat.reduceLeDiff, Nat.reduceEqDiff, Int.reduceLT, Int.reduceLE, Int.reduceToNat, Int.reduceNeg, Int.reduceEq, Int.reduceAdd, Nat.reduceMul, Int.reduceSub, Nat.reduceBEq, Int.reduceMul, Nat.add_zero, Nat.zero_add, Int.cast_ofNat_Int, Int.ofNat_eq_coe, decide_eq_true_eq, Nat.lt_irrefl, Nat.le_refl, List.getElem?_toArray, Option.elim_some, Option.elim_none, j_Lt_atom_0, j_Lt_atom_28, j_Lt_atom_61, j_Lt_atom_62, j_Lt_atom_63, j_Lt_atom_90, j_Lt_atom_120, j_Lt_atom_121, g_6, g_1, rf_6_0 hR, rf_6_0 hR1, e1, e2]
  · exact c_atom_o hss M p l hS hL c1
set_option maxRecDepth 100000 in
theorem c_atom_in (hss : ∀ M', pz_sh ((pz_SH, ss, 0, 0, dd), M') 4105 = some (112, 8)) {s : Nat → Rs Ex} {h : Nat} {k : Int} (hk : 0 ≤ k ∧ k < 6) (hg : ∀ p, p ≤ n → Gr n p h False (s p)) (hs : ∀ M p l, Sc M T n p l → LLt M → Rc M l (fun v M' => some (some (0, v), ((pz_SH, ss, 0, 0, dd), M'))) (pz_cal (d + 3) 37 [(2, 6), (0, k + 1)] ((pz_SH, ss, 0, 0, dd), M)) (s p)) : ∀ M p l, Sc M T n p l → LLt M → Rc M l (fun v M' => some (some (0, v), ((pz_SH, ss, 0, 0, dd), M'))) (pz_cal (d + 4) 39 [(2, 6), (0, k)] ((pz_SH, ss, 0, 0, dd), M)) (atm T n (fun p => inb T n s 93 (bl T n p + 1)) p) := by
  intro M p l hS hL
  by_cases c1 : ch T n (bl T n p) = 91
  · obtain ⟨hR, hT, h2, hp, h62, hl⟩ := hS
    have n240 := hT.2.1
    have b1 := bl_le (T := T) hp
    have b2 := bl_ge (T := T) (n := n) (p := p)
    have b3 : bl T n p < n := ch_lt c1 (by decide)
    have e1 := c_sign (d := d + 2) (ss := ss) (dd := dd) hR hT h2 hp
    have hF1 : Pf M (pz_up M 1 2 (bl T n p : Int)) := Pf_up (.inl ⟨rfl, .inl rfl⟩)
    have hR1 := Rf_Pf hR hF1
    have h21 : pz_up M 1 2 (bl T n p : Int) 1 2 = (bl T n p : Int) := by rw [up_at, if_pos ⟨rfl, rfl⟩]
    have e3 := c_step (d := d + 2) (ss := ss) (dd := dd) h21 (by omega)
    rw [up_up2] at e3
    have hF2 : Pf M (pz_up M 1 2 ((bl T n p : Int) + 1)) := Pf_up (.inl ⟨rfl, .inl rfl⟩)
    have hR2 := Rf_Pf hR hF2
    have h72 : pz_up M 1 2 ((bl T n p : Int) + 1) 7 = M 7 := by funext z; rw [up_at, if_neg (by omega)]
    have h32 : pz_up M 1 2 ((bl T n p : Int) + 1) 1 3 = M 1 3 := by rw [up_at, if_neg (by omega)]
    have a1 := hs (pz_up M 1 2 ((bl T n p : Int) + 1)) (bl T n p + 1) l ⟨hR2, TC_Pf hT hF2, by rw [up_at, if_pos ⟨rfl, rfl⟩]; rfl, by omega, by rw [up_at, if_neg (by omega)]; exact h62, by omega⟩ (by unfold LLt; rw [hF2.1 4105 (by decide) (by decide) (by decide)]; exact hL)
    have g1 := hg (bl T n p + 1) (by omega)
    unfold atm
    rw [if_pos c1]
    rw [c1] at e1
    unfold inb
    generalize pz_up M 1 2 ((bl T n p : Int) + 1) = M2 at *
    generalize pz_up M 1 2 (bl T n p : Int) = M1 at *
    match hz : s (bl T n p + 1), a1, g1 with
    | .inl z, a1, g1 =>
      obtain ⟨M3, t3, f3, p3, w3, q3⟩ := a1
      have t3 : pz_cal (d + 3) 37 [(2, 6), (0, k + 1)] ((pz_SH, ss, 0, 0, dd), M2) = some (some (0, 1), ((pz_SH, ss, 0, 0, dd), M3)) := t3
      have hF3 := Pf_t hF2 f3
      have hR3 := Rf_Pf hR hF3
      have e4 := c_wants (d := d) (ss := ss) (dd := dd) (v := 93) hR3 (TC_Pf hT hF3) p3 g1.1
      have A3 : Ap M M3 l z.1.1 := Ap_base q3 h72
      have q62 := q3.1
      have g4 := g1.2.1
      have g5 := g1.1
      show Rc M l _ _ (if ch T n (bl T n z.2) = 93 then _ else _)
      by_cases c2 : ch T n (bl T n z.2) = 93
      · rw [if_pos c2] at e4 ⊢
        refine ⟨pz_up M3 1 2 ((bl T n z.2 : Int) + 1), ?_, Pf_t hF3 (Pf_up (.inl ⟨rfl, .inl rfl⟩)), by rw [up_at, if_pos ⟨rfl, rfl⟩]; rfl, by rw [up_at, if_neg (by omega), w3, h32], Ap_1_2 A3⟩
        generalize pz_up M3 1 2 ((bl T n z.2 : Int) + 1) = M4 at *
        simp (maxSteps := 1000000) (disch := omega) only [↓reduceIte, sp_0, sp_s, Option.map_some, Option.map_none, Option.some.injEq, o_le, o_nle, o_lt, o_nlt, o_eq, o_neq, w32_id, up_at, nw_at, nw_s, k_Lt_atom, px_iconst, px_bipush, px_sipush, px_ldc, px_ldc_w, px_lconst, px_ldc2_w, px_aconst_null, px_getstatic, px_iload_n, px_iload, px_lload_n, px_lload, px_aload_n, px_aload, px_istore_n, px_istore, px_astore_n, px_astore, px_lstore_n, px_lstore, px_iinc, px_iadd, px_isub, px_imul, px_iand, px_ior, px_ixor, px_ishl, px_ishr, px_iushr, px_ladd, px_lsub, px_lmul, px_land, px_lor, px_lcmp, px_lushr, px_lshl, px_ineg, px_i2l, px_l2i, px_idiv, px_irem, px_ldiv, px_lrem, px_dup0, px_pop0, px_dup2, px_pop2, px_dup2x, px_goto, px_if_eq, px_ic_eq, px_if_ne, px_ic_ne, px_if_lt, px_ic_lt, px_if_ge, px_ic_ge, px_if_gt, px_ic_gt, px_if_le, px_ic_le, px_ifnull, px_ifnonnull, px_lookupswitch, px_tableswitch, px_getfield, px_iaload, px_laload, px_caload, px_aaload, px_iastore, px_lastore, px_arraylength, px_putfield, px_ireturn, px_lreturn, px_areturn, px_return, px_iv0, px_is0, px_iv1, px_is1, px_iv2, px_is2, px_iv3, px_is3, px_iv4, px_is4, px_iv5, px_is5, px_iv6, px_is6, px_max, px_min, px_abs, px_maxJ, px_minJ, px_ii0, px_ii1, px_iio, px_copy, pz_cpk, pz_lk, pz_alk, pz_ask, pz_gfk, pz_lnk, pz_bx, pz_b, pz_z, pz_s1, pz_s2, pz_wt, pz_cmp, List.getElem?_cons_zero, List.getElem?_cons_succ, List.getElem?_nil, List.set_cons_zero, List.set_cons_succ, List.length_cons, List.length_nil, List.nil_append, List.cons_append, Option.toList_some, Option.toList_none, if_true, if_false, ite_true, ite_false, and_true, true_and, and_self, or_self, or_false, false_or, true_or, or_true, and_false, false_and, not_true_eq_false, not_false_eq_true, forall_const, ne_eq, reduceCtorEq, implies_true, false_implies, true_implies, Int.toNat_natCast, Nat.reduceAdd, Nat.reduceSub, Nat.reduceLT, Nat.reduceLeDiff, Nat.reduceEqDiff, Int.reduceLT, Int.reduceLE, Int.reduceToNat, Int.reduceNeg, Int.reduceEq, Int.reduceAdd, Nat.reduceMul, Int.reduceSub, Nat.reduceBEq, Int.reduceMul, Nat.add_zero, Nat.zero_add, Int.cast_ofNat_Int, Int.ofNat_eq_coe, decide_eq_true_eq, Nat.lt_irrefl, Nat.le_refl, List.getElem?_toArray, Option.elim_some, Option.elim_none, j_Lt_atom_0, j_Lt_atom_28, j_Lt_atom_61, j_Lt_atom_62, j_Lt_atom_63, j_Lt_atom_90, j_Lt_atom_120, j_Lt_atom_121, g_6, g_1, rf_6_0 hR, rf_6_0 hR1, rf_6_0 hR2, rf_6_0 hR3, e1, e3, t3, e4]
      · rw [if_neg c2] at e4 ⊢
        refine ⟨pz_up (pz_up M3 1 2 (bl T n z.2 : Int)) 1 3 (bl T n z.2 : Int), ?_, Pf_t hF3 (Pf_t (Pf_up (.inl ⟨rfl, .inl rfl⟩)) (Pf_up (.inl ⟨rfl, .inr rfl⟩))), by rw [up_at, if_pos ⟨rfl, rfl⟩], l + z.1.1.length, by rw [up_at, if_neg (by omega), up_at, if_neg (by omega)]; exact q62, by omega⟩
        generalize pz_up (pz_up M3 1 2 (bl T n z.2 : Int)) 1 3 (bl T n z.2 : Int) = M4 at *
        simp (maxSteps := 1000000) (disch := omega) only [↓reduceIte, sp_0, sp_s, Option.map_some, Option.map_none, Option.some.injEq, o_le, o_nle, o_lt, o_nlt, o_eq, o_neq, w32_id, up_at, nw_at, nw_s, k_Lt_atom, px_iconst, px_bipush, px_sipush, px_ldc, px_ldc_w, px_lconst, px_ldc2_w, px_aconst_null, px_getstatic, px_iload_n, px_iload, px_lload_n, px_lload, px_aload_n, px_aload, px_istore_n, px_istore, px_astore_n, px_astore, px_lstore_n, px_lstore, px_iinc, px_iadd, px_isub, px_imul, px_iand, px_ior, px_ixor, px_ishl, px_ishr, px_iushr, px_ladd, px_lsub, px_lmul, px_land, px_lor, px_lcmp, px_lushr, px_lshl, px_ineg, px_i2l, px_l2i, px_idiv, px_irem, px_ldiv, px_lrem, px_dup0, px_pop0, px_dup2, px_pop2, px_dup2x, px_goto, px_if_eq, px_ic_eq, px_if_ne, px_ic_ne, px_if_lt, px_ic_lt, px_if_ge, px_ic_ge, px_if_gt, px_ic_gt, px_if_le, px_ic_le, px_ifnull, px_ifnonnull, px_lookupswitch, px_tableswitch, px_getfield, px_iaload, px_laload, px_caload, px_aaload, px_iastore, px_lastore, px_arraylength, px_putfield, px_ireturn, px_lreturn, px_areturn, px_return, px_iv0, px_is0, px_iv1, px_is1, px_iv2, px_is2, px_iv3, px_is3, px_iv4, px_is4, px_iv5, px_is5, px_iv6, px_is6, px_max, px_min, px_abs, px_maxJ, px_minJ, px_ii0, px_ii1, px_iio, px_copy, pz_cpk, pz_lk, pz_alk, pz_ask, pz_gfk, pz_lnk, pz_bx, pz_b, pz_z, pz_s1, pz_s2, pz_wt, pz_cmp, List.getElem?_cons_zero, List.getElem?_cons_succ, List.getElem?_nil, List.set_cons_zero, List.set_cons_succ, List.length_cons, List.length_nil, List.nil_append, List.cons_append, Option.toList_some, Option.toList_none, if_true, if_false, ite_true, ite_false, and_true, true_and, and_self, or_self, or_false, false_or, true_or, or_true, and_false, false_and, not_true_eq_false, not_false_eq_true, forall_const, ne_eq, reduceCtorEq, implies_true, false_implies, true_implies, Int.toNat_natCast, Nat.reduceAdd, Nat.reduceSub, Nat.reduceLT, Nat.reduceLeDiff, Nat.reduceEqDiff, Int.reduceLT, Int.reduceLE, Int.reduceToNat, Int.reduceNeg, Int.reduceEq, Int.reduceAdd, Nat.reduceMul, Int.reduceSub, Nat.reduceBEq, Int.reduceMul, Nat.add_zero, Nat.zero_add, Int.cast_ofNat_Int, Int.ofNat_eq_coe, decide_eq_true_eq, Nat.lt_irrefl, Nat.le_refl, List.getElem?_toArray, Option.elim_some, Option.elim_none, j_Lt_atom_0, j_Lt_atom_28, j_Lt_atom_61, j_Lt_atom_62, j_Lt_atom_63, j_Lt_atom_90, j_Lt_atom_120, j_Lt_atom_121, g_6, g_1, rf_6_0 hR, rf_6_0 hR1, rf_6_0 hR2, rf_6_0 hR3, e1, e3, t3, e4]
    | .inr w, a1, g1 =>
      obtain ⟨M3, t3, f3, w3, l', q3, q4⟩ := a1
      have t3 : pz_cal (d + 3) 37 [(2, 6), (0, k + 1)] ((pz_SH, ss, 0, 0, dd), M2) = some (some (0, 0), ((pz_SH, ss, 0, 0, dd), M3)) := t3
      refine ⟨M3, ?_, Pf_t hF2 f3, w3, l', q3, q4⟩
      simp (maxSteps := 1000000) (disch := omega) only [↓reduceIte, sp_0, sp_s, Option.map_some, Option.map_none, Option.some.injEq, o_le, o_nle, o_lt, o_nlt, o_eq, o_neq, w32_id, up_at, nw_at, nw_s, k_Lt_atom, px_iconst, px_bipush, px_sipush, px_ldc, px_ldc_w, px_lconst, px_ldc2_w, px_aconst_null, px_getstatic, px_iload_n, px_iload, px_lload_n, px_lload, px_aload_n, px_aload, px_istore_n, px_istore, px_astore_n, px_astore, px_lstore_n, px_lstore, px_iinc, px_iadd, px_isub, px_imul, px_iand, px_ior, px_ixor, px_ishl, px_ishr, px_iushr, px_ladd, px_lsub, px_lmul, px_land, px_lor, px_lcmp, px_lushr, px_lshl, px_ineg, px_i2l, px_l2i, px_idiv, px_irem, px_ldiv, px_lrem, px_dup0, px_pop0, px_dup2, px_pop2, px_dup2x, px_goto, px_if_eq, px_ic_eq, px_if_ne, px_ic_ne, px_if_lt, px_ic_lt, px_if_ge, px_ic_ge, px_if_gt, px_ic_gt, px_if_le, px_ic_le, px_ifnull, px_ifnonnull, px_lookupswitch, px_tableswitch, px_getfield, px_iaload, px_laload, px_caload, px_aaload, px_iastore, px_lastore, px_arraylength, px_putfield, px_ireturn, px_lreturn, px_areturn, px_return, px_iv0, px_is0, px_iv1, px_is1, px_iv2, px_is2, px_iv3, px_is3, px_iv4, px_is4, px_iv5, px_is5, px_iv6, px_is6, px_max, px_min, px_abs, px_maxJ, px_minJ, px_ii0, px_ii1, px_iio, px_copy, pz_cpk, pz_lk, pz_alk, pz_ask, pz_gfk, pz_lnk, pz_bx, pz_b, pz_z, pz_s1, pz_s2, pz_wt, pz_cmp, List.getElem?_cons_zero, List.getElem?_cons_succ, List.getElem?_nil, List.set_cons_zero, List.set_cons_succ, List.length_cons, List.length_nil, List.nil_append, List.cons_append, Option.toList_some, Option.toList_none, if_true, if_false, ite_true, ite_false, and_true, true_and, and_self, or_self, or_false, false_or, true_or, or_true, and_false, false_and, not_true_eq_false, not_false_eq_true, forall_const, ne_eq, reduceCtorEq, implies_true, false_implies, true_implies, Int.toNat_natCast, Nat.reduceAdd, Nat.reduceSub, Nat.reduceLT, Nat.reduceLeDiff, Nat.reduceEqDiff, Int.reduceLT, Int.reduceLE, Int.reduceToNat, Int.reduceNeg, Int.reduceEq, Int.reduceAdd, Nat.reduceMul, Int.reduceSub, Nat.reduceBEq, Int.reduceMul, Nat.add_zero, Nat.zero_add, Int.cast_ofNat_Int, Int.ofNat_eq_coe, decide_eq_true_eq, Nat.lt_irrefl, Nat.le_refl, List.getElem?_toArray, Option.elim_some, Option.elim_none, j_Lt_atom_0, j_Lt_atom_28, j_Lt_atom_61, j_Lt_atom_62, j_Lt_atom_63, j_Lt_atom_90, j_Lt_atom_120, j_Lt_atom_121, g_6, g_1, rf_6_0 hR, rf_6_0 hR1, rf_6_0 hR2, e1, e3, t3]
  · exact c_atom_o (d := d + 1) hss M p l hS hL c1
end P66
