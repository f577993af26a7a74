/-! THE CLASS READS A LAW: brackets, sums of every depth -/
section P66
variable {d : Nat} {ss : List (Nat × Nat)} {dd : Nat} {T : Nat → Int} {n : Nat}
set_option maxRecDepth 100000 in
theorem c_atom_6 (hss : ∀ M', pz_sh ((pz_SH, ss, 0, 0, dd), M') 4105 = some (112, 8)) : ∀ M p l, Sc M T n p l → LLt M → Rc M l (fun v M' => some (some (0, v), ((pz_SH, ss, 0, 0, dd), M'))) (pz_cal (d + 3) 39 [(2, 6), (0, 6)] ((pz_SH, ss, 0, 0, dd), M)) (atm T n (flt T n) p) := by
  intro M p l hS hL
  by_cases c1 : ch T n (bl T n p) = 91
  · obtain ⟨hR, hT, h2, hp, h62, hl⟩ := hS
    have n240 := hT.2.1
    have e1 := c_sign (d := d + 1) (ss := ss) (dd := dd) hR hT h2 hp
    have hF1 : Pf M (pz_up M 1 2 (bl T n p : Int)) := Pf_up (.inl ⟨rfl, .inl rfl⟩)
    have hR1 := Rf_Pf hR hF1
    have e2 := c_fail (d := d + 1) (ss := ss) (dd := dd) (M := pz_up M 1 2 (bl T n p : Int)) (p := (bl T n p : Int)) (by rw [up_at, if_pos ⟨rfl, rfl⟩])
    unfold atm
    rw [if_pos c1]
    rw [c1] at e1
    refine ⟨pz_up (pz_up M 1 2 (bl T n p : Int)) 1 3 (bl T n p : Int), ?_, Pf_t hF1 (Pf_up (.inl ⟨rfl, .inr rfl⟩)), by rw [up_at, if_pos ⟨rfl, rfl⟩], l, by rw [up_at, if_neg (by omega), up_at, if_neg (by omega)]; exact h62, by omega⟩
    show _ = some (some (0, 0), ((pz_SH, ss, 0, 0, dd), pz_up (pz_up M 1 2 (bl T n p : Int)) 1 3 (bl T n p : Int)))
    generalize pz_up M 1 2 (bl T n p : Int) = M1 at *
    simp (maxSteps := 1000000) (disch := omega) only [↓reduceIte, sp_0, sp_s, Option.map_some, Option.map_none, Option.some.injEq, o_le, o_nle, o_lt, o_nlt, o_eq, o_neq, w32_id, up_at, nw_at, nw_s, k_Lt_atom, px_iconst, px_bipush, px_sipush, px_ldc, px_ldc_w, px_lconst, px_ldc2_w, px_aconst_null, px_getstatic, px_iload_n, px_iload, px_lload_n, px_lload, px_aload_n, px_aload, px_istore_n, px_istore, px_astore_n, px_astore, px_lstore_n, px_lstore, px_iinc, px_iadd, px_isub, px_imul, px_iand, px_ior, px_ixor, px_ishl, px_ishr, px_iushr, px_ladd, px_lsub, px_lmul, px_land, px_lor, px_lcmp, px_lushr, px_lshl, px_ineg, px_i2l, px_l2i, px_idiv, px_irem, px_ldiv, px_lrem, px_dup0, px_pop0, px_dup2, px_pop2, px_dup2x, px_goto, px_if_eq, px_ic_eq, px_if_ne, px_ic_ne, px_if_lt, px_ic_lt, px_if_ge, px_ic_ge, px_if_gt, px_ic_gt, px_if_le, px_ic_le, px_ifnull, px_ifnonnull, px_lookupswitch, px_tableswitch, px_getfield, px_iaload, px_laload, px_caload, px_aaload, px_iastore, px_lastore, px_arraylength, px_putfield, px_ireturn, px_lreturn, px_areturn, px_return, px_iv0, px_is0, px_iv1, px_is1, px_iv2, px_is2, px_iv3, px_is3, px_iv4, px_is4, px_iv5, px_is5, px_iv6, px_is6, px_max, px_min, px_abs, px_maxJ, px_minJ, px_ii0, px_ii1, px_iio, px_copy, pz_cpk, pz_lk, pz_alk, pz_ask, pz_gfk, pz_lnk, pz_bx, pz_b, pz_z, pz_s1, pz_s2, pz_wt, pz_cmp, List.getElem?_cons_zero, List.getElem?_cons_succ, List.getElem?_nil, List.set_cons_zero, List.set_cons_succ, List.length_cons, List.length_nil, List.nil_append, List.cons_append, Option.toList_some, Option.toList_none, if_true, if_false, ite_true, ite_false, and_true, true_and, and_self, or_self, or_false, false_or, true_or, or_true, and_false, false_and, not_true_eq_false, not_false_eq_true, forall_const, ne_eq, reduceCtorEq, implies_true, false_implies, true_implies, Int.toNat_natCast, Nat.reduceAdd, Nat.reduceSub, Nat.reduceLT, Nat.reduceLeDiff, Nat.reduceEqDiff, Int.reduceLT, Int.reduceLE, Int.reduceToNat, Int.reduceNeg, Int.reduceEq, Int.reduceAdd, Nat.reduceMul, Int.reduceSub, Nat.reduceBEq, Int.reduceMul, Nat.add_zero, Nat.zero_add, Int.cast_ofNat_Int, Int.ofNat_eq_coe, decide_eq_true_eq, Nat.lt_irrefl, Nat.le_refl, List.getElem?_toArray, Option.elim_some, Option.elim_none, j_Lt_atom_0, j_Lt_atom_28, j_Lt_atom_61, j_Lt_atom_62, j_Lt_atom_63, j_Lt_atom_90, j_Lt_atom_120, j_Lt_atom_121, g_6, g_1, rf_6_0 hR, rf_6_0 hR1, e1, e2]
  · exact c_atom_o hss M p l hS hL c1
set_option maxRecDepth 100000 in
theorem c_atom_in (hss : ∀ M', pz_sh ((pz_SH, ss, 0, 0, dd), M') 4105 = some (112, 8)) {s : Nat → Rs Ex} {h : Nat} {k : Int} (hk : 0 ≤ k ∧ k < 6) (hg : ∀ p, p ≤ n → Gr n p h False (s p)) (hs : ∀ M p l, Sc M T n p l → LLt M → Rc M l (fun v M' => some (some (0, v), ((pz_SH, ss, 0, 0, dd), M'))) (pz_cal (d + 3) 37 [(2, 6), (0, k + 1)] ((pz_SH, ss, 0, 0, dd), M)) (s p)) : ∀ M p l, Sc M T n p l → LLt M → Rc M l (fun v M' => some (some (0, v), ((pz_SH, ss, 0, 0, dd), M'))) (pz_cal (d + 4) 39 [(2, 6), (0, k)] ((pz_SH, ss, 0, 0, dd), M)) (atm T n (fun p => inb T n s 93 (bl T n p + 1)) p) := by
  intro M p l hS hL
  by_cases c1 : ch T n (bl T n p) = 91
  · obtain ⟨hR, hT, h2, hp, h62, hl⟩ := hS
    have n240 := hT.2.1
    have b1 := bl_le (T := T) hp
    have b2 := bl_ge (T := T) (n := n) (p := p)
    have b3 : bl T n p < n := ch_lt c1 (by decide)
    have e1 := c_sign (d := d + 2) (ss := ss) (dd := dd) hR hT h2 hp
    have hF1 : Pf M (pz_up M 1 2 (bl T n p : Int)) := Pf_up (.inl ⟨rfl, .inl rfl⟩)
    have hR1 := Rf_Pf hR hF1
    have h21 : pz_up M 1 2 (bl T n p : Int) 1 2 = (bl T n p : Int) := by rw [up_at, if_pos ⟨rfl, rfl⟩]
    have e3 := c_step (d := d + 2) (ss := ss) (dd := dd) h21 (by omega)
    rw [up_up2] at e3
    have hF2 : Pf M (pz_up M 1 2 ((bl T n p : Int) + 1)) := Pf_up (.inl ⟨rfl, .inl rfl⟩)
    have hR2 := Rf_Pf hR hF2
    have h72 : pz_up M 1 2 ((bl T n p : Int) + 1) 7 = M 7 := by funext z; rw [up_at, if_neg (by omega)]
    have h32 : pz_up M 1 2 ((bl T n p : Int) + 1) 1 3 = M 1 3 := by rw [up_at, if_neg (by omega)]
    have a1 := hs (pz_up M 1 2 ((bl T n p : Int) + 1)) (bl T n p + 1) l ⟨hR2, TC_Pf hT hF2, by rw [up_at, if_pos ⟨rfl, rfl⟩]; rfl, by omega, by rw [up_at, if_neg (by omega)]; exact h62, by omega⟩ (by unfold LLt; rw [hF2.1 4105 (by decide) (by decide) (by decide)]; exact hL)
    have g1 := hg (bl T n p + 1) (by omega)
    unfold atm
    rw [if_pos c1]
    rw [c1] at e1
    show Rc M l _ _ (inb T n s 93 (bl T n p + 1))
    unfold inb
    generalize pz_up M 1 2 ((bl T n p : Int) + 1) = M2 at *
    generalize pz_up M 1 2 (bl T n p : Int) = M1 at *
    match hz : s (bl T n p + 1), a1, g1 with
    | .inl z, a1, g1 =>
      obtain ⟨M3, t3, f3, p3, w3, q3⟩ := a1
      have t3 : pz_cal (d + 3) 37 [(2, 6), (0, k + 1)] ((pz_SH, ss, 0, 0, dd), M2) = some (some (0, 1), ((pz_SH, ss, 0, 0, dd), M3)) := t3
      have hF3 := Pf_t hF2 f3
      have hR3 := Rf_Pf hR hF3
      have e4 := c_wants (d := d) (ss := ss) (dd := dd) (v := 93) hR3 (TC_Pf hT hF3) p3 g1.1
      have A3 : Ap M M3 l z.1.1 := Ap_base q3 h72
      have q62 := q3.1
      have g4 := g1.2.1
      have g5 := g1.1
      show Rc M l _ _ (if ch T n (bl T n z.2) = 93 then _ else _)
      by_cases c2 : ch T n (bl T n z.2) = 93
      · rw [if_pos c2] at e4 ⊢
        refine ⟨pz_up M3 1 2 ((bl T n z.2 : Int) + 1), ?_, Pf_t hF3 (Pf_up (.inl ⟨rfl, .inl rfl⟩)), by rw [up_at, if_pos ⟨rfl, rfl⟩]; rfl, by rw [up_at, if_neg (by omega), w3, h32], Ap_1_2 A3⟩
        generalize pz_up M3 1 2 ((bl T n z.2 : Int) + 1) = M4 at *
        simp (maxSteps := 1000000) (disch := omega) only [↓reduceIte, sp_0, sp_s, Option.map_some, Option.map_none, Option.some.injEq, o_le, o_nle, o_lt, o_nlt, o_eq, o_neq, w32_id, up_at, nw_at, nw_s, k_Lt_atom, px_iconst, px_bipush, px_sipush, px_ldc, px_ldc_w, px_lconst, px_ldc2_w, px_aconst_null, px_getstatic, px_iload_n, px_iload, px_lload_n, px_lload, px_aload_n, px_aload, px_istore_n, px_istore, px_astore_n, px_astore, px_lstore_n, px_lstore, px_iinc, px_iadd, px_isub, px_imul, px_iand, px_ior, px_ixor, px_ishl, px_ishr, px_iushr, px_ladd, px_lsub, px_lmul, px_land, px_lor, px_lcmp, px_lushr, px_lshl, px_ineg, px_i2l, px_l2i, px_idiv, px_irem, px_ldiv, px_lrem, px_dup0, px_pop0, px_dup2, px_pop2, px_dup2x, px_goto, px_if_eq, px_ic_eq, px_if_ne, px_ic_ne, px_if_lt, px_ic_lt, px_if_ge, px_ic_ge, px_if_gt, px_ic_gt, px_if_le, px_ic_le, px_ifnull, px_ifnonnull, px_lookupswitch, px_tableswitch, px_getfield, px_iaload, px_laload, px_caload, px_aaload, px_iastore, px_lastore, px_arraylength, px_putfield, px_ireturn, px_lreturn, px_areturn, px_return, px_iv0, px_is0, px_iv1, px_is1, px_iv2, px_is2, px_iv3, px_is3, px_iv4, px_is4, px_iv5, px_is5, px_iv6, px_is6, px_max, px_min, px_abs, px_maxJ, px_minJ, px_ii0, px_ii1, px_iio, px_copy, pz_cpk, pz_lk, pz_alk, pz_ask, pz_gfk, pz_lnk, pz_bx, pz_b, pz_z, pz_s1, pz_s2, pz_wt, pz_cmp, List.getElem?_cons_zero, List.getElem?_cons_succ, List.getElem?_nil, List.set_cons_zero, List.set_cons_succ, List.length_cons, List.length_nil, List.nil_append, List.cons_append, Option.toList_some, Option.toList_none, if_true, if_false, ite_true, ite_false, and_true, true_and, and_self, or_self, or_false, false_or, true_or, or_true, and_false, false_and, not_true_eq_false, not_false_eq_true, forall_const, ne_eq, reduceCtorEq, implies_true, false_implies, true_implies, Int.toNat_natCast, Nat.reduceAdd, Nat.reduceSub, Nat.reduceLT, Nat.reduceLeDiff, Nat.reduceEqDiff, Int.reduceLT, Int.reduceLE, Int.reduceToNat, Int.reduceNeg, Int.reduceEq, Int.reduceAdd, Nat.reduceMul, Int.reduceSub, Nat.reduceBEq, Int.reduceMul, Nat.add_zero, Nat.zero_add, Int.cast_ofNat_Int, Int.ofNat_eq_coe, decide_eq_true_eq, Nat.lt_irrefl, Nat.le_refl, List.getElem?_toArray, Option.elim_some, Option.elim_none, j_Lt_atom_0, j_Lt_atom_28, j_Lt_atom_61, j_Lt_atom_62, j_Lt_atom_63, j_Lt_atom_90, j_Lt_atom_120, j_Lt_atom_121, g_6, g_1, rf_6_0 hR, rf_6_0 hR1, rf_6_0 hR2, rf_6_0 hR3, e1, e3, t3, e4]
      · rw [if_neg c2] at e4 ⊢
        refine ⟨pz_up (pz_up M3 1 2 (bl T n z.2 : Int)) 1 3 (bl T n z.2 : Int), ?_, Pf_t hF3 (Pf_t (Pf_up (.inl ⟨rfl, .inl rfl⟩)) (Pf_up (.inl ⟨rfl, .inr rfl⟩))), by rw [up_at, if_pos ⟨rfl, rfl⟩], l + z.1.1.length, by rw [up_at, if_neg (by omega), up_at, if_neg (by omega)]; exact q62, by omega⟩
        generalize pz_up (pz_up M3 1 2 (bl T n z.2 : Int)) 1 3 (bl T n z.2 : Int) = M4 at *
        simp (maxSteps := 1000000) (disch := omega) only [↓reduceIte, sp_0, sp_s, Option.map_some, Option.map_none, Option.some.injEq, o_le, o_nle, o_lt, o_nlt, o_eq, o_neq, w32_id, up_at, nw_at, nw_s, k_Lt_atom, px_iconst, px_bipush, px_sipush, px_ldc, px_ldc_w, px_lconst, px_ldc2_w, px_aconst_null, px_getstatic, px_iload_n, px_iload, px_lload_n, px_lload, px_aload_n, px_aload, px_istore_n, px_istore, px_astore_n, px_astore, px_lstore_n, px_lstore, px_iinc, px_iadd, px_isub, px_imul, px_iand, px_ior, px_ixor, px_ishl, px_ishr, px_iushr, px_ladd, px_lsub, px_lmul, px_land, px_lor, px_lcmp, px_lushr, px_lshl, px_ineg, px_i2l, px_l2i, px_idiv, px_irem, px_ldiv, px_lrem, px_dup0, px_pop0, px_dup2, px_pop2, px_dup2x, px_goto, px_if_eq, px_ic_eq, px_if_ne, px_ic_ne, px_if_lt, px_ic_lt, px_if_ge, px_ic_ge, px_if_gt, px_ic_gt, px_if_le, px_ic_le, px_ifnull, px_ifnonnull, px_lookupswitch, px_tableswitch, px_getfield, px_iaload, px_laload, px_caload, px_aaload, px_iastore, px_lastore, px_arraylength, px_putfield, px_ireturn, px_lreturn, px_areturn, px_return, px_iv0, px_is0, px_iv1, px_is1, px_iv2, px_is2, px_iv3, px_is3, px_iv4, px_is4, px_iv5, px_is5, px_iv6, px_is6, px_max, px_min, px_abs, px_maxJ, px_minJ, px_ii0, px_ii1, px_iio, px_copy, pz_cpk, pz_lk, pz_alk, pz_ask, pz_gfk, pz_lnk, pz_bx, pz_b, pz_z, pz_s1, pz_s2, pz_wt, pz_cmp, List.getElem?_cons_zero, List.getElem?_cons_succ, List.getElem?_nil, List.set_cons_zero, List.set_cons_succ, List.length_cons, List.length_nil, List.nil_append, List.cons_append, Option.toList_some, Option.toList_none, if_true, if_false, ite_true, ite_false, and_true, true_and, and_self, or_self, or_false, false_or, true_or, or_true, and_false, false_and, not_true_eq_false, not_false_eq_true, forall_const, ne_eq, reduceCtorEq, implies_true, false_implies, true_implies, Int.toNat_natCast, Nat.reduceAdd, Nat.reduceSub, Nat.reduceLT, Nat.reduceLeDiff, Nat.reduceEqDiff, Int.reduceLT, Int.reduceLE, Int.reduceToNat, Int.reduceNeg, Int.reduceEq, Int.reduceAdd, Nat.reduceMul, Int.reduceSub, Nat.reduceBEq, Int.reduceMul, Nat.add_zero, Nat.zero_add, Int.cast_ofNat_Int, Int.ofNat_eq_coe, decide_eq_true_eq, Nat.lt_irrefl, Nat.le_refl, List.getElem?_toArray, Option.elim_some, Option.elim_none, j_Lt_atom_0, j_Lt_atom_28, j_Lt_atom_61, j_Lt_atom_62, j_Lt_atom_63, j_Lt_atom_90, j_Lt_atom_120, j_Lt_atom_121, g_6, g_1, rf_6_0 hR, rf_6_0 hR1, rf_6_0 hR2, rf_6_0 hR3, e1, e3, t3, e4]
    | .inr w, a1, g1 =>
      obtain ⟨M3, t3, f3, w3, l', q3, q4⟩ := a1
      have t3 : pz_cal (d + 3) 37 [(2, 6), (0, k + 1)] ((pz_SH, ss, 0, 0, dd), M2) = some (some (0, 0), ((pz_SH, ss, 0, 0, dd), M3)) := t3
      refine ⟨M3, ?_, Pf_t hF2 f3, w3, l', q3, q4⟩
      simp (maxSteps := 1000000) (disch := omega) only [↓reduceIte, sp_0, sp_s, Option.map_some, Option.map_none, Option.some.injEq, o_le, o_nle, o_lt, o_nlt, o_eq, o_neq, w32_id, up_at, nw_at, nw_s, k_Lt_atom, px_iconst, px_bipush, px_sipush, px_ldc, px_ldc_w, px_lconst, px_ldc2_w, px_aconst_null, px_getstatic, px_iload_n, px_iload, px_lload_n, px_lload, px_aload_n, px_aload, px_istore_n, px_istore, px_astore_n, px_astore, px_lstore_n, px_lstore, px_iinc, px_iadd, px_isub, px_imul, px_iand, px_ior, px_ixor, px_ishl, px_ishr, px_iushr, px_ladd, px_lsub, px_lmul, px_land, px_lor, px_lcmp, px_lushr, px_lshl, px_ineg, px_i2l, px_l2i, px_idiv, px_irem, px_ldiv, px_lrem, px_dup0, px_pop0, px_dup2, px_pop2, px_dup2x, px_goto, px_if_eq, px_ic_eq, px_if_ne, px_ic_ne, px_if_lt, px_ic_lt, px_if_ge, px_ic_ge, px_if_gt, px_ic_gt, px_if_le, px_ic_le, px_ifnull, px_ifnonnull, px_lookupswitch, px_tableswitch, px_getfield, px_iaload, px_laload, px_caload, px_aaload, px_iastore, px_lastore, px_arraylength, px_putfield, px_ireturn, px_lreturn, px_areturn, px_return, px_iv0, px_is0, px_iv1, px_is1, px_iv2, px_is2, px_iv3, px_is3, px_iv4, px_is4, px_iv5, px_is5, px_iv6, px_is6, px_max, px_min, px_abs, px_maxJ, px_minJ, px_ii0, px_ii1, px_iio, px_copy, pz_cpk, pz_lk, pz_alk, pz_ask, pz_gfk, pz_lnk, pz_bx, pz_b, pz_z, pz_s1, pz_s2, pz_wt, pz_cmp, List.getElem?_cons_zero, List.getElem?_cons_succ, List.getElem?_nil, List.set_cons_zero, List.set_cons_succ, List.length_cons, List.length_nil, List.nil_append, List.cons_append, Option.toList_some, Option.toList_none, if_true, if_false, ite_true, ite_false, and_true, true_and, and_self, or_self, or_false, false_or, true_or, or_true, and_false, false_and, not_true_eq_false, not_false_eq_true, forall_const, ne_eq, reduceCtorEq, implies_true, false_implies, true_implies, Int.toNat_natCast, Nat.reduceAdd, Nat.reduceSub, Nat.reduceLT, Nat.reduceLeDiff, Nat.reduceEqDiff, Int.reduceLT, Int.reduceLE, Int.reduceToNat, Int.reduceNeg, Int.reduceEq, Int.reduceAdd, Nat.reduceMul, Int.reduceSub, Nat.reduceBEq, Int.reduceMul, Nat.add_zero, Nat.zero_add, Int.cast_ofNat_Int, Int.ofNat_eq_coe, decide_eq_true_eq, Nat.lt_irrefl, Nat.le_refl, List.getElem?_toArray, Option.elim_some, Option.elim_none, j_Lt_atom_0, j_Lt_atom_28, j_Lt_atom_61, j_Lt_atom_62, j_Lt_atom_63, j_Lt_atom_90, j_Lt_atom_120, j_Lt_atom_121, g_6, g_1, rf_6_0 hR, rf_6_0 hR1, rf_6_0 hR2, e1, e3, t3]
  · exact c_atom_o (d := d + 1) hss M p l hS hL c1
end P66
/-! THE CLASS READS A LAW: sums of every depth, comparisons -/
/-- a reading goes on -/
def bnd {α : Type} (r : Rs Ex) (f : Ex → Nat → Rs α) : Rs α := match r with
  | .inl z => f z.1 z.2
  | .inr w => .inr w
section P67
variable {ss : List (Nat × Nat)} {dd : Nat} {T : Nat → Int} {n : Nat}
set_option maxRecDepth 100000 in
theorem c_sum_j (hss : ∀ M', pz_sh ((pz_SH, ss, 0, 0, dd), M') 4105 = some (112, 8)) : ∀ (j : Nat) (k : Int), 0 ≤ k → k + (j : Int) = 6 → ∀ (d : Nat) M p l, Sc M T n p l → LLt M → Rc M l (fun v M' => some (some (0, v), ((pz_SH, ss, 0, 0, dd), M'))) (pz_cal (d + 5 + 3 * j) 37 [(2, 6), (0, k)] ((pz_SH, ss, 0, 0, dd), M)) (gSm T n j p)
  | 0, k, hk0, hk, d => by
    have hk6 : k = 6 := by omega
    subst hk6
    have a := c_atom_6 (d := d) (ss := ss) (dd := dd) (T := T) (n := n) hss
    have b := c_term (d := d + 1) (k := 6) (h := 1) (Gr_atm (fun p hp _ => Gr_flt hp) (by decide)) a
    exact c_sum (d := d + 2) (k := 6) (h := 2) (Gr_sq1 (h0 := 1) (q := False) (Gr_atm (fun p hp _ => Gr_flt hp) (by decide)) (by decide) (by decide) (fun f => f.elim) (fun f => f)) b
  | j + 1, k, hk0, hk, d => by
    have ih := c_sum_j hss j (k + 1) (by omega) (by omega) d
    have e : d + 5 + 3 * j = (d + 3 * j + 2) + 3 := by omega
    rw [e] at ih
    have g0 : ∀ p, p ≤ n → Gr n p (2 * j + 3) False (atm T n (fun p => inb T n (gSm T n j) 93 (bl T n p + 1)) p) := Gr_atm (fun p hp hb => Gr_m (Gr_inb (T := T) (c := 93) (p := bl T n p + 1) (Gr_gSm j) (by decide) (by omega)) (by have := bl_ge (T := T) (n := n) (p := p); omega) (Nat.le_refl _) (fun f => f)) (by omega)
    have a := c_atom_in (d := d + 3 * j + 2) (ss := ss) (dd := dd) (k := k) hss (by omega) (Gr_gSm j) ih
    have b := c_term (d := d + 3 * j + 4) (k := k) (h := 2 * j + 3) g0 a
    have c := c_sum (d := d + 3 * j + 5) (k := k) (h := 2 * j + 4) (Gr_sq1 (h0 := 2 * j + 3) (q := False) g0 (by decide) (by omega) (fun f => f.elim) (fun f => f)) b
    rw [show d + 5 + 3 * (j + 1) = (d + 3 * j + 5) + 3 by omega]
    exact c
end P67
/-! THE CLASS READS A LAW: truths and conditions -/
section P68
variable {d : Nat} {ss : List (Nat × Nat)} {dd : Nat} {T : Nat → Int} {n : Nat}
set_option maxRecDepth 100000 in
theorem c_truth {g : Nat → Rs Ex} {h : Nat} {k b : Int} (hg : ∀ p, p ≤ n → Gr n p h True (g p)) (hA : ∀ M p l, Sc M T n p l → LLt M → Rc M l (fun v M' => some (some (0, v), ((pz_SH, ss, 0, 0, dd), M'))) (pz_cal (d + 2) 45 [(2, 6), (0, k), (0, 0)] ((pz_SH, ss, 0, 0, dd), M)) (g p)) {M0 M9 : pz_M} {p0 l0 h0 : Nat} {q0 : Prop} {r0 : Rs Ex} (hR0 : Rf M0) (hT0 : TC M0 T n) (hl0 : l0 ≤ p0) (hL : LLt M0) (g1 : Gr n p0 h0 q0 r0) (a1 : Rc M0 l0 (fun v M' => some (some (0, v), ((pz_SH, ss, 0, 0, dd), M'))) (pz_cal (d + 2) 45 [(2, 6), (0, k), (0, b)] ((pz_SH, ss, 0, 0, dd), M9)) r0) : Rc M0 l0 (fun v M' => some (some (0, v), ((pz_SH, ss, 0, 0, dd), M'))) (pz_cal (d + 3) 44 [(2, 6), (0, k), (0, b)] ((pz_SH, ss, 0, 0, dd), M9)) (bnd r0 (chn T n oAn g 240)) := by
  have n240 := hT0.2.1
  have bad : ∀ (M : pz_M) (i : Int), pz_p bl_Lt_truth (pz_cal (d + 2)) 0 0 10 [] [(2, 6), (0, k), (0, b), (0, 0), (0, i)] [] ((pz_SH, ss, 0, 0, dd), M) = some (some (0, 0), ((pz_SH, ss, 0, 0, dd), M)) := by
    intro M i
    rw [j_Lt_truth_10]
    simp (maxSteps := 1000000) (disch := omega) only [↓reduceIte, sp_0, sp_s, Option.map_some, Option.map_none, Option.some.injEq, o_le, o_nle, o_lt, o_nlt, o_eq, o_neq, w32_id, nw_s, px_iconst, px_bipush, px_sipush, px_ldc, px_ldc_w, px_lconst, px_ldc2_w, px_aconst_null, px_getstatic, px_iload_n, px_iload, px_lload_n, px_lload, px_aload_n, px_aload, px_istore_n, px_istore, px_astore_n, px_astore, px_lstore_n, px_lstore, px_iinc, px_iadd, px_isub, px_imul, px_iand, px_ior, px_ixor, px_ishl, px_ishr, px_iushr, px_ladd, px_lsub, px_lmul, px_land, px_lor, px_lcmp, px_lushr, px_lshl, px_ineg, px_i2l, px_l2i, px_idiv, px_irem, px_ldiv, px_lrem, px_dup0, px_pop0, px_dup2, px_pop2, px_dup2x, px_goto, px_if_eq, px_ic_eq, px_if_ne, px_ic_ne, px_if_lt, px_ic_lt, px_if_ge, px_ic_ge, px_if_gt, px_ic_gt, px_if_le, px_ic_le, px_ifnull, px_ifnonnull, px_lookupswitch, px_tableswitch, px_getfield, px_iaload, px_laload, px_caload, px_aaload, px_iastore, px_lastore, px_arraylength, px_putfield, px_ireturn, px_lreturn, px_areturn, px_return, px_iv0, px_is0, px_iv1, px_is1, px_iv2, px_is2, px_iv3, px_is3, px_iv4, px_is4, px_iv5, px_is5, px_iv6, px_is6, px_max, px_min, px_abs, px_maxJ, px_minJ, px_ii0, px_ii1, px_iio, px_copy, pz_cpk, pz_lk, pz_alk, pz_ask, pz_gfk, pz_lnk, pz_bx, pz_b, pz_z, pz_s1, pz_s2, pz_wt, pz_cmp, List.getElem?_cons_zero, List.getElem?_cons_succ, List.getElem?_nil, List.set_cons_zero, List.set_cons_succ, List.length_cons, List.length_nil, List.nil_append, List.cons_append, Option.toList_some, Option.toList_none, if_true, if_false, ite_true, ite_false, and_true, true_and, and_self, or_self, or_false, false_or, true_or, or_true, and_false, false_and, not_true_eq_false, not_false_eq_true, forall_const, ne_eq, reduceCtorEq, implies_true, false_implies, true_implies, Int.toNat_natCast, Nat.reduceAdd, Nat.reduceSub, Nat.reduceLT, Nat.reduceLeDiff, Nat.reduceEqDiff, Int.reduceLT, Int.reduceLE, Int.reduceToNat, Int.reduceNeg, Int.reduceEq, Int.reduceAdd, Nat.reduceMul, Int.reduceSub, Nat.reduceBEq, Int.reduceMul, Nat.add_zero, Nat.zero_add, Int.cast_ofNat_Int, Int.ofNat_eq_coe, decide_eq_true_eq, Nat.lt_irrefl, Nat.le_refl, List.getElem?_toArray, Option.elim_some, Option.elim_none, j_Lt_truth_54]
  have lp : ∀ (f i : Nat) (e : Ex) (p : Nat) (M : pz_M), i + f = 240 → i ≤ p → p ≤ n → l0 + e.1.length ≤ p → Pf M0 M → M 1 2 = (p : Int) → M 1 3 = M0 1 3 → Ap M0 M l0 e.1 → Rc M0 l0 (fun v M' => some (some (0, v), ((pz_SH, ss, 0, 0, dd), M'))) (pz_p bl_Lt_truth (pz_cal (d + 2)) 0 0 10 [] [(2, 6), (0, k), (0, b), (0, 1), (0, (i : Int))] [] ((pz_SH, ss, 0, 0, dd), M)) (chn T n oAn g f e p) := by
    intro f
    induction f with
    | zero =>
      intro i e p M hi hip hp hl hF h2 h3 hAp
      have hb : bl T n p = p := bl_e (by omega)
      unfold chn
      rw [hb]
      refine ⟨M, ?_, hF, h2, h3, hAp⟩
      show _ = some (some (0, 1), ((pz_SH, ss, 0, 0, dd), M))
      rw [j_Lt_truth_10]
      simp (maxSteps := 1000000) (disch := omega) only [↓reduceIte, sp_0, sp_s, Option.map_some, Option.map_none, Option.some.injEq, o_le, o_nle, o_lt, o_nlt, o_eq, o_neq, w32_id, nw_s, px_iconst, px_bipush, px_sipush, px_ldc, px_ldc_w, px_lconst, px_ldc2_w, px_aconst_null, px_getstatic, px_iload_n, px_iload, px_lload_n, px_lload, px_aload_n, px_aload, px_istore_n, px_istore, px_astore_n, px_astore, px_lstore_n, px_lstore, px_iinc, px_iadd, px_isub, px_imul, px_iand, px_ior, px_ixor, px_ishl, px_ishr, px_iushr, px_ladd, px_lsub, px_lmul, px_land, px_lor, px_lcmp, px_lushr, px_lshl, px_ineg, px_i2l, px_l2i, px_idiv, px_irem, px_ldiv, px_lrem, px_dup0, px_pop0, px_dup2, px_pop2, px_dup2x, px_goto, px_if_eq, px_ic_eq, px_if_ne, px_ic_ne, px_if_lt, px_ic_lt, px_if_ge, px_ic_ge, px_if_gt, px_ic_gt, px_if_le, px_ic_le, px_ifnull, px_ifnonnull, px_lookupswitch, px_tableswitch, px_getfield, px_iaload, px_laload, px_caload, px_aaload, px_iastore, px_lastore, px_arraylength, px_putfield, px_ireturn, px_lreturn, px_areturn, px_return, px_iv0, px_is0, px_iv1, px_is1, px_iv2, px_is2, px_iv3, px_is3, px_iv4, px_is4, px_iv5, px_is5, px_iv6, px_is6, px_max, px_min, px_abs, px_maxJ, px_minJ, px_ii0, px_ii1, px_iio, px_copy, pz_cpk, pz_lk, pz_alk, pz_ask, pz_gfk, pz_lnk, pz_bx, pz_b, pz_z, pz_s1, pz_s2, pz_wt, pz_cmp, List.getElem?_cons_zero, List.getElem?_cons_succ, List.getElem?_nil, List.set_cons_zero, List.set_cons_succ, List.length_cons, List.length_nil, List.nil_append, List.cons_append, Option.toList_some, Option.toList_none, if_true, if_false, ite_true, ite_false, and_true, true_and, and_self, or_self, or_false, false_or, true_or, or_true, and_false, false_and, not_true_eq_false, not_false_eq_true, forall_const, ne_eq, reduceCtorEq, implies_true, false_implies, true_implies, Int.toNat_natCast, Nat.reduceAdd, Nat.reduceSub, Nat.reduceLT, Nat.reduceLeDiff, Nat.reduceEqDiff, Int.reduceLT, Int.reduceLE, Int.reduceToNat, Int.reduceNeg, Int.reduceEq, Int.reduceAdd, Nat.reduceMul, Int.reduceSub, Nat.reduceBEq, Int.reduceMul, Nat.add_zero, Nat.zero_add, Int.cast_ofNat_Int, Int.ofNat_eq_coe, decide_eq_true_eq, Nat.lt_irrefl, Nat.le_refl, List.getElem?_toArray, Option.elim_some, Option.elim_none, j_Lt_truth_54]
    | succ f ih =>
      intro i e p M hi hip hp hl hF h2 h3 hAp
      have hR := Rf_Pf hR0 hF
      have hT := TC_Pf hT0 hF
      have b1 := bl_le (T := T) hp
      have b2 := bl_ge (T := T) (n := n) (p := p)
      have e1 := c_takes (d := d) (ss := ss) (dd := dd) (v := 38) hR hT h2 hp
      unfold chn
      by_cases c : ch T n (bl T n p) = 38
      · rw [if_pos c] at e1
        have b3 : bl T n p < n := ch_lt c (by decide)
        have ec : oAn (ch T n (bl T n p)) = 10 := by rw [c]; decide
        rw [ec, if_neg (by decide)]
        have en : (2 : Int) * 10000 + 38 = enc (10, 0) := by decide
        have hF2 : Pf M0 (pz_up M 1 2 ((bl T n p : Int) + 1)) := Pf_t hF (Pf_up (.inl ⟨rfl, .inl rfl⟩))
        have hA2 : Ap M0 (pz_up M 1 2 ((bl T n p : Int) + 1)) l0 e.1 := Ap_1_2 hAp
        have h32 : pz_up M 1 2 ((bl T n p : Int) + 1) 1 3 = M0 1 3 := by rw [up_at, if_neg (by omega)]; exact h3
        have h22 : pz_up M 1 2 ((bl T n p : Int) + 1) 1 2 = ((bl T n p + 1 : Nat) : Int) := by rw [up_at, if_pos ⟨rfl, rfl⟩]; rfl
        have hR2 := Rf_Pf hR0 hF2
        generalize pz_up M 1 2 ((bl T n p : Int) + 1) = M2 at *
        have a1 := hA M2 (bl T n p + 1) (l0 + e.1.length) ⟨hR2, TC_Pf hT0 hF2, h22, by omega, hA2.1, by omega⟩ (by unfold LLt; rw [hF2.1 4105 (by decide) (by decide) (by decide)]; exact hL)
        have g1 := hg (bl T n p + 1) (by omega)
        match hz : g (bl T n p + 1), a1, g1 with
        | .inl z, a1, g1 =>
          obtain ⟨M3, t3, f3, p3, w3, q3⟩ := a1
          have t3 : pz_cal (d + 2) 45 [(2, 6), (0, k), (0, 0)] ((pz_SH, ss, 0, 0, dd), M2) = some (some (0, 1), ((pz_SH, ss, 0, 0, dd), M3)) := t3
          have g2 := g1.1
          have g3 := g1.2.1
          have hF3 := Pf_t hF2 f3
          have hR3 := Rf_Pf hR0 hF3
          have hA3 := Ap_t hA2 q3
          have hA4 := Ap_t hA3 (Ap_1 (M := M3) (l := l0 + (e.1 ++ z.1.1).length) (t := (10, 0)) en)
          have e5 := c_emit (d := d + 1) (ss := ss) (dd := dd) (s := 2) (v := 38) hR3 hA3.1 (by rw [List.length_append]; omega) (by decide) (by omega)
          have r := ih (i + 1) (xbin 10 e z.1) z.2 _ (by omega) (by omega) g2 (by rw [xbin_len]; omega) (Pf_t hF3 (Pf_t (Pf_up (.inr (.inr rfl))) (Pf_up (.inr (.inl ⟨rfl, rfl⟩))))) (by rw [up_at, if_neg (by omega), up_at, if_neg (by omega)]; exact p3) (by rw [up_at, if_neg (by omega), up_at, if_neg (by omega), w3]; exact h32) hA4
          generalize pz_up (pz_up M3 7 (l0 + (e.1 ++ z.1.1).length) (2 * 10000 + 38)) 6 2 (((l0 + (e.1 ++ z.1.1).length : Nat) : Int) + 1) = M4 at *
          have t9 : pz_p bl_Lt_truth (pz_cal (d + 2)) 0 0 10 [] [(2, 6), (0, k), (0, b), (0, 1), (0, (i : Int))] [] ((pz_SH, ss, 0, 0, dd), M) = pz_p bl_Lt_truth (pz_cal (d + 2)) 0 0 10 [] [(2, 6), (0, k), (0, b), (0, 1), (0, ((i + 1 : Nat) : Int))] [] ((pz_SH, ss, 0, 0, dd), M4) := by
            show _ = pz_p bl_Lt_truth (pz_cal (d + 2)) 0 0 10 [] [(2, 6), (0, k), (0, b), (0, 1), (0, (i : Int) + 1)] [] ((pz_SH, ss, 0, 0, dd), M4)
            rw [j_Lt_truth_10]
            simp (maxSteps := 1000000) (disch := omega) only [↓reduceIte, sp_0, sp_s, Option.map_some, Option.map_none, Option.some.injEq, o_le, o_nle, o_lt, o_nlt, o_eq, o_neq, w32_id, nw_s, px_iconst, px_bipush, px_sipush, px_ldc, px_ldc_w, px_lconst, px_ldc2_w, px_aconst_null, px_getstatic, px_iload_n, px_iload, px_lload_n, px_lload, px_aload_n, px_aload, px_istore_n, px_istore, px_astore_n, px_astore, px_lstore_n, px_lstore, px_iinc, px_iadd, px_isub, px_imul, px_iand, px_ior, px_ixor, px_ishl, px_ishr, px_iushr, px_ladd, px_lsub, px_lmul, px_land, px_lor, px_lcmp, px_lushr, px_lshl, px_ineg, px_i2l, px_l2i, px_idiv, px_irem, px_ldiv, px_lrem, px_dup0, px_pop0, px_dup2, px_pop2, px_dup2x, px_goto, px_if_eq, px_ic_eq, px_if_ne, px_ic_ne, px_if_lt, px_ic_lt, px_if_ge, px_ic_ge, px_if_gt, px_ic_gt, px_if_le, px_ic_le, px_ifnull, px_ifnonnull, px_lookupswitch, px_tableswitch, px_getfield, px_iaload, px_laload, px_caload, px_aaload, px_iastore, px_lastore, px_arraylength, px_putfield, px_ireturn, px_lreturn, px_areturn, px_return, px_iv0, px_is0, px_iv1, px_is1, px_iv2, px_is2, px_iv3, px_is3, px_iv4, px_is4, px_iv5, px_is5, px_iv6, px_is6, px_max, px_min, px_abs, px_maxJ, px_minJ, px_ii0, px_ii1, px_iio, px_copy, pz_cpk, pz_lk, pz_alk, pz_ask, pz_gfk, pz_lnk, pz_bx, pz_b, pz_z, pz_s1, pz_s2, pz_wt, pz_cmp, List.getElem?_cons_zero, List.getElem?_cons_succ, List.getElem?_nil, List.set_cons_zero, List.set_cons_succ, List.length_cons, List.length_nil, List.nil_append, List.cons_append, Option.toList_some, Option.toList_none, if_true, if_false, ite_true, ite_false, and_true, true_and, and_self, or_self, or_false, false_or, true_or, or_true, and_false, false_and, not_true_eq_false, not_false_eq_true, forall_const, ne_eq, reduceCtorEq, implies_true, false_implies, true_implies, Int.toNat_natCast, Nat.reduceAdd, Nat.reduceSub, Nat.reduceLT, Nat.reduceLeDiff, Nat.reduceEqDiff, Int.reduceLT, Int.reduceLE, Int.reduceToNat, Int.reduceNeg, Int.reduceEq, Int.reduceAdd, Nat.reduceMul, Int.reduceSub, Nat.reduceBEq, Int.reduceMul, Nat.add_zero, Nat.zero_add, Int.cast_ofNat_Int, Int.ofNat_eq_coe, decide_eq_true_eq, Nat.lt_irrefl, Nat.le_refl, List.getElem?_toArray, Option.elim_some, Option.elim_none, g_6, g_1, rf_6_0 hR, e1, t3, e5]
          rw [t9]
          exact r
        | .inr w, a1, g1 =>
          obtain ⟨M3, t3, f3, w3, l', q3, q4⟩ := a1
          have t3 : pz_cal (d + 2) 45 [(2, 6), (0, k), (0, 0)] ((pz_SH, ss, 0, 0, dd), M2) = some (some (0, 0), ((pz_SH, ss, 0, 0, dd), M3)) := t3
          have hF3 := Pf_t hF2 f3
          have hR3 := Rf_Pf hR0 hF3
          obtain ⟨M4, t4, f4, u4, l4, q5, q6⟩ := c_emit2 (d := d + 1) (ss := ss) (dd := dd) (s := 2) (v := 38) hR3 q3 q4 (by decide) (by omega)
          refine ⟨M4, ?_, Pf_t hF3 f4, by rw [u4]; exact w3, l4, q5, q6⟩
          have t9 : pz_p bl_Lt_truth (pz_cal (d + 2)) 0 0 10 [] [(2, 6), (0, k), (0, b), (0, 1), (0, (i : Int))] [] ((pz_SH, ss, 0, 0, dd), M) = pz_p bl_Lt_truth (pz_cal (d + 2)) 0 0 10 [] [(2, 6), (0, k), (0, b), (0, 0), (0, (i : Int) + 1)] [] ((pz_SH, ss, 0, 0, dd), M4) := by
            rw [j_Lt_truth_10]
            simp (maxSteps := 1000000) (disch := omega) only [↓reduceIte, sp_0, sp_s, Option.map_some, Option.map_none, Option.some.injEq, o_le, o_nle, o_lt, o_nlt, o_eq, o_neq, w32_id, nw_s, px_iconst, px_bipush, px_sipush, px_ldc, px_ldc_w, px_lconst, px_ldc2_w, px_aconst_null, px_getstatic, px_iload_n, px_iload, px_lload_n, px_lload, px_aload_n, px_aload, px_istore_n, px_istore, px_astore_n, px_astore, px_lstore_n, px_lstore, px_iinc, px_iadd, px_isub, px_imul, px_iand, px_ior, px_ixor, px_ishl, px_ishr, px_iushr, px_ladd, px_lsub, px_lmul, px_land, px_lor, px_lcmp, px_lushr, px_lshl, px_ineg, px_i2l, px_l2i, px_idiv, px_irem, px_ldiv, px_lrem, px_dup0, px_pop0, px_dup2, px_pop2, px_dup2x, px_goto, px_if_eq, px_ic_eq, px_if_ne, px_ic_ne, px_if_lt, px_ic_lt, px_if_ge, px_ic_ge, px_if_gt, px_ic_gt, px_if_le, px_ic_le, px_ifnull, px_ifnonnull, px_lookupswitch, px_tableswitch, px_getfield, px_iaload, px_laload, px_caload, px_aaload, px_iastore, px_lastore, px_arraylength, px_putfield, px_ireturn, px_lreturn, px_areturn, px_return, px_iv0, px_is0, px_iv1, px_is1, px_iv2, px_is2, px_iv3, px_is3, px_iv4, px_is4, px_iv5, px_is5, px_iv6, px_is6, px_max, px_min, px_abs, px_maxJ, px_minJ, px_ii0, px_ii1, px_iio, px_copy, pz_cpk, pz_lk, pz_alk, pz_ask, pz_gfk, pz_lnk, pz_bx, pz_b, pz_z, pz_s1, pz_s2, pz_wt, pz_cmp, List.getElem?_cons_zero, List.getElem?_cons_succ, List.getElem?_nil, List.set_cons_zero, List.set_cons_succ, List.length_cons, List.length_nil, List.nil_append, List.cons_append, Option.toList_some, Option.toList_none, if_true, if_false, ite_true, ite_false, and_true, true_and, and_self, or_self, or_false, false_or, true_or, or_true, and_false, false_and, not_true_eq_false, not_false_eq_true, forall_const, ne_eq, reduceCtorEq, implies_true, false_implies, true_implies, Int.toNat_natCast, Nat.reduceAdd, Nat.reduceSub, Nat.reduceLT, Nat.reduceLeDiff, Nat.reduceEqDiff, Int.reduceLT, Int.reduceLE, Int.reduceToNat, Int.reduceNeg, Int.reduceEq, Int.reduceAdd, Nat.reduceMul, Int.reduceSub, Nat.reduceBEq, Int.reduceMul, Nat.add_zero, Nat.zero_add, Int.cast_ofNat_Int, Int.ofNat_eq_coe, decide_eq_true_eq, Nat.lt_irrefl, Nat.le_refl, List.getElem?_toArray, Option.elim_some, Option.elim_none, g_6, g_1, rf_6_0 hR, e1, t3, t4]
          rw [t9]
          exact bad M4 _
      · rw [if_neg c] at e1
        have ec : oAn (ch T n (bl T n p)) = 0 := by unfold oAn; rw [if_neg c]
        rw [ec, if_pos rfl]
        refine ⟨pz_up M 1 2 (bl T n p : Int), ?_, Pf_t hF (Pf_up (.inl ⟨rfl, .inl rfl⟩)), by rw [up_at, if_pos ⟨rfl, rfl⟩], by rw [up_at, if_neg (by omega)]; exact h3, Ap_1_2 hAp⟩
        show _ = some (some (0, 1), ((pz_SH, ss, 0, 0, dd), pz_up M 1 2 (bl T n p : Int)))
        generalize pz_up M 1 2 (bl T n p : Int) = M1 at *
        rw [j_Lt_truth_10]
        simp (maxSteps := 1000000) (disch := omega) only [↓reduceIte, sp_0, sp_s, Option.map_some, Option.map_none, Option.some.injEq, o_le, o_nle, o_lt, o_nlt, o_eq, o_neq, w32_id, nw_s, px_iconst, px_bipush, px_sipush, px_ldc, px_ldc_w, px_lconst, px_ldc2_w, px_aconst_null, px_getstatic, px_iload_n, px_iload, px_lload_n, px_lload, px_aload_n, px_aload, px_istore_n, px_istore, px_astore_n, px_astore, px_lstore_n, px_lstore, px_iinc, px_iadd, px_isub, px_imul, px_iand, px_ior, px_ixor, px_ishl, px_ishr, px_iushr, px_ladd, px_lsub, px_lmul, px_land, px_lor, px_lcmp, px_lushr, px_lshl, px_ineg, px_i2l, px_l2i, px_idiv, px_irem, px_ldiv, px_lrem, px_dup0, px_pop0, px_dup2, px_pop2, px_dup2x, px_goto, px_if_eq, px_ic_eq, px_if_ne, px_ic_ne, px_if_lt, px_ic_lt, px_if_ge, px_ic_ge, px_if_gt, px_ic_gt, px_if_le, px_ic_le, px_ifnull, px_ifnonnull, px_lookupswitch, px_tableswitch, px_getfield, px_iaload, px_laload, px_caload, px_aaload, px_iastore, px_lastore, px_arraylength, px_putfield, px_ireturn, px_lreturn, px_areturn, px_return, px_iv0, px_is0, px_iv1, px_is1, px_iv2, px_is2, px_iv3, px_is3, px_iv4, px_is4, px_iv5, px_is5, px_iv6, px_is6, px_max, px_min, px_abs, px_maxJ, px_minJ, px_ii0, px_ii1, px_iio, px_copy, pz_cpk, pz_lk, pz_alk, pz_ask, pz_gfk, pz_lnk, pz_bx, pz_b, pz_z, pz_s1, pz_s2, pz_wt, pz_cmp, List.getElem?_cons_zero, List.getElem?_cons_succ, List.getElem?_nil, List.set_cons_zero, List.set_cons_succ, List.length_cons, List.length_nil, List.nil_append, List.cons_append, Option.toList_some, Option.toList_none, if_true, if_false, ite_true, ite_false, and_true, true_and, and_self, or_self, or_false, false_or, true_or, or_true, and_false, false_and, not_true_eq_false, not_false_eq_true, forall_const, ne_eq, reduceCtorEq, implies_true, false_implies, true_implies, Int.toNat_natCast, Nat.reduceAdd, Nat.reduceSub, Nat.reduceLT, Nat.reduceLeDiff, Nat.reduceEqDiff, Int.reduceLT, Int.reduceLE, Int.reduceToNat, Int.reduceNeg, Int.reduceEq, Int.reduceAdd, Nat.reduceMul, Int.reduceSub, Nat.reduceBEq, Int.reduceMul, Nat.add_zero, Nat.zero_add, Int.cast_ofNat_Int, Int.ofNat_eq_coe, decide_eq_true_eq, Nat.lt_irrefl, Nat.le_refl, List.getElem?_toArray, Option.elim_some, Option.elim_none, j_Lt_truth_54, g_6, g_1, rf_6_0 hR, e1]
  match r0, a1, g1 with
  | .inl z, a1, g1 =>
    obtain ⟨M3, t3, f3, p3, w3, q3⟩ := a1
    have t3 : pz_cal (d + 2) 45 [(2, 6), (0, k), (0, b)] ((pz_SH, ss, 0, 0, dd), M9) = some (some (0, 1), ((pz_SH, ss, 0, 0, dd), M3)) := t3
    have r := lp 240 0 z.1 z.2 M3 (by omega) (by omega) g1.1 (by have := g1.2.1; omega) f3 p3 w3 q3
    have t9 : pz_cal (d + 3) 44 [(2, 6), (0, k), (0, b)] ((pz_SH, ss, 0, 0, dd), M9) = pz_p bl_Lt_truth (pz_cal (d + 2)) 0 0 10 [] [(2, 6), (0, k), (0, b), (0, 1), (0, ((0 : Nat) : Int))] [] ((pz_SH, ss, 0, 0, dd), M3) := by
      show _ = pz_p bl_Lt_truth (pz_cal (d + 2)) 0 0 10 [] [(2, 6), (0, k), (0, b), (0, 1), (0, 0)] [] ((pz_SH, ss, 0, 0, dd), M3)
      simp (maxSteps := 1000000) (disch := omega) only [↓reduceIte, sp_0, sp_s, Option.map_some, Option.map_none, Option.some.injEq, o_le, o_nle, o_lt, o_nlt, o_eq, o_neq, w32_id, up_at, nw_at, nw_s, k_Lt_truth, px_iconst, px_bipush, px_sipush, px_ldc, px_ldc_w, px_lconst, px_ldc2_w, px_aconst_null, px_getstatic, px_iload_n, px_iload, px_lload_n, px_lload, px_aload_n, px_aload, px_istore_n, px_istore, px_astore_n, px_astore, px_lstore_n, px_lstore, px_iinc, px_iadd, px_isub, px_imul, px_iand, px_ior, px_ixor, px_ishl, px_ishr, px_iushr, px_ladd, px_lsub, px_lmul, px_land, px_lor, px_lcmp, px_lushr, px_lshl, px_ineg, px_i2l, px_l2i, px_idiv, px_irem, px_ldiv, px_lrem, px_dup0, px_pop0, px_dup2, px_pop2, px_dup2x, px_goto, px_if_eq, px_ic_eq, px_if_ne, px_ic_ne, px_if_lt, px_ic_lt, px_if_ge, px_ic_ge, px_if_gt, px_ic_gt, px_if_le, px_ic_le, px_ifnull, px_ifnonnull, px_lookupswitch, px_tableswitch, px_getfield, px_iaload, px_laload, px_caload, px_aaload, px_iastore, px_lastore, px_arraylength, px_putfield, px_ireturn, px_lreturn, px_areturn, px_return, px_iv0, px_is0, px_iv1, px_is1, px_iv2, px_is2, px_iv3, px_is3, px_iv4, px_is4, px_iv5, px_is5, px_iv6, px_is6, px_max, px_min, px_abs, px_maxJ, px_minJ, px_ii0, px_ii1, px_iio, px_copy, pz_cpk, pz_lk, pz_alk, pz_ask, pz_gfk, pz_lnk, pz_bx, pz_b, pz_z, pz_s1, pz_s2, pz_wt, pz_cmp, List.getElem?_cons_zero, List.getElem?_cons_succ, List.getElem?_nil, List.set_cons_zero, List.set_cons_succ, List.length_cons, List.length_nil, List.nil_append, List.cons_append, Option.toList_some, Option.toList_none, if_true, if_false, ite_true, ite_false, and_true, true_and, and_self, or_self, or_false, false_or, true_or, or_true, and_false, false_and, not_true_eq_false, not_false_eq_true, forall_const, ne_eq, reduceCtorEq, implies_true, false_implies, true_implies, Int.toNat_natCast, Nat.reduceAdd, Nat.reduceSub, Nat.reduceLT, Nat.reduceLeDiff, Nat.reduceEqDiff, Int.reduceLT, Int.reduceLE, Int.reduceToNat, Int.reduceNeg, Int.reduceEq, Int.reduceAdd, Nat.reduceMul, Int.reduceSub, Nat.reduceBEq, Int.reduceMul, Nat.add_zero, Nat.zero_add, Int.cast_ofNat_Int, Int.ofNat_eq_coe, decide_eq_true_eq, Nat.lt_irrefl, Nat.le_refl, List.getElem?_toArray, Option.elim_some, Option.elim_none, j_Lt_truth_0, g_6, t3]
    rw [t9]
    exact r
  | .inr w, a1, g1 =>
    obtain ⟨M3, t3, f3, w3, l', q3, q4⟩ := a1
    have t3 : pz_cal (d + 2) 45 [(2, 6), (0, k), (0, b)] ((pz_SH, ss, 0, 0, dd), M9) = some (some (0, 0), ((pz_SH, ss, 0, 0, dd), M3)) := t3
    refine ⟨M3, ?_, f3, w3, l', q3, q4⟩
    have t9 : pz_cal (d + 3) 44 [(2, 6), (0, k), (0, b)] ((pz_SH, ss, 0, 0, dd), M9) = pz_p bl_Lt_truth (pz_cal (d + 2)) 0 0 10 [] [(2, 6), (0, k), (0, b), (0, 0), (0, 0)] [] ((pz_SH, ss, 0, 0, dd), M3) := by
      simp (maxSteps := 1000000) (disch := omega) only [↓reduceIte, sp_0, sp_s, Option.map_some, Option.map_none, Option.some.injEq, o_le, o_nle, o_lt, o_nlt, o_eq, o_neq, w32_id, up_at, nw_at, nw_s, k_Lt_truth, px_iconst, px_bipush, px_sipush, px_ldc, px_ldc_w, px_lconst, px_ldc2_w, px_aconst_null, px_getstatic, px_iload_n, px_iload, px_lload_n, px_lload, px_aload_n, px_aload, px_istore_n, px_istore, px_astore_n, px_astore, px_lstore_n, px_lstore, px_iinc, px_iadd, px_isub, px_imul, px_iand, px_ior, px_ixor, px_ishl, px_ishr, px_iushr, px_ladd, px_lsub, px_lmul, px_land, px_lor, px_lcmp, px_lushr, px_lshl, px_ineg, px_i2l, px_l2i, px_idiv, px_irem, px_ldiv, px_lrem, px_dup0, px_pop0, px_dup2, px_pop2, px_dup2x, px_goto, px_if_eq, px_ic_eq, px_if_ne, px_ic_ne, px_if_lt, px_ic_lt, px_if_ge, px_ic_ge, px_if_gt, px_ic_gt, px_if_le, px_ic_le, px_ifnull, px_ifnonnull, px_lookupswitch, px_tableswitch, px_getfield, px_iaload, px_laload, px_caload, px_aaload, px_iastore, px_lastore, px_arraylength, px_putfield, px_ireturn, px_lreturn, px_areturn, px_return, px_iv0, px_is0, px_iv1, px_is1, px_iv2, px_is2, px_iv3, px_is3, px_iv4, px_is4, px_iv5, px_is5, px_iv6, px_is6, px_max, px_min, px_abs, px_maxJ, px_minJ, px_ii0, px_ii1, px_iio, px_copy, pz_cpk, pz_lk, pz_alk, pz_ask, pz_gfk, pz_lnk, pz_bx, pz_b, pz_z, pz_s1, pz_s2, pz_wt, pz_cmp, List.getElem?_cons_zero, List.getElem?_cons_succ, List.getElem?_nil, List.set_cons_zero, List.set_cons_succ, List.length_cons, List.length_nil, List.nil_append, List.cons_append, Option.toList_some, Option.toList_none, if_true, if_false, ite_true, ite_false, and_true, true_and, and_self, or_self, or_false, false_or, true_or, or_true, and_false, false_and, not_true_eq_false, not_false_eq_true, forall_const, ne_eq, reduceCtorEq, implies_true, false_implies, true_implies, Int.toNat_natCast, Nat.reduceAdd, Nat.reduceSub, Nat.reduceLT, Nat.reduceLeDiff, Nat.reduceEqDiff, Int.reduceLT, Int.reduceLE, Int.reduceToNat, Int.reduceNeg, Int.reduceEq, Int.reduceAdd, Nat.reduceMul, Int.reduceSub, Nat.reduceBEq, Int.reduceMul, Nat.add_zero, Nat.zero_add, Int.cast_ofNat_Int, Int.ofNat_eq_coe, decide_eq_true_eq, Nat.lt_irrefl, Nat.le_refl, List.getElem?_toArray, Option.elim_some, Option.elim_none, j_Lt_truth_0, g_6, t3]
    rw [t9]
    exact bad M3 _
set_option maxRecDepth 100000 in
theorem c_condition {g : Nat → Rs Ex} {h : Nat} {k b : Int} (hg : ∀ p, p ≤ n → Gr n p h True (g p)) (hA : ∀ M p l, Sc M T n p l → LLt M → Rc M l (fun v M' => some (some (0, v), ((pz_SH, ss, 0, 0, dd), M'))) (pz_cal (d + 2) 44 [(2, 6), (0, k), (0, 0)] ((pz_SH, ss, 0, 0, dd), M)) (g p)) {M0 M9 : pz_M} {p0 l0 h0 : Nat} {q0 : Prop} {r0 : Rs Ex} (hR0 : Rf M0) (hT0 : TC M0 T n) (hl0 : l0 ≤ p0) (hL : LLt M0) (g1 : Gr n p0 h0 q0 r0) (a1 : Rc M0 l0 (fun v M' => some (some (0, v), ((pz_SH, ss, 0, 0, dd), M'))) (pz_cal (d + 2) 44 [(2, 6), (0, k), (0, b)] ((pz_SH, ss, 0, 0, dd), M9)) r0) : Rc M0 l0 (fun v M' => some (some (0, v), ((pz_SH, ss, 0, 0, dd), M'))) (pz_cal (d + 3) 43 [(2, 6), (0, k), (0, b)] ((pz_SH, ss, 0, 0, dd), M9)) (bnd r0 (chn T n oOr g 240)) := by
  have n240 := hT0.2.1
  have bad : ∀ (M : pz_M) (i : Int), pz_p bl_Lt_condition (pz_cal (d + 2)) 0 0 10 [] [(2, 6), (0, k), (0, b), (0, 0), (0, i)] [] ((pz_SH, ss, 0, 0, dd), M) = some (some (0, 0), ((pz_SH, ss, 0, 0, dd), M)) := by
    intro M i
    rw [j_Lt_condition_10]
    simp (maxSteps := 1000000) (disch := omega) only [↓reduceIte, sp_0, sp_s, Option.map_some, Option.map_none, Option.some.injEq, o_le, o_nle, o_lt, o_nlt, o_eq, o_neq, w32_id, nw_s, px_iconst, px_bipush, px_sipush, px_ldc, px_ldc_w, px_lconst, px_ldc2_w, px_aconst_null, px_getstatic, px_iload_n, px_iload, px_lload_n, px_lload, px_aload_n, px_aload, px_istore_n, px_istore, px_astore_n, px_astore, px_lstore_n, px_lstore, px_iinc, px_iadd, px_isub, px_imul, px_iand, px_ior, px_ixor, px_ishl, px_ishr, px_iushr, px_ladd, px_lsub, px_lmul, px_land, px_lor, px_lcmp, px_lushr, px_lshl, px_ineg, px_i2l, px_l2i, px_idiv, px_irem, px_ldiv, px_lrem, px_dup0, px_pop0, px_dup2, px_pop2, px_dup2x, px_goto, px_if_eq, px_ic_eq, px_if_ne, px_ic_ne, px_if_lt, px_ic_lt, px_if_ge, px_ic_ge, px_if_gt, px_ic_gt, px_if_le, px_ic_le, px_ifnull, px_ifnonnull, px_lookupswitch, px_tableswitch, px_getfield, px_iaload, px_laload, px_caload, px_aaload, px_iastore, px_lastore, px_arraylength, px_putfield, px_ireturn, px_lreturn, px_areturn, px_return, px_iv0, px_is0, px_iv1, px_is1, px_iv2, px_is2, px_iv3, px_is3, px_iv4, px_is4, px_iv5, px_is5, px_iv6, px_is6, px_max, px_min, px_abs, px_maxJ, px_minJ, px_ii0, px_ii1, px_iio, px_copy, pz_cpk, pz_lk, pz_alk, pz_ask, pz_gfk, pz_lnk, pz_bx, pz_b, pz_z, pz_s1, pz_s2, pz_wt, pz_cmp, List.getElem?_cons_zero, List.getElem?_cons_succ, List.getElem?_nil, List.set_cons_zero, List.set_cons_succ, List.length_cons, List.length_nil, List.nil_append, List.cons_append, Option.toList_some, Option.toList_none, if_true, if_false, ite_true, ite_false, and_true, true_and, and_self, or_self, or_false, false_or, true_or, or_true, and_false, false_and, not_true_eq_false, not_false_eq_true, forall_const, ne_eq, reduceCtorEq, implies_true, false_implies, true_implies, Int.toNat_natCast, Nat.reduceAdd, Nat.reduceSub, Nat.reduceLT, Nat.reduceLeDiff, Nat.reduceEqDiff, Int.reduceLT, Int.reduceLE, Int.reduceToNat, Int.reduceNeg, Int.reduceEq, Int.reduceAdd, Nat.reduceMul, Int.reduceSub, Nat.reduceBEq, Int.reduceMul, Nat.add_zero, Nat.zero_add, Int.cast_ofNat_Int, Int.ofNat_eq_coe, decide_eq_true_eq, Nat.lt_irrefl, Nat.le_refl, List.getElem?_toArray, Option.elim_some, Option.elim_none, j_Lt_condition_54]
  have lp : ∀ (f i : Nat) (e : Ex) (p : Nat) (M : pz_M), i + f = 240 → i ≤ p → p ≤ n → l0 + e.1.length ≤ p → Pf M0 M → M 1 2 = (p : Int) → M 1 3 = M0 1 3 → Ap M0 M l0 e.1 → Rc M0 l0 (fun v M' => some (some (0, v), ((pz_SH, ss, 0, 0, dd), M'))) (pz_p bl_Lt_condition (pz_cal (d + 2)) 0 0 10 [] [(2, 6), (0, k), (0, b), (0, 1), (0, (i : Int))] [] ((pz_SH, ss, 0, 0, dd), M)) (chn T n oOr g f e p) := by
    intro f
    induction f with
    | zero =>
      intro i e p M hi hip hp hl hF h2 h3 hAp
      have hb : bl T n p = p := bl_e (by omega)
      unfold chn
      rw [hb]
      refine ⟨M, ?_, hF, h2, h3, hAp⟩
      show _ = some (some (0, 1), ((pz_SH, ss, 0, 0, dd), M))
      rw [j_Lt_condition_10]
      simp (maxSteps := 1000000) (disch := omega) only [↓reduceIte, sp_0, sp_s, Option.map_some, Option.map_none, Option.some.injEq, o_le, o_nle, o_lt, o_nlt, o_eq, o_neq, w32_id, nw_s, px_iconst, px_bipush, px_sipush, px_ldc, px_ldc_w, px_lconst, px_ldc2_w, px_aconst_null, px_getstatic, px_iload_n, px_iload, px_lload_n, px_lload, px_aload_n, px_aload, px_istore_n, px_istore, px_astore_n, px_astore, px_lstore_n, px_lstore, px_iinc, px_iadd, px_isub, px_imul, px_iand, px_ior, px_ixor, px_ishl, px_ishr, px_iushr, px_ladd, px_lsub, px_lmul, px_land, px_lor, px_lcmp, px_lushr, px_lshl, px_ineg, px_i2l, px_l2i, px_idiv, px_irem, px_ldiv, px_lrem, px_dup0, px_pop0, px_dup2, px_pop2, px_dup2x, px_goto, px_if_eq, px_ic_eq, px_if_ne, px_ic_ne, px_if_lt, px_ic_lt, px_if_ge, px_ic_ge, px_if_gt, px_ic_gt, px_if_le, px_ic_le, px_ifnull, px_ifnonnull, px_lookupswitch, px_tableswitch, px_getfield, px_iaload, px_laload, px_caload, px_aaload, px_iastore, px_lastore, px_arraylength, px_putfield, px_ireturn, px_lreturn, px_areturn, px_return, px_iv0, px_is0, px_iv1, px_is1, px_iv2, px_is2, px_iv3, px_is3, px_iv4, px_is4, px_iv5, px_is5, px_iv6, px_is6, px_max, px_min, px_abs, px_maxJ, px_minJ, px_ii0, px_ii1, px_iio, px_copy, pz_cpk, pz_lk, pz_alk, pz_ask, pz_gfk, pz_lnk, pz_bx, pz_b, pz_z, pz_s1, pz_s2, pz_wt, pz_cmp, List.getElem?_cons_zero, List.getElem?_cons_succ, List.getElem?_nil, List.set_cons_zero, List.set_cons_succ, List.length_cons, List.length_nil, List.nil_append, List.cons_append, Option.toList_some, Option.toList_none, if_true, if_false, ite_true, ite_false, and_true, true_and, and_self, or_self, or_false, false_or, true_or, or_true, and_false, false_and, not_true_eq_false, not_false_eq_true, forall_const, ne_eq, reduceCtorEq, implies_true, false_implies, true_implies, Int.toNat_natCast, Nat.reduceAdd, Nat.reduceSub, Nat.reduceLT, Nat.reduceLeDiff, Nat.reduceEqDiff, Int.reduceLT, Int.reduceLE, Int.reduceToNat, Int.reduceNeg, Int.reduceEq, Int.reduceAdd, Nat.reduceMul, Int.reduceSub, Nat.reduceBEq, Int.reduceMul, Nat.add_zero, Nat.zero_add, Int.cast_ofNat_Int, Int.ofNat_eq_coe, decide_eq_true_eq, Nat.lt_irrefl, Nat.le_refl, List.getElem?_toArray, Option.elim_some, Option.elim_none, j_Lt_condition_54]
    | succ f ih =>
      intro i e p M hi hip hp hl hF h2 h3 hAp
      have hR := Rf_Pf hR0 hF
      have hT := TC_Pf hT0 hF
      have b1 := bl_le (T := T) hp
      have b2 := bl_ge (T := T) (n := n) (p := p)
      have e1 := c_takes (d := d) (ss := ss) (dd := dd) (v := 124) hR hT h2 hp
      unfold chn
      by_cases c : ch T n (bl T n p) = 124
      · rw [if_pos c] at e1
        have b3 : bl T n p < n := ch_lt c (by decide)
        have ec : oOr (ch T n (bl T n p)) = 11 := by rw [c]; decide
        rw [ec, if_neg (by decide)]
        have en : (2 : Int) * 10000 + 124 = enc (11, 0) := by decide
        have hF2 : Pf M0 (pz_up M 1 2 ((bl T n p : Int) + 1)) := Pf_t hF (Pf_up (.inl ⟨rfl, .inl rfl⟩))
        have hA2 : Ap M0 (pz_up M 1 2 ((bl T n p : Int) + 1)) l0 e.1 := Ap_1_2 hAp
        have h32 : pz_up M 1 2 ((bl T n p : Int) + 1) 1 3 = M0 1 3 := by rw [up_at, if_neg (by omega)]; exact h3
        have h22 : pz_up M 1 2 ((bl T n p : Int) + 1) 1 2 = ((bl T n p + 1 : Nat) : Int) := by rw [up_at, if_pos ⟨rfl, rfl⟩]; rfl
        have hR2 := Rf_Pf hR0 hF2
        generalize pz_up M 1 2 ((bl T n p : Int) + 1) = M2 at *
        have a1 := hA M2 (bl T n p + 1) (l0 + e.1.length) ⟨hR2, TC_Pf hT0 hF2, h22, by omega, hA2.1, by omega⟩ (by unfold LLt; rw [hF2.1 4105 (by decide) (by decide) (by decide)]; exact hL)
        have g1 := hg (bl T n p + 1) (by omega)
        match hz : g (bl T n p + 1), a1, g1 with
        | .inl z, a1, g1 =>
          obtain ⟨M3, t3, f3, p3, w3, q3⟩ := a1
          have t3 : pz_cal (d + 2) 44 [(2, 6), (0, k), (0, 0)] ((pz_SH, ss, 0, 0, dd), M2) = some (some (0, 1), ((pz_SH, ss, 0, 0, dd), M3)) := t3
          have g2 := g1.1
          have g3 := g1.2.1
          have hF3 := Pf_t hF2 f3
          have hR3 := Rf_Pf hR0 hF3
          have hA3 := Ap_t hA2 q3
          have hA4 := Ap_t hA3 (Ap_1 (M := M3) (l := l0 + (e.1 ++ z.1.1).length) (t := (11, 0)) en)
          have e5 := c_emit (d := d + 1) (ss := ss) (dd := dd) (s := 2) (v := 124) hR3 hA3.1 (by rw [List.length_append]; omega) (by decide) (by omega)
          have r := ih (i + 1) (xbin 11 e z.1) z.2 _ (by omega) (by omega) g2 (by rw [xbin_len]; omega) (Pf_t hF3 (Pf_t (Pf_up (.inr (.inr rfl))) (Pf_up (.inr (.inl ⟨rfl, rfl⟩))))) (by rw [up_at, if_neg (by omega), up_at, if_neg (by omega)]; exact p3) (by rw [up_at, if_neg (by omega), up_at, if_neg (by omega), w3]; exact h32) hA4
          generalize pz_up (pz_up M3 7 (l0 + (e.1 ++ z.1.1).length) (2 * 10000 + 124)) 6 2 (((l0 + (e.1 ++ z.1.1).length : Nat) : Int) + 1) = M4 at *
          have t9 : pz_p bl_Lt_condition (pz_cal (d + 2)) 0 0 10 [] [(2, 6), (0, k), (0, b), (0, 1), (0, (i : Int))] [] ((pz_SH, ss, 0, 0, dd), M) = pz_p bl_Lt_condition (pz_cal (d + 2)) 0 0 10 [] [(2, 6), (0, k), (0, b), (0, 1), (0, ((i + 1 : Nat) : Int))] [] ((pz_SH, ss, 0, 0, dd), M4) := by
            show _ = pz_p bl_Lt_condition (pz_cal (d + 2)) 0 0 10 [] [(2, 6), (0, k), (0, b), (0, 1), (0, (i : Int) + 1)] [] ((pz_SH, ss, 0, 0, dd), M4)
            rw [j_Lt_condition_10]
            simp (maxSteps := 1000000) (disch := omega) only [↓reduceIte, sp_0, sp_s, Option.map_some, Option.map_none, Option.some.injEq, o_le, o_nle, o_lt, o_nlt, o_eq, o_neq, w32_id, nw_s, px_iconst, px_bipush, px_sipush, px_ldc, px_ldc_w, px_lconst, px_ldc2_w, px_aconst_null, px_getstatic, px_iload_n, px_iload, px_lload_n, px_lload, px_aload_n, px_aload, px_istore_n, px_istore, px_astore_n, px_astore, px_lstore_n, px_lstore, px_iinc, px_iadd, px_isub, px_imul, px_iand, px_ior, px_ixor, px_ishl, px_ishr, px_iushr, px_ladd, px_lsub, px_lmul, px_land, px_lor, px_lcmp, px_lushr, px_lshl, px_ineg, px_i2l, px_l2i, px_idiv, px_irem, px_ldiv, px_lrem, px_dup0, px_pop0, px_dup2, px_pop2, px_dup2x, px_goto, px_if_eq, px_ic_eq, px_if_ne, px_ic_ne, px_if_lt, px_ic_lt, px_if_ge, px_ic_ge, px_if_gt, px_ic_gt, px_if_le, px_ic_le, px_ifnull, px_ifnonnull, px_lookupswitch, px_tableswitch, px_getfield, px_iaload, px_laload, px_caload, px_aaload, px_iastore, px_lastore, px_arraylength, px_putfield, px_ireturn, px_lreturn, px_areturn, px_return, px_iv0, px_is0, px_iv1, px_is1, px_iv2, px_is2, px_iv3, px_is3, px_iv4, px_is4, px_iv5, px_is5, px_iv6, px_is6, px_max, px_min, px_abs, px_maxJ, px_minJ, px_ii0, px_ii1, px_iio, px_copy, pz_cpk, pz_lk, pz_alk, pz_ask, pz_gfk, pz_lnk, pz_bx, pz_b, pz_z, pz_s1, pz_s2, pz_wt, pz_cmp, List.getElem?_cons_zero, List.getElem?_cons_succ, List.getElem?_nil, List.set_cons_zero, List.set_cons_succ, List.length_cons, List.length_nil, List.nil_append, List.cons_append, Option.toList_some, Option.toList_none, if_true, if_false, ite_true, ite_false, and_true, true_and, and_self, or_self, or_false, false_or, true_or, or_true, and_false, false_and, not_true_eq_false, not_false_eq_true, forall_const, ne_eq, reduceCtorEq, implies_true, false_implies, true_implies, Int.toNat_natCast, Nat.reduceAdd, Nat.reduceSub, Nat.reduceLT, Nat.reduceLeDiff, Nat.reduceEqDiff, Int.reduceLT, Int.reduceLE, Int.reduceToNat, Int.reduceNeg, Int.reduceEq, Int.reduceAdd, Nat.reduceMul, Int.reduceSub, Nat.reduceBEq, Int.reduceMul, Nat.add_zero, Nat.zero_add, Int.cast_ofNat_Int, Int.ofNat_eq_coe, decide_eq_true_eq, Nat.lt_irrefl, Nat.le_refl, List.getElem?_toArray, Option.elim_some, Option.elim_none, g_6, g_1, rf_6_0 hR, e1, t3, e5]
          rw [t9]
          exact r
        | .inr w, a1, g1 =>
          obtain ⟨M3, t3, f3, w3, l', q3, q4⟩ := a1
          have t3 : pz_cal (d + 2) 44 [(2, 6), (0, k), (0, 0)] ((pz_SH, ss, 0, 0, dd), M2) = some (some (0, 0), ((pz_SH, ss, 0, 0, dd), M3)) := t3
          have hF3 := Pf_t hF2 f3
          have hR3 := Rf_Pf hR0 hF3
          obtain ⟨M4, t4, f4, u4, l4, q5, q6⟩ := c_emit2 (d := d + 1) (ss := ss) (dd := dd) (s := 2) (v := 124) hR3 q3 q4 (by decide) (by omega)
          refine ⟨M4, ?_, Pf_t hF3 f4, by rw [u4]; exact w3, l4, q5, q6⟩
          have t9 : pz_p bl_Lt_condition (pz_cal (d + 2)) 0 0 10 [] [(2, 6), (0, k), (0, b), (0, 1), (0, (i : Int))] [] ((pz_SH, ss, 0, 0, dd), M) = pz_p bl_Lt_condition (pz_cal (d + 2)) 0 0 10 [] [(2, 6), (0, k), (0, b), (0, 0), (0, (i : Int) + 1)] [] ((pz_SH, ss, 0, 0, dd), M4) := by
            rw [j_Lt_condition_10]
            simp (maxSteps := 1000000) (disch := omega) only [↓reduceIte, sp_0, sp_s, Option.map_some, Option.map_none, Option.some.injEq, o_le, o_nle, o_lt, o_nlt, o_eq, o_neq, w32_id, nw_s, px_iconst, px_bipush, px_sipush, px_ldc, px_ldc_w, px_lconst, px_ldc2_w, px_aconst_null, px_getstatic, px_iload_n, px_iload, px_lload_n, px_lload, px_aload_n, px_aload, px_istore_n, px_istore, px_astore_n, px_astore, px_lstore_n, px_lstore, px_iinc, px_iadd, px_isub, px_imul, px_iand, px_ior, px_ixor, px_ishl, px_ishr, px_iushr, px_ladd, px_lsub, px_lmul, px_land, px_lor, px_lcmp, px_lushr, px_lshl, px_ineg, px_i2l, px_l2i, px_idiv, px_irem, px_ldiv, px_lrem, px_dup0, px_pop0, px_dup2, px_pop2, px_dup2x, px_goto, px_if_eq, px_ic_eq, px_if_ne, px_ic_ne, px_if_lt, px_ic_lt, px_if_ge, px_ic_ge, px_if_gt, px_ic_gt, px_if_le, px_ic_le, px_ifnull, px_ifnonnull, px_lookupswitch, px_tableswitch, px_getfield, px_iaload, px_laload, px_caload, px_aaload, px_iastore, px_lastore, px_arraylength, px_putfield, px_ireturn, px_lreturn, px_areturn, px_return, px_iv0, px_is0, px_iv1, px_is1, px_iv2, px_is2, px_iv3, px_is3, px_iv4, px_is4, px_iv5, px_is5, px_iv6, px_is6, px_max, px_min, px_abs, px_maxJ, px_minJ, px_ii0, px_ii1, px_iio, px_copy, pz_cpk, pz_lk, pz_alk, pz_ask, pz_gfk, pz_lnk, pz_bx, pz_b, pz_z, pz_s1, pz_s2, pz_wt, pz_cmp, List.getElem?_cons_zero, List.getElem?_cons_succ, List.getElem?_nil, List.set_cons_zero, List.set_cons_succ, List.length_cons, List.length_nil, List.nil_append, List.cons_append, Option.toList_some, Option.toList_none, if_true, if_false, ite_true, ite_false, and_true, true_and, and_self, or_self, or_false, false_or, true_or, or_true, and_false, false_and, not_true_eq_false, not_false_eq_true, forall_const, ne_eq, reduceCtorEq, implies_true, false_implies, true_implies, Int.toNat_natCast, Nat.reduceAdd, Nat.reduceSub, Nat.reduceLT, Nat.reduceLeDiff, Nat.reduceEqDiff, Int.reduceLT, Int.reduceLE, Int.reduceToNat, Int.reduceNeg, Int.reduceEq, Int.reduceAdd, Nat.reduceMul, Int.reduceSub, Nat.reduceBEq, Int.reduceMul, Nat.add_zero, Nat.zero_add, Int.cast_ofNat_Int, Int.ofNat_eq_coe, decide_eq_true_eq, Nat.lt_irrefl, Nat.le_refl, List.getElem?_toArray, Option.elim_some, Option.elim_none, g_6, g_1, rf_6_0 hR, e1, t3, t4]
          rw [t9]
          exact bad M4 _
      · rw [if_neg c] at e1
        have ec : oOr (ch T n (bl T n p)) = 0 := by unfold oOr; rw [if_neg c]
        rw [ec, if_pos rfl]
        refine ⟨pz_up M 1 2 (bl T n p : Int), ?_, Pf_t hF (Pf_up (.inl ⟨rfl, .inl rfl⟩)), by rw [up_at, if_pos ⟨rfl, rfl⟩], by rw [up_at, if_neg (by omega)]; exact h3, Ap_1_2 hAp⟩
        show _ = some (some (0, 1), ((pz_SH, ss, 0, 0, dd), pz_up M 1 2 (bl T n p : Int)))
        generalize pz_up M 1 2 (bl T n p : Int) = M1 at *
        rw [j_Lt_condition_10]
        simp (maxSteps := 1000000) (disch := omega) only [↓reduceIte, sp_0, sp_s, Option.map_some, Option.map_none, Option.some.injEq, o_le, o_nle, o_lt, o_nlt, o_eq, o_neq, w32_id, nw_s, px_iconst, px_bipush, px_sipush, px_ldc, px_ldc_w, px_lconst, px_ldc2_w, px_aconst_null, px_getstatic, px_iload_n, px_iload, px_lload_n, px_lload, px_aload_n, px_aload, px_istore_n, px_istore, px_astore_n, px_astore, px_lstore_n, px_lstore, px_iinc, px_iadd, px_isub, px_imul, px_iand, px_ior, px_ixor, px_ishl, px_ishr, px_iushr, px_ladd, px_lsub, px_lmul, px_land, px_lor, px_lcmp, px_lushr, px_lshl, px_ineg, px_i2l, px_l2i, px_idiv, px_irem, px_ldiv, px_lrem, px_dup0, px_pop0, px_dup2, px_pop2, px_dup2x, px_goto, px_if_eq, px_ic_eq, px_if_ne, px_ic_ne, px_if_lt, px_ic_lt, px_if_ge, px_ic_ge, px_if_gt, px_ic_gt, px_if_le, px_ic_le, px_ifnull, px_ifnonnull, px_lookupswitch, px_tableswitch, px_getfield, px_iaload, px_laload, px_caload, px_aaload, px_iastore, px_lastore, px_arraylength, px_putfield, px_ireturn, px_lreturn, px_areturn, px_return, px_iv0, px_is0, px_iv1, px_is1, px_iv2, px_is2, px_iv3, px_is3, px_iv4, px_is4, px_iv5, px_is5, px_iv6, px_is6, px_max, px_min, px_abs, px_maxJ, px_minJ, px_ii0, px_ii1, px_iio, px_copy, pz_cpk, pz_lk, pz_alk, pz_ask, pz_gfk, pz_lnk, pz_bx, pz_b, pz_z, pz_s1, pz_s2, pz_wt, pz_cmp, List.getElem?_cons_zero, List.getElem?_cons_succ, List.getElem?_nil, List.set_cons_zero, List.set_cons_succ, List.length_cons, List.length_nil, List.nil_append, List.cons_append, Option.toList_some, Option.toList_none, if_true, if_false, ite_true, ite_false, and_true, true_and, and_self, or_self, or_false, false_or, true_or, or_true, and_false, false_and, not_true_eq_false, not_false_eq_true, forall_const, ne_eq, reduceCtorEq, implies_true, false_implies, true_implies, Int.toNat_natCast, Nat.reduceAdd, Nat.reduceSub, Nat.reduceLT, Nat.reduceLeDiff, Nat.reduceEqDiff, Int.reduceLT, Int.reduceLE, Int.reduceToNat, Int.reduceNeg, Int.reduceEq, Int.reduceAdd, Nat.reduceMul, Int.reduceSub, Nat.reduceBEq, Int.reduceMul, Nat.add_zero, Nat.zero_add, Int.cast_ofNat_Int, Int.ofNat_eq_coe, decide_eq_true_eq, Nat.lt_irrefl, Nat.le_refl, List.getElem?_toArray, Option.elim_some, Option.elim_none, j_Lt_condition_54, g_6, g_1, rf_6_0 hR, e1]
  match r0, a1, g1 with
  | .inl z, a1, g1 =>
    obtain ⟨M3, t3, f3, p3, w3, q3⟩ := a1
    have t3 : pz_cal (d + 2) 44 [(2, 6), (0, k), (0, b)] ((pz_SH, ss, 0, 0, dd), M9) = some (some (0, 1), ((pz_SH, ss, 0, 0, dd), M3)) := t3
    have r := lp 240 0 z.1 z.2 M3 (by omega) (by omega) g1.1 (by have := g1.2.1; omega) f3 p3 w3 q3
    have t9 : pz_cal (d + 3) 43 [(2, 6), (0, k), (0, b)] ((pz_SH, ss, 0, 0, dd), M9) = pz_p bl_Lt_condition (pz_cal (d + 2)) 0 0 10 [] [(2, 6), (0, k), (0, b), (0, 1), (0, ((0 : Nat) : Int))] [] ((pz_SH, ss, 0, 0, dd), M3) := by
      show _ = pz_p bl_Lt_condition (pz_cal (d + 2)) 0 0 10 [] [(2, 6), (0, k), (0, b), (0, 1), (0, 0)] [] ((pz_SH, ss, 0, 0, dd), M3)
      simp (maxSteps := 1000000) (disch := omega) only [↓reduceIte, sp_0, sp_s, Option.map_some, Option.map_none, Option.some.injEq, o_le, o_nle, o_lt, o_nlt, o_eq, o_neq, w32_id, up_at, nw_at, nw_s, k_Lt_condition, px_iconst, px_bipush, px_sipush, px_ldc, px_ldc_w, px_lconst, px_ldc2_w, px_aconst_null, px_getstatic, px_iload_n, px_iload, px_lload_n, px_lload, px_aload_n, px_aload, px_istore_n, px_istore, px_astore_n, px_astore, px_lstore_n, px_lstore, px_iinc, px_iadd, px_isub, px_imul, px_iand, px_ior, px_ixor, px_ishl, px_ishr, px_iushr, px_ladd, px_lsub, px_lmul, px_land, px_lor, px_lcmp, px_lushr, px_lshl, px_ineg, px_i2l, px_l2i, px_idiv, px_irem, px_ldiv, px_lrem, px_dup0, px_pop0, px_dup2, px_pop2, px_dup2x, px_goto, px_if_eq, px_ic_eq, px_if_ne, px_ic_ne, px_if_lt, px_ic_lt, px_if_ge, px_ic_ge, px_if_gt, px_ic_gt, px_if_le, px_ic_le, px_ifnull, px_ifnonnull, px_lookupswitch, px_tableswitch, px_getfield, px_iaload, px_laload, px_caload, px_aaload, px_iastore, px_lastore, px_arraylength, px_putfield, px_ireturn, px_lreturn, px_areturn, px_return, px_iv0, px_is0, px_iv1, px_is1, px_iv2, px_is2, px_iv3, px_is3, px_iv4, px_is4, px_iv5, px_is5, px_iv6, px_is6, px_max, px_min, px_abs, px_maxJ, px_minJ, px_ii0, px_ii1, px_iio, px_copy, pz_cpk, pz_lk, pz_alk, pz_ask, pz_gfk, pz_lnk, pz_bx, pz_b, pz_z, pz_s1, pz_s2, pz_wt, pz_cmp, List.getElem?_cons_zero, List.getElem?_cons_succ, List.getElem?_nil, List.set_cons_zero, List.set_cons_succ, List.length_cons, List.length_nil, List.nil_append, List.cons_append, Option.toList_some, Option.toList_none, if_true, if_false, ite_true, ite_false, and_true, true_and, and_self, or_self, or_false, false_or, true_or, or_true, and_false, false_and, not_true_eq_false, not_false_eq_true, forall_const, ne_eq, reduceCtorEq, implies_true, false_implies, true_implies, Int.toNat_natCast, Nat.reduceAdd, Nat.reduceSub, Nat.reduceLT, Nat.reduceLeDiff, Nat.reduceEqDiff, Int.reduceLT, Int.reduceLE, Int.reduceToNat, Int.reduceNeg, Int.reduceEq, Int.reduceAdd, Nat.reduceMul, Int.reduceSub, Nat.reduceBEq, Int.reduceMul, Nat.add_zero, Nat.zero_add, Int.cast_ofNat_Int, Int.ofNat_eq_coe, decide_eq_true_eq, Nat.lt_irrefl, Nat.le_refl, List.getElem?_toArray, Option.elim_some, Option.elim_none, j_Lt_condition_0, g_6, t3]
    rw [t9]
    exact r
  | .inr w, a1, g1 =>
    obtain ⟨M3, t3, f3, w3, l', q3, q4⟩ := a1
    have t3 : pz_cal (d + 2) 44 [(2, 6), (0, k), (0, b)] ((pz_SH, ss, 0, 0, dd), M9) = some (some (0, 0), ((pz_SH, ss, 0, 0, dd), M3)) := t3
    refine ⟨M3, ?_, f3, w3, l', q3, q4⟩
    have t9 : pz_cal (d + 3) 43 [(2, 6), (0, k), (0, b)] ((pz_SH, ss, 0, 0, dd), M9) = pz_p bl_Lt_condition (pz_cal (d + 2)) 0 0 10 [] [(2, 6), (0, k), (0, b), (0, 0), (0, 0)] [] ((pz_SH, ss, 0, 0, dd), M3) := by
      simp (maxSteps := 1000000) (disch := omega) only [↓reduceIte, sp_0, sp_s, Option.map_some, Option.map_none, Option.some.injEq, o_le, o_nle, o_lt, o_nlt, o_eq, o_neq, w32_id, up_at, nw_at, nw_s, k_Lt_condition, px_iconst, px_bipush, px_sipush, px_ldc, px_ldc_w, px_lconst, px_ldc2_w, px_aconst_null, px_getstatic, px_iload_n, px_iload, px_lload_n, px_lload, px_aload_n, px_aload, px_istore_n, px_istore, px_astore_n, px_astore, px_lstore_n, px_lstore, px_iinc, px_iadd, px_isub, px_imul, px_iand, px_ior, px_ixor, px_ishl, px_ishr, px_iushr, px_ladd, px_lsub, px_lmul, px_land, px_lor, px_lcmp, px_lushr, px_lshl, px_ineg, px_i2l, px_l2i, px_idiv, px_irem, px_ldiv, px_lrem, px_dup0, px_pop0, px_dup2, px_pop2, px_dup2x, px_goto, px_if_eq, px_ic_eq, px_if_ne, px_ic_ne, px_if_lt, px_ic_lt, px_if_ge, px_ic_ge, px_if_gt, px_ic_gt, px_if_le, px_ic_le, px_ifnull, px_ifnonnull, px_lookupswitch, px_tableswitch, px_getfield, px_iaload, px_laload, px_caload, px_aaload, px_iastore, px_lastore, px_arraylength, px_putfield, px_ireturn, px_lreturn, px_areturn, px_return, px_iv0, px_is0, px_iv1, px_is1, px_iv2, px_is2, px_iv3, px_is3, px_iv4, px_is4, px_iv5, px_is5, px_iv6, px_is6, px_max, px_min, px_abs, px_maxJ, px_minJ, px_ii0, px_ii1, px_iio, px_copy, pz_cpk, pz_lk, pz_alk, pz_ask, pz_gfk, pz_lnk, pz_bx, pz_b, pz_z, pz_s1, pz_s2, pz_wt, pz_cmp, List.getElem?_cons_zero, List.getElem?_cons_succ, List.getElem?_nil, List.set_cons_zero, List.set_cons_succ, List.length_cons, List.length_nil, List.nil_append, List.cons_append, Option.toList_some, Option.toList_none, if_true, if_false, ite_true, ite_false, and_true, true_and, and_self, or_self, or_false, false_or, true_or, or_true, and_false, false_and, not_true_eq_false, not_false_eq_true, forall_const, ne_eq, reduceCtorEq, implies_true, false_implies, true_implies, Int.toNat_natCast, Nat.reduceAdd, Nat.reduceSub, Nat.reduceLT, Nat.reduceLeDiff, Nat.reduceEqDiff, Int.reduceLT, Int.reduceLE, Int.reduceToNat, Int.reduceNeg, Int.reduceEq, Int.reduceAdd, Nat.reduceMul, Int.reduceSub, Nat.reduceBEq, Int.reduceMul, Nat.add_zero, Nat.zero_add, Int.cast_ofNat_Int, Int.ofNat_eq_coe, decide_eq_true_eq, Nat.lt_irrefl, Nat.le_refl, List.getElem?_toArray, Option.elim_some, Option.elim_none, j_Lt_condition_0, g_6, t3]
    rw [t9]
    exact bad M3 _
end P68
/-! THE CLASS READS A LAW: units and conditions of every depth -/
theorem Rc_base {M M1 : pz_M} {l : Nat} {X : Int → pz_M → pz_A} {K : pz_A} {r : Rs Ex} (h : Rc M1 l X K r) (hF : Pf M M1) (h3 : M1 1 3 = M 1 3) (h7 : M1 7 = M 7) : Rc M l X K r := by
  match r, h with
  | .inl z, ⟨M', t, f, p, w, q⟩ => exact ⟨M', t, Pf_t hF f, p, w.trans h3, Ap_base q h7⟩
  | .inr w, ⟨M', t, f, p, q⟩ => exact ⟨M', t, Pf_t hF f, p, q⟩
theorem LLt_Pf {M M1 : pz_M} (h : LLt M) (hF : Pf M M1) : LLt M1 := by unfold LLt; rw [hF.1 4105 (by decide) (by decide) (by decide)]; exact h
section P69a
variable {T : Nat → Int} {n : Nat}
theorem numb_bl {D : Nat} {most : Int} {p : Nat} : numb T n D most (bl T n p) = numb T n D most p := by unfold numb; rw [bl_bl]
theorem sq1_bl {op : Int → Int} {g : Nat → Rs Ex} (h : ∀ p, g (bl T n p) = g p) (p : Nat) : sq1 T n op g (bl T n p) = sq1 T n op g p := by unfold sq1; rw [h]
theorem atm_bl {inn : Nat → Rs Ex} (h : ∀ p, inn (bl T n p) = inn p) (p : Nat) : atm T n inn (bl T n p) = atm T n inn p := by unfold atm; rw [bl_bl, h, numb_bl]
theorem flt_bl (p : Nat) : flt T n (bl T n p) = flt T n p := by unfold flt; rw [bl_bl]
theorem gSm_bl : ∀ j p, gSm T n j (bl T n p) = gSm T n j p
  | 0, p => by unfold gSm gTm; exact sq1_bl (sq1_bl (atm_bl flt_bl)) p
  | j + 1, p => by unfold gSm gTm; exact sq1_bl (sq1_bl (atm_bl (fun p => by rw [bl_bl]))) p
theorem gCm_bl {s : Nat → Rs Ex} {e : Ex} {p : Nat} : gCm T n s e (bl T n p) = gCm T n s e p := by unfold gCm; rw [bl_bl]
theorem sgn_oCm {c : Int} (h : oCm c ≠ 0) : sgn (oCm c) = c ∧ 0 ≤ c ∧ c ≤ 200 ∧ enc (oCm c, 0) = 2 * 10000 + c := by
  unfold oCm at *
  by_cases g1 : c = 61
  · subst g1; decide
  · by_cases g2 : c = 60
    · subst g2; decide
    · by_cases g3 : c = 62
      · subst g3; decide
      · rw [if_neg g1, if_neg g2, if_neg g3] at h; exact (h rfl).elim
end P69a
section P69
variable {d : Nat} {ss : List (Nat × Nat)} {dd : Nat} {T : Nat → Int} {n : Nat}
set_option maxRecDepth 100000 in
theorem c_unit_62 {s : Nat → Rs Ex} {h : Nat} {k b x : Int} (hg : ∀ p, p ≤ n → Gr n p h False (s p)) (hs : ∀ M p l, Sc M T n p l → LLt M → Rc M l (fun v M' => some (some (0, v), ((pz_SH, ss, 0, 0, dd), M'))) (pz_cal (d + 3) 37 [(2, 6), (0, k)] ((pz_SH, ss, 0, 0, dd), M)) (s p)) {M0 M : pz_M} {l0 p : Nat} {e : Ex} (hR0 : Rf M0) (hT0 : TC M0 T n) (hL : LLt M0) (hp : p ≤ n) (hl : l0 + e.1.length ≤ p) (hF : Pf M0 M) (h2 : M 1 2 = (p : Int)) (h3 : M 1 3 = M0 1 3) (hAp : Ap M0 M l0 e.1) : Rc M0 l0 (fun v M' => some (some (0, v), ((pz_SH, ss, 0, 0, dd), M'))) (pz_p bl_Lt_unit (pz_cal (d + 3)) 0 0 62 [] [(2, 6), (0, k), (0, b), (0, x), (9, 0)] [] ((pz_SH, ss, 0, 0, dd), M)) (gCm T n s e p) := by
  have n240 := hT0.2.1
  have hR := Rf_Pf hR0 hF
  have hT := TC_Pf hT0 hF
  have b1 := bl_le (T := T) hp
  have b2 := bl_ge (T := T) (n := n) (p := p)
  have e1 := c_sign (d := d + 2) (ss := ss) (dd := dd) hR hT h2 hp
  have hF1 : Pf M (pz_up M 1 2 (bl T n p : Int)) := Pf_up (.inl ⟨rfl, .inl rfl⟩)
  have hR1 := Rf_Pf hR hF1
  have h21 : pz_up M 1 2 (bl T n p : Int) 1 2 = (bl T n p : Int) := by rw [up_at, if_pos ⟨rfl, rfl⟩]
  have e2 := c_isComparison (d := d + 2) (ss := ss) (dd := dd) (M := pz_up M 1 2 (bl T n p : Int)) (c := ch T n (bl T n p))
  have q62 := hAp.1
  unfold gCm
  by_cases c : oCm (ch T n (bl T n p)) = 0
  · rw [if_pos c] at e2 ⊢
    have e3 := c_fail (d := d + 2) (ss := ss) (dd := dd) h21
    refine ⟨pz_up (pz_up M 1 2 (bl T n p : Int)) 1 3 (bl T n p : Int), ?_, Pf_t hF (Pf_t hF1 (Pf_up (.inl ⟨rfl, .inr rfl⟩))), by rw [up_at, if_pos ⟨rfl, rfl⟩], l0 + e.1.length, by rw [up_at, if_neg (by omega), up_at, if_neg (by omega)]; exact q62, by omega⟩
    show _ = some (some (0, 0), ((pz_SH, ss, 0, 0, dd), pz_up (pz_up M 1 2 (bl T n p : Int)) 1 3 (bl T n p : Int)))
    generalize ch T n (bl T n p) = cc at *
    generalize pz_up (pz_up M 1 2 (bl T n p : Int)) 1 3 (bl T n p : Int) = M3 at *
    generalize pz_up M 1 2 (bl T n p : Int) = M1 at *
    rw [j_Lt_unit_62]
    simp (maxSteps := 1000000) (disch := omega) only [↓reduceIte, sp_0, sp_s, Option.map_some, Option.map_none, Option.some.injEq, o_le, o_nle, o_lt, o_nlt, o_eq, o_neq, w32_id, nw_s, px_iconst, px_bipush, px_sipush, px_ldc, px_ldc_w, px_lconst, px_ldc2_w, px_aconst_null, px_getstatic, px_iload_n, px_iload, px_lload_n, px_lload, px_aload_n, px_aload, px_istore_n, px_istore, px_astore_n, px_astore, px_lstore_n, px_lstore, px_iinc, px_iadd, px_isub, px_imul, px_iand, px_ior, px_ixor, px_ishl, px_ishr, px_iushr, px_ladd, px_lsub, px_lmul, px_land, px_lor, px_lcmp, px_lushr, px_lshl, px_ineg, px_i2l, px_l2i, px_idiv, px_irem, px_ldiv, px_lrem, px_dup0, px_pop0, px_dup2, px_pop2, px_dup2x, px_goto, px_if_eq, px_ic_eq, px_if_ne, px_ic_ne, px_if_lt, px_ic_lt, px_if_ge, px_ic_ge, px_if_gt, px_ic_gt, px_if_le, px_ic_le, px_ifnull, px_ifnonnull, px_lookupswitch, px_tableswitch, px_getfield, px_iaload, px_laload, px_caload, px_aaload, px_iastore, px_lastore, px_arraylength, px_putfield, px_ireturn, px_lreturn, px_areturn, px_return, px_iv0, px_is0, px_iv1, px_is1, px_iv2, px_is2, px_iv3, px_is3, px_iv4, px_is4, px_iv5, px_is5, px_iv6, px_is6, px_max, px_min, px_abs, px_maxJ, px_minJ, px_ii0, px_ii1, px_iio, px_copy, pz_cpk, pz_lk, pz_alk, pz_ask, pz_gfk, pz_lnk, pz_bx, pz_b, pz_z, pz_s1, pz_s2, pz_wt, pz_cmp, List.getElem?_cons_zero, List.getElem?_cons_succ, List.getElem?_nil, List.set_cons_zero, List.set_cons_succ, List.length_cons, List.length_nil, List.nil_append, List.cons_append, Option.toList_some, Option.toList_none, if_true, if_false, ite_true, ite_false, and_true, true_and, and_self, or_self, or_false, false_or, true_or, or_true, and_false, false_and, not_true_eq_false, not_false_eq_true, forall_const, ne_eq, reduceCtorEq, implies_true, false_implies, true_implies, Int.toNat_natCast, Nat.reduceAdd, Nat.reduceSub, Nat.reduceLT, Nat.reduceLeDiff, Nat.reduceEqDiff, Int.reduceLT, Int.reduceLE, Int.reduceToNat, Int.reduceNeg, Int.reduceEq, Int.reduceAdd, Nat.reduceMul, Int.reduceSub, Nat.reduceBEq, Int.reduceMul, Nat.add_zero, Nat.zero_add, Int.cast_ofNat_Int, Int.ofNat_eq_coe, decide_eq_true_eq, Nat.lt_irrefl, Nat.le_refl, List.getElem?_toArray, Option.elim_some, Option.elim_none, g_6, g_1, rf_6_0 hR, rf_6_0 hR1, e1, e2, e3]
  · rw [if_neg c] at e2 ⊢
    obtain ⟨es, c0, c2, en⟩ := sgn_oCm c
    have b3 : bl T n p < n := ch_lt (T := T) rfl (by omega)
    have e3 := c_step (d := d + 2) (ss := ss) (dd := dd) h21 (by omega)
    rw [up_up2] at e3
    have hF2 : Pf M0 (pz_up M 1 2 ((bl T n p : Int) + 1)) := Pf_t hF (Pf_up (.inl ⟨rfl, .inl rfl⟩))
    have hA2 : Ap M0 (pz_up M 1 2 ((bl T n p : Int) + 1)) l0 e.1 := Ap_1_2 hAp
    have h32 : pz_up M 1 2 ((bl T n p : Int) + 1) 1 3 = M0 1 3 := by rw [up_at, if_neg (by omega)]; exact h3
    have h22 : pz_up M 1 2 ((bl T n p : Int) + 1) 1 2 = ((bl T n p + 1 : Nat) : Int) := by rw [up_at, if_pos ⟨rfl, rfl⟩]; rfl
    have hR2 := Rf_Pf hR0 hF2
    generalize pz_up M 1 2 ((bl T n p : Int) + 1) = M2 at *
    have a1 := hs M2 (bl T n p + 1) (l0 + e.1.length) ⟨hR2, TC_Pf hT0 hF2, h22, by omega, hA2.1, by omega⟩ (LLt_Pf hL hF2)
    have g1 := hg (bl T n p + 1) (by omega)
    generalize pz_up M 1 2 (bl T n p : Int) = M1 at *
    match hz : s (bl T n p + 1), a1, g1 with
    | .inl z, a1, g1 =>
      obtain ⟨M3, t3, f3, p3, w3, q3⟩ := a1
      have t3 : pz_cal (d + 3) 37 [(2, 6), (0, k)] ((pz_SH, ss, 0, 0, dd), M2) = some (some (0, 1), ((pz_SH, ss, 0, 0, dd), M3)) := t3
      have g2 := g1.1
      have g3 := g1.2.1
      have hF3 := Pf_t hF2 f3
      have hR3 := Rf_Pf hR0 hF3
      have hA3 := Ap_t hA2 q3
      have hA4 := Ap_t hA3 (Ap_1 (M := M3) (l := l0 + (e.1 ++ z.1.1).length) (t := (oCm (ch T n (bl T n p)), 0)) en.symm)
      have e5 := c_emit (d := d + 2) (ss := ss) (dd := dd) (s := 2) (v := ch T n (bl T n p)) hR3 hA3.1 (by rw [List.length_append]; omega) (by decide) (by omega)
      refine ⟨_, ?_, Pf_t hF3 (Pf_t (Pf_up (.inr (.inr rfl))) (Pf_up (.inr (.inl ⟨rfl, rfl⟩)))), by rw [up_at, if_neg (by omega), up_at, if_neg (by omega)]; exact p3, by rw [up_at, if_neg (by omega), up_at, if_neg (by omega), w3]; exact h32, hA4⟩
      generalize ch T n (bl T n p) = cc at *
      generalize pz_up (pz_up M3 7 (l0 + (e.1 ++ z.1.1).length) (2 * 10000 + cc)) 6 2 (((l0 + (e.1 ++ z.1.1).length : Nat) : Int) + 1) = M4 at *
      show _ = some (some (0, 1), ((pz_SH, ss, 0, 0, dd), M4))
      rw [j_Lt_unit_62]
      simp (maxSteps := 1000000) (disch := omega) only [↓reduceIte, sp_0, sp_s, Option.map_some, Option.map_none, Option.some.injEq, o_le, o_nle, o_lt, o_nlt, o_eq, o_neq, w32_id, nw_s, px_iconst, px_bipush, px_sipush, px_ldc, px_ldc_w, px_lconst, px_ldc2_w, px_aconst_null, px_getstatic, px_iload_n, px_iload, px_lload_n, px_lload, px_aload_n, px_aload, px_istore_n, px_istore, px_astore_n, px_astore, px_lstore_n, px_lstore, px_iinc, px_iadd, px_isub, px_imul, px_iand, px_ior, px_ixor, px_ishl, px_ishr, px_iushr, px_ladd, px_lsub, px_lmul, px_land, px_lor, px_lcmp, px_lushr, px_lshl, px_ineg, px_i2l, px_l2i, px_idiv, px_irem, px_ldiv, px_lrem, px_dup0, px_pop0, px_dup2, px_pop2, px_dup2x, px_goto, px_if_eq, px_ic_eq, px_if_ne, px_ic_ne, px_if_lt, px_ic_lt, px_if_ge, px_ic_ge, px_if_gt, px_ic_gt, px_if_le, px_ic_le, px_ifnull, px_ifnonnull, px_lookupswitch, px_tableswitch, px_getfield, px_iaload, px_laload, px_caload, px_aaload, px_iastore, px_lastore, px_arraylength, px_putfield, px_ireturn, px_lreturn, px_areturn, px_return, px_iv0, px_is0, px_iv1, px_is1, px_iv2, px_is2, px_iv3, px_is3, px_iv4, px_is4, px_iv5, px_is5, px_iv6, px_is6, px_max, px_min, px_abs, px_maxJ, px_minJ, px_ii0, px_ii1, px_iio, px_copy, pz_cpk, pz_lk, pz_alk, pz_ask, pz_gfk, pz_lnk, pz_bx, pz_b, pz_z, pz_s1, pz_s2, pz_wt, pz_cmp, List.getElem?_cons_zero, List.getElem?_cons_succ, List.getElem?_nil, List.set_cons_zero, List.set_cons_succ, List.length_cons, List.length_nil, List.nil_append, List.cons_append, Option.toList_some, Option.toList_none, if_true, if_false, ite_true, ite_false, and_true, true_and, and_self, or_self, or_false, false_or, true_or, or_true, and_false, false_and, not_true_eq_false, not_false_eq_true, forall_const, ne_eq, reduceCtorEq, implies_true, false_implies, true_implies, Int.toNat_natCast, Nat.reduceAdd, Nat.reduceSub, Nat.reduceLT, Nat.reduceLeDiff, Nat.reduceEqDiff, Int.reduceLT, Int.reduceLE, Int.reduceToNat, Int.reduceNeg, Int.reduceEq, Int.reduceAdd, Nat.reduceMul, Int.reduceSub, Nat.reduceBEq, Int.reduceMul, Nat.add_zero, Nat.zero_add, Int.cast_ofNat_Int, Int.ofNat_eq_coe, decide_eq_true_eq, Nat.lt_irrefl, Nat.le_refl, List.getElem?_toArray, Option.elim_some, Option.elim_none, j_Lt_unit_87, j_Lt_unit_104, g_6, g_1, rf_6_0 hR, rf_6_0 hR1, e1, e2, e3, t3, e5]
    | .inr w, a1, g1 =>
      obtain ⟨M3, t3, f3, w3, l', q3, q4⟩ := a1
      have t3 : pz_cal (d + 3) 37 [(2, 6), (0, k)] ((pz_SH, ss, 0, 0, dd), M2) = some (some (0, 0), ((pz_SH, ss, 0, 0, dd), M3)) := t3
      refine ⟨M3, ?_, Pf_t hF2 f3, w3, l', q3, q4⟩
      show _ = some (some (0, 0), ((pz_SH, ss, 0, 0, dd), M3))
      generalize ch T n (bl T n p) = cc at *
      rw [j_Lt_unit_62]
      simp (maxSteps := 1000000) (disch := omega) only [↓reduceIte, sp_0, sp_s, Option.map_some, Option.map_none, Option.some.injEq, o_le, o_nle, o_lt, o_nlt, o_eq, o_neq, w32_id, nw_s, px_iconst, px_bipush, px_sipush, px_ldc, px_ldc_w, px_lconst, px_ldc2_w, px_aconst_null, px_getstatic, px_iload_n, px_iload, px_lload_n, px_lload, px_aload_n, px_aload, px_istore_n, px_istore, px_astore_n, px_astore, px_lstore_n, px_lstore, px_iinc, px_iadd, px_isub, px_imul, px_iand, px_ior, px_ixor, px_ishl, px_ishr, px_iushr, px_ladd, px_lsub, px_lmul, px_land, px_lor, px_lcmp, px_lushr, px_lshl, px_ineg, px_i2l, px_l2i, px_idiv, px_irem, px_ldiv, px_lrem, px_dup0, px_pop0, px_dup2, px_pop2, px_dup2x, px_goto, px_if_eq, px_ic_eq, px_if_ne, px_ic_ne, px_if_lt, px_ic_lt, px_if_ge, px_ic_ge, px_if_gt, px_ic_gt, px_if_le, px_ic_le, px_ifnull, px_ifnonnull, px_lookupswitch, px_tableswitch, px_getfield, px_iaload, px_laload, px_caload, px_aaload, px_iastore, px_lastore, px_arraylength, px_putfield, px_ireturn, px_lreturn, px_areturn, px_return, px_iv0, px_is0, px_iv1, px_is1, px_iv2, px_is2, px_iv3, px_is3, px_iv4, px_is4, px_iv5, px_is5, px_iv6, px_is6, px_max, px_min, px_abs, px_maxJ, px_minJ, px_ii0, px_ii1, px_iio, px_copy, pz_cpk, pz_lk, pz_alk, pz_ask, pz_gfk, pz_lnk, pz_bx, pz_b, pz_z, pz_s1, pz_s2, pz_wt, pz_cmp, List.getElem?_cons_zero, List.getElem?_cons_succ, List.getElem?_nil, List.set_cons_zero, List.set_cons_succ, List.length_cons, List.length_nil, List.nil_append, List.cons_append, Option.toList_some, Option.toList_none, if_true, if_false, ite_true, ite_false, and_true, true_and, and_self, or_self, or_false, false_or, true_or, or_true, and_false, false_and, not_true_eq_false, not_false_eq_true, forall_const, ne_eq, reduceCtorEq, implies_true, false_implies, true_implies, Int.toNat_natCast, Nat.reduceAdd, Nat.reduceSub, Nat.reduceLT, Nat.reduceLeDiff, Nat.reduceEqDiff, Int.reduceLT, Int.reduceLE, Int.reduceToNat, Int.reduceNeg, Int.reduceEq, Int.reduceAdd, Nat.reduceMul, Int.reduceSub, Nat.reduceBEq, Int.reduceMul, Nat.add_zero, Nat.zero_add, Int.cast_ofNat_Int, Int.ofNat_eq_coe, decide_eq_true_eq, Nat.lt_irrefl, Nat.le_refl, List.getElem?_toArray, Option.elim_some, Option.elim_none, j_Lt_unit_87, j_Lt_unit_104, g_6, g_1, rf_6_0 hR, rf_6_0 hR1, e1, e2, e3, t3]
set_option maxRecDepth 100000 in
theorem c_unit_b {s : Nat → Rs Ex} {h : Nat} {k : Int} (hg : ∀ p, p ≤ n → Gr n p h False (s p)) (hs : ∀ M p l, Sc M T n p l → LLt M → Rc M l (fun v M' => some (some (0, v), ((pz_SH, ss, 0, 0, dd), M'))) (pz_cal (d + 3) 37 [(2, 6), (0, k)] ((pz_SH, ss, 0, 0, dd), M)) (s p)) {M0 M : pz_M} {l0 p : Nat} {e : Ex} (hR0 : Rf M0) (hT0 : TC M0 T n) (hL : LLt M0) (hp : p ≤ n) (hl : l0 + e.1.length ≤ p) (hF : Pf M0 M) (h2 : M 1 2 = (p : Int)) (h3 : M 1 3 = M0 1 3) (hAp : Ap M0 M l0 e.1) : Rc M0 l0 (fun v M' => some (some (0, v), ((pz_SH, ss, 0, 0, dd), M'))) (pz_cal (d + 4) 45 [(2, 6), (0, k), (0, 1)] ((pz_SH, ss, 0, 0, dd), M)) (gCm T n s e p) := by
  have hR := Rf_Pf hR0 hF
  have e1 := c_sign (d := d + 2) (ss := ss) (dd := dd) hR (TC_Pf hT0 hF) h2 hp
  have hF1 : Pf M (pz_up M 1 2 (bl T n p : Int)) := Pf_up (.inl ⟨rfl, .inl rfl⟩)
  have b2 := bl_ge (T := T) (n := n) (p := p)
  have r := c_unit_62 (d := d) (ss := ss) (dd := dd) (b := 1) (x := ch T n (bl T n p)) (M := pz_up M 1 2 (bl T n p : Int)) (p := bl T n p) (e := e) hg hs hR0 hT0 hL (bl_le hp) (by omega) (Pf_t hF hF1) (by rw [up_at, if_pos ⟨rfl, rfl⟩]) (by rw [up_at, if_neg (by omega)]; exact h3) (Ap_1_2 hAp)
  rw [gCm_bl] at r
  have t : pz_cal (d + 4) 45 [(2, 6), (0, k), (0, 1)] ((pz_SH, ss, 0, 0, dd), M) = pz_p bl_Lt_unit (pz_cal (d + 3)) 0 0 62 [] [(2, 6), (0, k), (0, 1), (0, ch T n (bl T n p)), (9, 0)] [] ((pz_SH, ss, 0, 0, dd), pz_up M 1 2 (bl T n p : Int)) := by
    generalize ch T n (bl T n p) = cc at *
    generalize pz_up M 1 2 (bl T n p : Int) = M1 at *
    simp (maxSteps := 1000000) (disch := omega) only [↓reduceIte, sp_0, sp_s, Option.map_some, Option.map_none, Option.some.injEq, o_le, o_nle, o_lt, o_nlt, o_eq, o_neq, w32_id, up_at, nw_at, nw_s, k_Lt_unit, px_iconst, px_bipush, px_sipush, px_ldc, px_ldc_w, px_lconst, px_ldc2_w, px_aconst_null, px_getstatic, px_iload_n, px_iload, px_lload_n, px_lload, px_aload_n, px_aload, px_istore_n, px_istore, px_astore_n, px_astore, px_lstore_n, px_lstore, px_iinc, px_iadd, px_isub, px_imul, px_iand, px_ior, px_ixor, px_ishl, px_ishr, px_iushr, px_ladd, px_lsub, px_lmul, px_land, px_lor, px_lcmp, px_lushr, px_lshl, px_ineg, px_i2l, px_l2i, px_idiv, px_irem, px_ldiv, px_lrem, px_dup0, px_pop0, px_dup2, px_pop2, px_dup2x, px_goto, px_if_eq, px_ic_eq, px_if_ne, px_ic_ne, px_if_lt, px_ic_lt, px_if_ge, px_ic_ge, px_if_gt, px_ic_gt, px_if_le, px_ic_le, px_ifnull, px_ifnonnull, px_lookupswitch, px_tableswitch, px_getfield, px_iaload, px_laload, px_caload, px_aaload, px_iastore, px_lastore, px_arraylength, px_putfield, px_ireturn, px_lreturn, px_areturn, px_return, px_iv0, px_is0, px_iv1, px_is1, px_iv2, px_is2, px_iv3, px_is3, px_iv4, px_is4, px_iv5, px_is5, px_iv6, px_is6, px_max, px_min, px_abs, px_maxJ, px_minJ, px_ii0, px_ii1, px_iio, px_copy, pz_cpk, pz_lk, pz_alk, pz_ask, pz_gfk, pz_lnk, pz_bx, pz_b, pz_z, pz_s1, pz_s2, pz_wt, pz_cmp, List.getElem?_cons_zero, List.getElem?_cons_succ, List.getElem?_nil, List.set_cons_zero, List.set_cons_succ, List.length_cons, List.length_nil, List.nil_append, List.cons_append, Option.toList_some, Option.toList_none, if_true, if_false, ite_true, ite_false, and_true, true_and, and_self, or_self, or_false, false_or, true_or, or_true, and_false, false_and, not_true_eq_false, not_false_eq_true, forall_const, ne_eq, reduceCtorEq, implies_true, false_implies, true_implies, Int.toNat_natCast, Nat.reduceAdd, Nat.reduceSub, Nat.reduceLT, Nat.reduceLeDiff, Nat.reduceEqDiff, Int.reduceLT, Int.reduceLE, Int.reduceToNat, Int.reduceNeg, Int.reduceEq, Int.reduceAdd, Nat.reduceMul, Int.reduceSub, Nat.reduceBEq, Int.reduceMul, Nat.add_zero, Nat.zero_add, Int.cast_ofNat_Int, Int.ofNat_eq_coe, decide_eq_true_eq, Nat.lt_irrefl, Nat.le_refl, List.getElem?_toArray, Option.elim_some, Option.elim_none, j_Lt_unit_0, j_Lt_unit_48, g_6, g_1, rf_6_0 hR, e1]
  rw [t]
  exact r
set_option maxRecDepth 100000 in
theorem c_unit_s {nn pp s : Nat → Rs Ex} {h : Nat} {k : Int} (hg : ∀ p, p ≤ n → Gr n p h False (s p)) (hb : ∀ p, s (bl T n p) = s p) (hs : ∀ M p l, Sc M T n p l → LLt M → Rc M l (fun v M' => some (some (0, v), ((pz_SH, ss, 0, 0, dd), M'))) (pz_cal (d + 3) 37 [(2, 6), (0, k)] ((pz_SH, ss, 0, 0, dd), M)) (s p)) : ∀ M p l, Sc M T n p l → LLt M → ch T n (bl T n p) ≠ 33 → ch T n (bl T n p) ≠ 40 → Rc M l (fun v M' => some (some (0, v), ((pz_SH, ss, 0, 0, dd), M'))) (pz_cal (d + 4) 45 [(2, 6), (0, k), (0, 0)] ((pz_SH, ss, 0, 0, dd), M)) (unt T n nn pp s p) := by
  intro M p l hS hL c1 c2
  obtain ⟨hR, hT, h2, hp, h62, hl⟩ := hS
  have n240 := hT.2.1
  have b1 := bl_le (T := T) hp
  have b2 := bl_ge (T := T) (n := n) (p := p)
  have e1 := c_sign (d := d + 2) (ss := ss) (dd := dd) hR hT h2 hp
  have hF1 : Pf M (pz_up M 1 2 (bl T n p : Int)) := Pf_up (.inl ⟨rfl, .inl rfl⟩)
  have h21 : pz_up M 1 2 (bl T n p : Int) 1 2 = (bl T n p : Int) := by rw [up_at, if_pos ⟨rfl, rfl⟩]
  have h31 : pz_up M 1 2 (bl T n p : Int) 1 3 = M 1 3 := by rw [up_at, if_neg (by omega)]
  have h71 : pz_up M 1 2 (bl T n p : Int) 7 = M 7 := by funext z; rw [up_at, if_neg (by omega)]
  have a1 := hs (pz_up M 1 2 (bl T n p : Int)) (bl T n p) l ⟨Rf_Pf hR hF1, TC_Pf hT hF1, h21, b1, by rw [up_at, if_neg (by omega)]; exact h62, by omega⟩ (LLt_Pf hL hF1)
  have a1 := Rc_base a1 hF1 h31 h71
  rw [hb] at a1
  have g1 := Gr_m (hg (bl T n p) b1) b2 (Nat.le_refl _) (fun f => f)
  rw [hb] at g1
  unfold unt
  rw [if_neg c1, if_neg c2]
  match hz : s p, a1, g1 with
  | .inl z, a1, g1 =>
    obtain ⟨M3, t3, f3, p3, w3, q3⟩ := a1
    have t3 : pz_cal (d + 3) 37 [(2, 6), (0, k)] ((pz_SH, ss, 0, 0, dd), pz_up M 1 2 (bl T n p : Int)) = some (some (0, 1), ((pz_SH, ss, 0, 0, dd), M3)) := t3
    have g3 := g1.2.1
    have r := c_unit_62 (d := d) (ss := ss) (dd := dd) (k := k) (b := 0) (x := ch T n (bl T n p)) (M := M3) (p := z.2) (e := z.1) hg hs hR hT hL g1.1 (by omega) f3 p3 w3 q3
    have t : pz_cal (d + 4) 45 [(2, 6), (0, k), (0, 0)] ((pz_SH, ss, 0, 0, dd), M) = pz_p bl_Lt_unit (pz_cal (d + 3)) 0 0 62 [] [(2, 6), (0, k), (0, 0), (0, ch T n (bl T n p)), (9, 0)] [] ((pz_SH, ss, 0, 0, dd), M3) := by
      generalize ch T n (bl T n p) = cc at *
      generalize pz_up M 1 2 (bl T n p : Int) = M1 at *
      simp (maxSteps := 1000000) (disch := omega) only [↓reduceIte, sp_0, sp_s, Option.map_some, Option.map_none, Option.some.injEq, o_le, o_nle, o_lt, o_nlt, o_eq, o_neq, w32_id, up_at, nw_at, nw_s, k_Lt_unit, px_iconst, px_bipush, px_sipush, px_ldc, px_ldc_w, px_lconst, px_ldc2_w, px_aconst_null, px_getstatic, px_iload_n, px_iload, px_lload_n, px_lload, px_aload_n, px_aload, px_istore_n, px_istore, px_astore_n, px_astore, px_lstore_n, px_lstore, px_iinc, px_iadd, px_isub, px_imul, px_iand, px_ior, px_ixor, px_ishl, px_ishr, px_iushr, px_ladd, px_lsub, px_lmul, px_land, px_lor, px_lcmp, px_lushr, px_lshl, px_ineg, px_i2l, px_l2i, px_idiv, px_irem, px_ldiv, px_lrem, px_dup0, px_pop0, px_dup2, px_pop2, px_dup2x, px_goto, px_if_eq, px_ic_eq, px_if_ne, px_ic_ne, px_if_lt, px_ic_lt, px_if_ge, px_ic_ge, px_if_gt, px_ic_gt, px_if_le, px_ic_le, px_ifnull, px_ifnonnull, px_lookupswitch, px_tableswitch, px_getfield, px_iaload, px_laload, px_caload, px_aaload, px_iastore, px_lastore, px_arraylength, px_putfield, px_ireturn, px_lreturn, px_areturn, px_return, px_iv0, px_is0, px_iv1, px_is1, px_iv2, px_is2, px_iv3, px_is3, px_iv4, px_is4, px_iv5, px_is5, px_iv6, px_is6, px_max, px_min, px_abs, px_maxJ, px_minJ, px_ii0, px_ii1, px_iio, px_copy, pz_cpk, pz_lk, pz_alk, pz_ask, pz_gfk, pz_lnk, pz_bx, pz_b, pz_z, pz_s1, pz_s2, pz_wt, pz_cmp, List.getElem?_cons_zero, List.getElem?_cons_succ, List.getElem?_nil, List.set_cons_zero, List.set_cons_succ, List.length_cons, List.length_nil, List.nil_append, List.cons_append, Option.toList_some, Option.toList_none, if_true, if_false, ite_true, ite_false, and_true, true_and, and_self, or_self, or_false, false_or, true_or, or_true, and_false, false_and, not_true_eq_false, not_false_eq_true, forall_const, ne_eq, reduceCtorEq, implies_true, false_implies, true_implies, Int.toNat_natCast, Nat.reduceAdd, Nat.reduceSub, Nat.reduceLT, Nat.reduceLeDiff, Nat.reduceEqDiff, Int.reduceLT, Int.reduceLE, Int.reduceToNat, Int.reduceNeg, Int.reduceEq, Int.reduceAdd, Nat.reduceMul, Int.reduceSub, Nat.reduceBEq, Int.reduceMul, Nat.add_zero, Nat.zero_add, Int.cast_ofNat_Int, Int.ofNat_eq_coe, decide_eq_true_eq, Nat.lt_irrefl, Nat.le_refl, List.getElem?_toArray, Option.elim_some, Option.elim_none, j_Lt_unit_0, j_Lt_unit_48, g_6, g_1, rf_6_0 hR, e1, t3]
    rw [t]
    exact r
  | .inr w, a1, g1 =>
    obtain ⟨M3, t3, f3, w3, l', q3, q4⟩ := a1
    have t3 : pz_cal (d + 3) 37 [(2, 6), (0, k)] ((pz_SH, ss, 0, 0, dd), pz_up M 1 2 (bl T n p : Int)) = some (some (0, 0), ((pz_SH, ss, 0, 0, dd), M3)) := t3
    refine ⟨M3, ?_, f3, w3, l', q3, q4⟩
    show _ = some (some (0, 0), ((pz_SH, ss, 0, 0, dd), M3))
    generalize ch T n (bl T n p) = cc at *
    generalize pz_up M 1 2 (bl T n p : Int) = M1 at *
    simp (maxSteps := 1000000) (disch := omega) only [↓reduceIte, sp_0, sp_s, Option.map_some, Option.map_none, Option.some.injEq, o_le, o_nle, o_lt, o_nlt, o_eq, o_neq, w32_id, up_at, nw_at, nw_s, k_Lt_unit, px_iconst, px_bipush, px_sipush, px_ldc, px_ldc_w, px_lconst, px_ldc2_w, px_aconst_null, px_getstatic, px_iload_n, px_iload, px_lload_n, px_lload, px_aload_n, px_aload, px_istore_n, px_istore, px_astore_n, px_astore, px_lstore_n, px_lstore, px_iinc, px_iadd, px_isub, px_imul, px_iand, px_ior, px_ixor, px_ishl, px_ishr, px_iushr, px_ladd, px_lsub, px_lmul, px_land, px_lor, px_lcmp, px_lushr, px_lshl, px_ineg, px_i2l, px_l2i, px_idiv, px_irem, px_ldiv, px_lrem, px_dup0, px_pop0, px_dup2, px_pop2, px_dup2x, px_goto, px_if_eq, px_ic_eq, px_if_ne, px_ic_ne, px_if_lt, px_ic_lt, px_if_ge, px_ic_ge, px_if_gt, px_ic_gt, px_if_le, px_ic_le, px_ifnull, px_ifnonnull, px_lookupswitch, px_tableswitch, px_getfield, px_iaload, px_laload, px_caload, px_aaload, px_iastore, px_lastore, px_arraylength, px_putfield, px_ireturn, px_lreturn, px_areturn, px_return, px_iv0, px_is0, px_iv1, px_is1, px_iv2, px_is2, px_iv3, px_is3, px_iv4, px_is4, px_iv5, px_is5, px_iv6, px_is6, px_max, px_min, px_abs, px_maxJ, px_minJ, px_ii0, px_ii1, px_iio, px_copy, pz_cpk, pz_lk, pz_alk, pz_ask, pz_gfk, pz_lnk, pz_bx, pz_b, pz_z, pz_s1, pz_s2, pz_wt, pz_cmp, List.getElem?_cons_zero, List.getElem?_cons_succ, List.getElem?_nil, List.set_cons_zero, List.set_cons_succ, List.length_cons, List.length_nil, List.nil_append, List.cons_append, Option.toList_some, Option.toList_none, if_true, if_false, ite_true, ite_false, and_true, true_and, and_self, or_self, or_false, false_or, true_or, or_true, and_false, false_and, not_true_eq_false, not_false_eq_true, forall_const, ne_eq, reduceCtorEq, implies_true, false_implies, true_implies, Int.toNat_natCast, Nat.reduceAdd, Nat.reduceSub, Nat.reduceLT, Nat.reduceLeDiff, Nat.reduceEqDiff, Int.reduceLT, Int.reduceLE, Int.reduceToNat, Int.reduceNeg, Int.reduceEq, Int.reduceAdd, Nat.reduceMul, Int.reduceSub, Nat.reduceBEq, Int.reduceMul, Nat.add_zero, Nat.zero_add, Int.cast_ofNat_Int, Int.ofNat_eq_coe, decide_eq_true_eq, Nat.lt_irrefl, Nat.le_refl, List.getElem?_toArray, Option.elim_some, Option.elim_none, j_Lt_unit_0, j_Lt_unit_48, g_6, g_1, rf_6_0 hR, e1, t3]
set_option maxRecDepth 100000 in
theorem c_nested {u : Nat → Rs Ex} {h : Nat} {k : Int} (hg : ∀ p, p ≤ n → Gr n p h True (u p)) (hu : ∀ M p l, Sc M T n p l → LLt M → Rc M l (fun v M' => some (some (0, v), ((pz_SH, ss, 0, 0, dd), M'))) (pz_cal (d + 4) 45 [(2, 6), (0, k), (0, 0)] ((pz_SH, ss, 0, 0, dd), M)) (u p)) (hc : ∀ M p l, Sc M T n p l → LLt M → Rc M l (fun v M' => some (some (0, v), ((pz_SH, ss, 0, 0, dd), M'))) (pz_cal (d + 4) 43 [(2, 6), (0, k), (0, 0)] ((pz_SH, ss, 0, 0, dd), M)) (gCd T n u p)) : ∀ M p l, Sc M T n p l → LLt M → ch T n (bl T n p) = 33 ∨ ch T n (bl T n p) = 40 → Rc M l (fun v M' => some (some (0, v), ((pz_SH, ss, 0, 0, dd), M'))) (pz_cal (d + 5) 46 [(2, 6), (0, k)] ((pz_SH, ss, 0, 0, dd), M)) (if ch T n (bl T n p) = 33 then gNt T n u p else inb T n (gCd T n u) 41 (bl T n p + 1)) := by
  intro M p l hS hL hc1
  obtain ⟨hR, hT, h2, hp, h62, hl⟩ := hS
  have n240 := hT.2.1
  have b1 := bl_le (T := T) hp
  have b2 := bl_ge (T := T) (n := n) (p := p)
  have b3 : bl T n p < n := ch_lt (T := T) rfl (by omega)
  have e1 := c_takes (d := d + 2) (ss := ss) (dd := dd) (v := 40) hR hT h2 hp
  have hF2 : Pf M (pz_up M 1 2 ((bl T n p : Int) + 1)) := Pf_up (.inl ⟨rfl, .inl rfl⟩)
  have hR2 := Rf_Pf hR hF2
  have h72 : pz_up M 1 2 ((bl T n p : Int) + 1) 7 = M 7 := by funext z; rw [up_at, if_neg (by omega)]
  have h32 : pz_up M 1 2 ((bl T n p : Int) + 1) 1 3 = M 1 3 := by rw [up_at, if_neg (by omega)]
  have S2 : Sc (pz_up M 1 2 ((bl T n p : Int) + 1)) T n (bl T n p + 1) l := ⟨hR2, TC_Pf hT hF2, by rw [up_at, if_pos ⟨rfl, rfl⟩]; rfl, by omega, by rw [up_at, if_neg (by omega)]; exact h62, by omega⟩
  by_cases c : ch T n (bl T n p) = 33
  · rw [if_neg (by omega)] at e1
    rw [if_pos c]
    have hF1 : Pf M (pz_up M 1 2 (bl T n p : Int)) := Pf_up (.inl ⟨rfl, .inl rfl⟩)
    have hR1 := Rf_Pf hR hF1
    have e3 := c_step (d := d + 3) (ss := ss) (dd := dd) (M := pz_up M 1 2 (bl T n p : Int)) (p := (bl T n p : Int)) (by rw [up_at, if_pos ⟨rfl, rfl⟩]) (by omega)
    rw [up_up2] at e3
    have a1 := Rc_base (hu _ _ _ S2 (LLt_Pf hL hF2)) hF2 h32 h72
    have g1 := hg (bl T n p + 1) (by omega)
    unfold gNt
    generalize pz_up M 1 2 ((bl T n p : Int) + 1) = M2 at *
    generalize pz_up M 1 2 (bl T n p : Int) = M1 at *
    match hz : u (bl T n p + 1), a1, g1 with
    | .inl z, a1, g1 =>
      obtain ⟨M3, t3, f3, p3, w3, q3⟩ := a1
      have t3 : pz_cal (d + 4) 45 [(2, 6), (0, k), (0, 0)] ((pz_SH, ss, 0, 0, dd), M2) = some (some (0, 1), ((pz_SH, ss, 0, 0, dd), M3)) := t3
      have g2 := g1.1
      have g3 := g1.2.1
      have hR3 := Rf_Pf hR f3
      have hA4 := Ap_t q3 (Ap_1 (M := M3) (l := l + z.1.1.length) (t := (9, 0)) (show (2 : Int) * 10000 + 33 = enc (9, 0) by decide))
      have e5 := c_emit (d := d + 3) (ss := ss) (dd := dd) (s := 2) (v := 33) hR3 q3.1 (by omega) (by decide) (by omega)
      refine ⟨_, ?_, Pf_t f3 (Pf_t (Pf_up (.inr (.inr rfl))) (Pf_up (.inr (.inl ⟨rfl, rfl⟩)))), by rw [up_at, if_neg (by omega), up_at, if_neg (by omega)]; exact p3, by rw [up_at, if_neg (by omega), up_at, if_neg (by omega)]; exact w3, hA4⟩
      generalize pz_up (pz_up M3 7 (l + z.1.1.length) (2 * 10000 + 33)) 6 2 (((l + z.1.1.length : Nat) : Int) + 1) = M4 at *
      show _ = some (some (0, 1), ((pz_SH, ss, 0, 0, dd), M4))
      simp (maxSteps := 1000000) (disch := omega) only [↓reduceIte, sp_0, sp_s, Option.map_some, Option.map_none, Option.some.injEq, o_le, o_nle, o_lt, o_nlt, o_eq, o_neq, w32_id, up_at, nw_at, nw_s, k_Lt_nested, px_iconst, px_bipush, px_sipush, px_ldc, px_ldc_w, px_lconst, px_ldc2_w, px_aconst_null, px_getstatic, px_iload_n, px_iload, px_lload_n, px_lload, px_aload_n, px_aload, px_istore_n, px_istore, px_astore_n, px_astore, px_lstore_n, px_lstore, px_iinc, px_iadd, px_isub, px_imul, px_iand, px_ior, px_ixor, px_ishl, px_ishr, px_iushr, px_ladd, px_lsub, px_lmul, px_land, px_lor, px_lcmp, px_lushr, px_lshl, px_ineg, px_i2l, px_l2i, px_idiv, px_irem, px_ldiv, px_lrem, px_dup0, px_pop0, px_dup2, px_pop2, px_dup2x, px_goto, px_if_eq, px_ic_eq, px_if_ne, px_ic_ne, px_if_lt, px_ic_lt, px_if_ge, px_ic_ge, px_if_gt, px_ic_gt, px_if_le, px_ic_le, px_ifnull, px_ifnonnull, px_lookupswitch, px_tableswitch, px_getfield, px_iaload, px_laload, px_caload, px_aaload, px_iastore, px_lastore, px_arraylength, px_putfield, px_ireturn, px_lreturn, px_areturn, px_return, px_iv0, px_is0, px_iv1, px_is1, px_iv2, px_is2, px_iv3, px_is3, px_iv4, px_is4, px_iv5, px_is5, px_iv6, px_is6, px_max, px_min, px_abs, px_maxJ, px_minJ, px_ii0, px_ii1, px_iio, px_copy, pz_cpk, pz_lk, pz_alk, pz_ask, pz_gfk, pz_lnk, pz_bx, pz_b, pz_z, pz_s1, pz_s2, pz_wt, pz_cmp, List.getElem?_cons_zero, List.getElem?_cons_succ, List.getElem?_nil, List.set_cons_zero, List.set_cons_succ, List.length_cons, List.length_nil, List.nil_append, List.cons_append, Option.toList_some, Option.toList_none, if_true, if_false, ite_true, ite_false, and_true, true_and, and_self, or_self, or_false, false_or, true_or, or_true, and_false, false_and, not_true_eq_false, not_false_eq_true, forall_const, ne_eq, reduceCtorEq, implies_true, false_implies, true_implies, Int.toNat_natCast, Nat.reduceAdd, Nat.reduceSub, Nat.reduceLT, Nat.reduceLeDiff, Nat.reduceEqDiff, Int.reduceLT, Int.reduceLE, Int.reduceToNat, Int.reduceNeg, Int.reduceEq, Int.reduceAdd, Nat.reduceMul, Int.reduceSub, Nat.reduceBEq, Int.reduceMul, Nat.add_zero, Nat.zero_add, Int.cast_ofNat_Int, Int.ofNat_eq_coe, decide_eq_true_eq, Nat.lt_irrefl, Nat.le_refl, List.getElem?_toArray, Option.elim_some, Option.elim_none, j_Lt_nested_0, j_Lt_nested_37, j_Lt_nested_38, j_Lt_nested_39, j_Lt_nested_57, g_6, g_1, rf_6_0 hR, rf_6_0 hR1, e1, e3, t3, e5]
    | .inr w, a1, g1 =>
      obtain ⟨M3, t3, f3, w3, l', q3, q4⟩ := a1
      have t3 : pz_cal (d + 4) 45 [(2, 6), (0, k), (0, 0)] ((pz_SH, ss, 0, 0, dd), M2) = some (some (0, 0), ((pz_SH, ss, 0, 0, dd), M3)) := t3
      refine ⟨M3, ?_, f3, w3, l', q3, q4⟩
      show _ = some (some (0, 0), ((pz_SH, ss, 0, 0, dd), M3))
      simp (maxSteps := 1000000) (disch := omega) only [↓reduceIte, sp_0, sp_s, Option.map_some, Option.map_none, Option.some.injEq, o_le, o_nle, o_lt, o_nlt, o_eq, o_neq, w32_id, up_at, nw_at, nw_s, k_Lt_nested, px_iconst, px_bipush, px_sipush, px_ldc, px_ldc_w, px_lconst, px_ldc2_w, px_aconst_null, px_getstatic, px_iload_n, px_iload, px_lload_n, px_lload, px_aload_n, px_aload, px_istore_n, px_istore, px_astore_n, px_astore, px_lstore_n, px_lstore, px_iinc, px_iadd, px_isub, px_imul, px_iand, px_ior, px_ixor, px_ishl, px_ishr, px_iushr, px_ladd, px_lsub, px_lmul, px_land, px_lor, px_lcmp, px_lushr, px_lshl, px_ineg, px_i2l, px_l2i, px_idiv, px_irem, px_ldiv, px_lrem, px_dup0, px_pop0, px_dup2, px_pop2, px_dup2x, px_goto, px_if_eq, px_ic_eq, px_if_ne, px_ic_ne, px_if_lt, px_ic_lt, px_if_ge, px_ic_ge, px_if_gt, px_ic_gt, px_if_le, px_ic_le, px_ifnull, px_ifnonnull, px_lookupswitch, px_tableswitch, px_getfield, px_iaload, px_laload, px_caload, px_aaload, px_iastore, px_lastore, px_arraylength, px_putfield, px_ireturn, px_lreturn, px_areturn, px_return, px_iv0, px_is0, px_iv1, px_is1, px_iv2, px_is2, px_iv3, px_is3, px_iv4, px_is4, px_iv5, px_is5, px_iv6, px_is6, px_max, px_min, px_abs, px_maxJ, px_minJ, px_ii0, px_ii1, px_iio, px_copy, pz_cpk, pz_lk, pz_alk, pz_ask, pz_gfk, pz_lnk, pz_bx, pz_b, pz_z, pz_s1, pz_s2, pz_wt, pz_cmp, List.getElem?_cons_zero, List.getElem?_cons_succ, List.getElem?_nil, List.set_cons_zero, List.set_cons_succ, List.length_cons, List.length_nil, List.nil_append, List.cons_append, Option.toList_some, Option.toList_none, if_true, if_false, ite_true, ite_false, and_true, true_and, and_self, or_self, or_false, false_or, true_or, or_true, and_false, false_and, not_true_eq_false, not_false_eq_true, forall_const, ne_eq, reduceCtorEq, implies_true, false_implies, true_implies, Int.toNat_natCast, Nat.reduceAdd, Nat.reduceSub, Nat.reduceLT, Nat.reduceLeDiff, Nat.reduceEqDiff, Int.reduceLT, Int.reduceLE, Int.reduceToNat, Int.reduceNeg, Int.reduceEq, Int.reduceAdd, Nat.reduceMul, Int.reduceSub, Nat.reduceBEq, Int.reduceMul, Nat.add_zero, Nat.zero_add, Int.cast_ofNat_Int, Int.ofNat_eq_coe, decide_eq_true_eq, Nat.lt_irrefl, Nat.le_refl, List.getElem?_toArray, Option.elim_some, Option.elim_none, j_Lt_nested_0, j_Lt_nested_37, j_Lt_nested_38, j_Lt_nested_39, j_Lt_nested_57, g_6, g_1, rf_6_0 hR, rf_6_0 hR1, e1, e3, t3]
  · rw [if_pos (by omega)] at e1
    rw [if_neg c]
    have a1 := Rc_base (hc _ _ _ S2 (LLt_Pf hL hF2)) hF2 h32 h72
    have g1 := Gr_gCd (T := T) hg (bl T n p + 1) (by omega)
    unfold inb
    generalize pz_up M 1 2 ((bl T n p : Int) + 1) = M2 at *
    match hz : gCd T n u (bl T n p + 1), a1, g1 with
    | .inl z, a1, g1 =>
      obtain ⟨M3, t3, f3, p3, w3, q3⟩ := a1
      have t3 : pz_cal (d + 4) 43 [(2, 6), (0, k), (0, 0)] ((pz_SH, ss, 0, 0, dd), M2) = some (some (0, 1), ((pz_SH, ss, 0, 0, dd), M3)) := t3
      have hR3 := Rf_Pf hR f3
      have e4 := c_wants (d := d + 1) (ss := ss) (dd := dd) (v := 41) hR3 (TC_Pf hT f3) p3 g1.1
      have q62 := q3.1
      have g4 := g1.2.1
      have g5 := g1.1
      show Rc M l _ _ (if ch T n (bl T n z.2) = 41 then _ else _)
      by_cases c2 : ch T n (bl T n z.2) = 41
      · rw [if_pos c2] at e4 ⊢
        refine ⟨pz_up M3 1 2 ((bl T n z.2 : Int) + 1), ?_, Pf_t f3 (Pf_up (.inl ⟨rfl, .inl rfl⟩)), by rw [up_at, if_pos ⟨rfl, rfl⟩]; rfl, by rw [up_at, if_neg (by omega), w3], Ap_1_2 q3⟩
        generalize pz_up M3 1 2 ((bl T n z.2 : Int) + 1) = M4 at *
        simp (maxSteps := 1000000) (disch := omega) only [↓reduceIte, sp_0, sp_s, Option.map_some, Option.map_none, Option.some.injEq, o_le, o_nle, o_lt, o_nlt, o_eq, o_neq, w32_id, up_at, nw_at, nw_s, k_Lt_nested, px_iconst, px_bipush, px_sipush, px_ldc, px_ldc_w, px_lconst, px_ldc2_w, px_aconst_null, px_getstatic, px_iload_n, px_iload, px_lload_n, px_lload, px_aload_n, px_aload, px_istore_n, px_istore, px_astore_n, px_astore, px_lstore_n, px_lstore, px_iinc, px_iadd, px_isub, px_imul, px_iand, px_ior, px_ixor, px_ishl, px_ishr, px_iushr, px_ladd, px_lsub, px_lmul, px_land, px_lor, px_lcmp, px_lushr, px_lshl, px_ineg, px_i2l, px_l2i, px_idiv, px_irem, px_ldiv, px_lrem, px_dup0, px_pop0, px_dup2, px_pop2, px_dup2x, px_goto, px_if_eq, px_ic_eq, px_if_ne, px_ic_ne, px_if_lt, px_ic_lt, px_if_ge, px_ic_ge, px_if_gt, px_ic_gt, px_if_le, px_ic_le, px_ifnull, px_ifnonnull, px_lookupswitch, px_tableswitch, px_getfield, px_iaload, px_laload, px_caload, px_aaload, px_iastore, px_lastore, px_arraylength, px_putfield, px_ireturn, px_lreturn, px_areturn, px_return, px_iv0, px_is0, px_iv1, px_is1, px_iv2, px_is2, px_iv3, px_is3, px_iv4, px_is4, px_iv5, px_is5, px_iv6, px_is6, px_max, px_min, px_abs, px_maxJ, px_minJ, px_ii0, px_ii1, px_iio, px_copy, pz_cpk, pz_lk, pz_alk, pz_ask, pz_gfk, pz_lnk, pz_bx, pz_b, pz_z, pz_s1, pz_s2, pz_wt, pz_cmp, List.getElem?_cons_zero, List.getElem?_cons_succ, List.getElem?_nil, List.set_cons_zero, List.set_cons_succ, List.length_cons, List.length_nil, List.nil_append, List.cons_append, Option.toList_some, Option.toList_none, if_true, if_false, ite_true, ite_false, and_true, true_and, and_self, or_self, or_false, false_or, true_or, or_true, and_false, false_and, not_true_eq_false, not_false_eq_true, forall_const, ne_eq, reduceCtorEq, implies_true, false_implies, true_implies, Int.toNat_natCast, Nat.reduceAdd, Nat.reduceSub, Nat.reduceLT, Nat.reduceLeDiff, Nat.reduceEqDiff, Int.reduceLT, Int.reduceLE, Int.reduceToNat, Int.reduceNeg, Int.reduceEq, Int.reduceAdd, Nat.reduceMul, Int.reduceSub, Nat.reduceBEq, Int.reduceMul, Nat.add_zero, Nat.zero_add, Int.cast_ofNat_Int, Int.ofNat_eq_coe, decide_eq_true_eq, Nat.lt_irrefl, Nat.le_refl, List.getElem?_toArray, Option.elim_some, Option.elim_none, j_Lt_nested_0, j_Lt_nested_37, j_Lt_nested_38, j_Lt_nested_39, j_Lt_nested_57, g_6, g_1, rf_6_0 hR, rf_6_0 hR2, rf_6_0 hR3, e1, t3, e4]
      · rw [if_neg c2] at e4 ⊢
        refine ⟨pz_up (pz_up M3 1 2 (bl T n z.2 : Int)) 1 3 (bl T n z.2 : Int), ?_, Pf_t f3 (Pf_t (Pf_up (.inl ⟨rfl, .inl rfl⟩)) (Pf_up (.inl ⟨rfl, .inr rfl⟩))), by rw [up_at, if_pos ⟨rfl, rfl⟩], l + z.1.1.length, by rw [up_at, if_neg (by omega), up_at, if_neg (by omega)]; exact q62, by omega⟩
        generalize pz_up (pz_up M3 1 2 (bl T n z.2 : Int)) 1 3 (bl T n z.2 : Int) = M4 at *
        simp (maxSteps := 1000000) (disch := omega) only [↓reduceIte, sp_0, sp_s, Option.map_some, Option.map_none, Option.some.injEq, o_le, o_nle, o_lt, o_nlt, o_eq, o_neq, w32_id, up_at, nw_at, nw_s, k_Lt_nested, px_iconst, px_bipush, px_sipush, px_ldc, px_ldc_w, px_lconst, px_ldc2_w, px_aconst_null, px_getstatic, px_iload_n, px_iload, px_lload_n, px_lload, px_aload_n, px_aload, px_istore_n, px_istore, px_astore_n, px_astore, px_lstore_n, px_lstore, px_iinc, px_iadd, px_isub, px_imul, px_iand, px_ior, px_ixor, px_ishl, px_ishr, px_iushr, px_ladd, px_lsub, px_lmul, px_land, px_lor, px_lcmp, px_lushr, px_lshl, px_ineg, px_i2l, px_l2i, px_idiv, px_irem, px_ldiv, px_lrem, px_dup0, px_pop0, px_dup2, px_pop2, px_dup2x, px_goto, px_if_eq, px_ic_eq, px_if_ne, px_ic_ne, px_if_lt, px_ic_lt, px_if_ge, px_ic_ge, px_if_gt, px_ic_gt, px_if_le, px_ic_le, px_ifnull, px_ifnonnull, px_lookupswitch, px_tableswitch, px_getfield, px_iaload, px_laload, px_caload, px_aaload, px_iastore, px_lastore, px_arraylength, px_putfield, px_ireturn, px_lreturn, px_areturn, px_return, px_iv0, px_is0, px_iv1, px_is1, px_iv2, px_is2, px_iv3, px_is3, px_iv4, px_is4, px_iv5, px_is5, px_iv6, px_is6, px_max, px_min, px_abs, px_maxJ, px_minJ, px_ii0, px_ii1, px_iio, px_copy, pz_cpk, pz_lk, pz_alk, pz_ask, pz_gfk, pz_lnk, pz_bx, pz_b, pz_z, pz_s1, pz_s2, pz_wt, pz_cmp, List.getElem?_cons_zero, List.getElem?_cons_succ, List.getElem?_nil, List.set_cons_zero, List.set_cons_succ, List.length_cons, List.length_nil, List.nil_append, List.cons_append, Option.toList_some, Option.toList_none, if_true, if_false, ite_true, ite_false, and_true, true_and, and_self, or_self, or_false, false_or, true_or, or_true, and_false, false_and, not_true_eq_false, not_false_eq_true, forall_const, ne_eq, reduceCtorEq, implies_true, false_implies, true_implies, Int.toNat_natCast, Nat.reduceAdd, Nat.reduceSub, Nat.reduceLT, Nat.reduceLeDiff, Nat.reduceEqDiff, Int.reduceLT, Int.reduceLE, Int.reduceToNat, Int.reduceNeg, Int.reduceEq, Int.reduceAdd, Nat.reduceMul, Int.reduceSub, Nat.reduceBEq, Int.reduceMul, Nat.add_zero, Nat.zero_add, Int.cast_ofNat_Int, Int.ofNat_eq_coe, decide_eq_true_eq, Nat.lt_irrefl, Nat.le_refl, List.getElem?_toArray, Option.elim_some, Option.elim_none, j_Lt_nested_0, j_Lt_nested_37, j_Lt_nested_38, j_Lt_nested_39, j_Lt_nested_57, g_6, g_1, rf_6_0 hR, rf_6_0 hR2, rf_6_0 hR3, e1, t3, e4]
    | .inr w, a1, g1 =>
      obtain ⟨M3, t3, f3, w3, l', q3, q4⟩ := a1
      have t3 : pz_cal (d + 4) 43 [(2, 6), (0, k), (0, 0)] ((pz_SH, ss, 0, 0, dd), M2) = some (some (0, 0), ((pz_SH, ss, 0, 0, dd), M3)) := t3
      refine ⟨M3, ?_, f3, w3, l', q3, q4⟩
      show _ = some (some (0, 0), ((pz_SH, ss, 0, 0, dd), M3))
      simp (maxSteps := 1000000) (disch := omega) only [↓reduceIte, sp_0, sp_s, Option.map_some, Option.map_none, Option.some.injEq, o_le, o_nle, o_lt, o_nlt, o_eq, o_neq, w32_id, up_at, nw_at, nw_s, k_Lt_nested, px_iconst, px_bipush, px_sipush, px_ldc, px_ldc_w, px_lconst, px_ldc2_w, px_aconst_null, px_getstatic, px_iload_n, px_iload, px_lload_n, px_lload, px_aload_n, px_aload, px_istore_n, px_istore, px_astore_n, px_astore, px_lstore_n, px_lstore, px_iinc, px_iadd, px_isub, px_imul, px_iand, px_ior, px_ixor, px_ishl, px_ishr, px_iushr, px_ladd, px_lsub, px_lmul, px_land, px_lor, px_lcmp, px_lushr, px_lshl, px_ineg, px_i2l, px_l2i, px_idiv, px_irem, px_ldiv, px_lrem, px_dup0, px_pop0, px_dup2, px_pop2, px_dup2x, px_goto, px_if_eq, px_ic_eq, px_if_ne, px_ic_ne, px_if_lt, px_ic_lt, px_if_ge, px_ic_ge, px_if_gt, px_ic_gt, px_if_le, px_ic_le, px_ifnull, px_ifnonnull, px_lookupswitch, px_tableswitch, px_getfield, px_iaload, px_laload, px_caload, px_aaload, px_iastore, px_lastore, px_arraylength, px_putfield, px_ireturn, px_lreturn, px_areturn, px_return, px_iv0, px_is0, px_iv1, px_is1, px_iv2, px_is2, px_iv3, px_is3, px_iv4, px_is4, px_iv5, px_is5, px_iv6, px_is6, px_max, px_min, px_abs, px_maxJ, px_minJ, px_ii0, px_ii1, px_iio, px_copy, pz_cpk, pz_lk, pz_alk, pz_ask, pz_gfk, pz_lnk, pz_bx, pz_b, pz_z, pz_s1, pz_s2, pz_wt, pz_cmp, List.getElem?_cons_zero, List.getElem?_cons_succ, List.getElem?_nil, List.set_cons_zero, List.set_cons_succ, List.length_cons, List.length_nil, List.nil_append, List.cons_append, Option.toList_some, Option.toList_none, if_true, if_false, ite_true, ite_false, and_true, true_and, and_self, or_self, or_false, false_or, true_or, or_true, and_false, false_and, not_true_eq_false, not_false_eq_true, forall_const, ne_eq, reduceCtorEq, implies_true, false_implies, true_implies, Int.toNat_natCast, Nat.reduceAdd, Nat.reduceSub, Nat.reduceLT, Nat.reduceLeDiff, Nat.reduceEqDiff, Int.reduceLT, Int.reduceLE, Int.reduceToNat, Int.reduceNeg, Int.reduceEq, Int.reduceAdd, Nat.reduceMul, Int.reduceSub, Nat.reduceBEq, Int.reduceMul, Nat.add_zero, Nat.zero_add, Int.cast_ofNat_Int, Int.ofNat_eq_coe, decide_eq_true_eq, Nat.lt_irrefl, Nat.le_refl, List.getElem?_toArray, Option.elim_some, Option.elim_none, j_Lt_nested_0, j_Lt_nested_37, j_Lt_nested_38, j_Lt_nested_39, j_Lt_nested_57, g_6, g_1, rf_6_0 hR, e1, t3]
set_option maxRecDepth 100000 in
theorem c_unit_n {M : pz_M} {p l : Nat} {k : Int} (hS : Sc M T n p l) (hk : 0 ≤ k ∧ k < 6) (hc : ch T n (bl T n p) = 33 ∨ ch T n (bl T n p) = 40) {v : Int} {M' : pz_M} (hv : v = 0 ∨ v = 1) (hn : pz_cal (d + 3) 46 [(2, 6), (0, k + 1)] ((pz_SH, ss, 0, 0, dd), pz_up M 1 2 (bl T n p : Int)) = some (some (0, v), ((pz_SH, ss, 0, 0, dd), M'))) : pz_cal (d + 4) 45 [(2, 6), (0, k), (0, 0)] ((pz_SH, ss, 0, 0, dd), M) = some (some (0, v), ((pz_SH, ss, 0, 0, dd), M')) := by
  obtain ⟨hR, hT, h2, hp, h62, hl⟩ := hS
  have e1 := c_sign (d := d + 2) (ss := ss) (dd := dd) hR hT h2 hp
  generalize pz_up M 1 2 (bl T n p : Int) = M1 at *
  generalize ch T n (bl T n p) = cc at *
  rcases hc with hc | hc
  · subst hc
    simp (maxSteps := 1000000) (disch := omega) only [↓reduceIte, sp_0, sp_s, Option.map_some, Option.map_none, Option.some.injEq, o_le, o_nle, o_lt, o_nlt, o_eq, o_neq, w32_id, up_at, nw_at, nw_s, k_Lt_unit, px_iconst, px_bipush, px_sipush, px_ldc, px_ldc_w, px_lconst, px_ldc2_w, px_aconst_null, px_getstatic, px_iload_n, px_iload, px_lload_n, px_lload, px_aload_n, px_aload, px_istore_n, px_istore, px_astore_n, px_astore, px_lstore_n, px_lstore, px_iinc, px_iadd, px_isub, px_imul, px_iand, px_ior, px_ixor, px_ishl, px_ishr, px_iushr, px_ladd, px_lsub, px_lmul, px_land, px_lor, px_lcmp, px_lushr, px_lshl, px_ineg, px_i2l, px_l2i, px_idiv, px_irem, px_ldiv, px_lrem, px_dup0, px_pop0, px_dup2, px_pop2, px_dup2x, px_goto, px_if_eq, px_ic_eq, px_if_ne, px_ic_ne, px_if_lt, px_ic_lt, px_if_ge, px_ic_ge, px_if_gt, px_ic_gt, px_if_le, px_ic_le, px_ifnull, px_ifnonnull, px_lookupswitch, px_tableswitch, px_getfield, px_iaload, px_laload, px_caload, px_aaload, px_iastore, px_lastore, px_arraylength, px_putfield, px_ireturn, px_lreturn, px_areturn, px_return, px_iv0, px_is0, px_iv1, px_is1, px_iv2, px_is2, px_iv3, px_is3, px_iv4, px_is4, px_iv5, px_is5, px_iv6, px_is6, px_max, px_min, px_abs, px_maxJ, px_minJ, px_ii0, px_ii1, px_iio, px_copy, pz_cpk, pz_lk, pz_alk, pz_ask, pz_gfk, pz_lnk, pz_bx, pz_b, pz_z, pz_s1, pz_s2, pz_wt, pz_cmp, List.getElem?_cons_zero, List.getElem?_cons_succ, List.getElem?_nil, List.set_cons_zero, List.set_cons_succ, List.length_cons, List.length_nil, List.nil_append, List.cons_append, Option.toList_some, Option.toList_none, if_true, if_false, ite_true, ite_false, and_true, true_and, and_self, or_self, or_false, false_or, true_or, or_true, and_false, false_and, not_true_eq_false, not_false_eq_true, forall_const, ne_eq, reduceCtorEq, implies_true, false_implies, true_implies, Int.toNat_natCast, Nat.reduceAdd, Nat.reduceSub, Nat.reduceLT, Nat.reduceLeDiff, Nat.reduceEqDiff, Int.reduceLT, Int.reduceLE, Int.reduceToNat, Int.reduceNeg, Int.reduceEq, Int.reduceAdd, Nat.reduceMul, Int.reduceSub, Nat.reduceBEq, Int.reduceMul, Nat.add_zero, Nat.zero_add, Int.cast_ofNat_Int, Int.ofNat_eq_coe, decide_eq_true_eq, Nat.lt_irrefl, Nat.le_refl, List.getElem?_toArray, Option.elim_some, Option.elim_none, j_Lt_unit_0, j_Lt_unit_24, j_Lt_unit_47, g_6, g_1, rf_6_0 hR, e1, hn, hv]
  · subst hc
    simp (maxSteps := 1000000) (disch := omega) only [↓reduceIte, sp_0, sp_s, Option.map_some, Option.map_none, Option.some.injEq, o_le, o_nle, o_lt, o_nlt, o_eq, o_neq, w32_id, up_at, nw_at, nw_s, k_Lt_unit, px_iconst, px_bipush, px_sipush, px_ldc, px_ldc_w, px_lconst, px_ldc2_w, px_aconst_null, px_getstatic, px_iload_n, px_iload, px_lload_n, px_lload, px_aload_n, px_aload, px_istore_n, px_istore, px_astore_n, px_astore, px_lstore_n, px_lstore, px_iinc, px_iadd, px_isub, px_imul, px_iand, px_ior, px_ixor, px_ishl, px_ishr, px_iushr, px_ladd, px_lsub, px_lmul, px_land, px_lor, px_lcmp, px_lushr, px_lshl, px_ineg, px_i2l, px_l2i, px_idiv, px_irem, px_ldiv, px_lrem, px_dup0, px_pop0, px_dup2, px_pop2, px_dup2x, px_goto, px_if_eq, px_ic_eq, px_if_ne, px_ic_ne, px_if_lt, px_ic_lt, px_if_ge, px_ic_ge, px_if_gt, px_ic_gt, px_if_le, px_ic_le, px_ifnull, px_ifnonnull, px_lookupswitch, px_tableswitch, px_getfield, px_iaload, px_laload, px_caload, px_aaload, px_iastore, px_lastore, px_arraylength, px_putfield, px_ireturn, px_lreturn, px_areturn, px_return, px_iv0, px_is0, px_iv1, px_is1, px_iv2, px_is2, px_iv3, px_is3, px_iv4, px_is4, px_iv5, px_is5, px_iv6, px_is6, px_max, px_min, px_abs, px_maxJ, px_minJ, px_ii0, px_ii1, px_iio, px_copy, pz_cpk, pz_lk, pz_alk, pz_ask, pz_gfk, pz_lnk, pz_bx, pz_b, pz_z, pz_s1, pz_s2, pz_wt, pz_cmp, List.getElem?_cons_zero, List.getElem?_cons_succ, List.getElem?_nil, List.set_cons_zero, List.set_cons_succ, List.length_cons, List.length_nil, List.nil_append, List.cons_append, Option.toList_some, Option.toList_none, if_true, if_false, ite_true, ite_false, and_true, true_and, and_self, or_self, or_false, false_or, true_or, or_true, and_false, false_and, not_true_eq_false, not_false_eq_true, forall_const, ne_eq, reduceCtorEq, implies_true, false_implies, true_implies, Int.toNat_natCast, Nat.reduceAdd, Nat.reduceSub, Nat.reduceLT, Nat.reduceLeDiff, Nat.reduceEqDiff, Int.reduceLT, Int.reduceLE, Int.reduceToNat, Int.reduceNeg, Int.reduceEq, Int.reduceAdd, Nat.reduceMul, Int.reduceSub, Nat.reduceBEq, Int.reduceMul, Nat.add_zero, Nat.zero_add, Int.cast_ofNat_Int, Int.ofNat_eq_coe, decide_eq_true_eq, Nat.lt_irrefl, Nat.le_refl, List.getElem?_toArray, Option.elim_some, Option.elim_none, j_Lt_unit_0, j_Lt_unit_24, j_Lt_unit_47, g_6, g_1, rf_6_0 hR, e1, hn, hv]
set_option maxRecDepth 100000 in
theorem c_unit_f {M : pz_M} {p l : Nat} (hS : Sc M T n p l) (hc : ch T n (bl T n p) = 33 ∨ ch T n (bl T n p) = 40) : Rc M l (fun v M' => some (some (0, v), ((pz_SH, ss, 0, 0, dd), M'))) (pz_cal (d + 4) 45 [(2, 6), (0, 6), (0, 0)] ((pz_SH, ss, 0, 0, dd), M)) (flt T n p) := by
  obtain ⟨hR, hT, h2, hp, h62, hl⟩ := hS
  have n240 := hT.2.1
  have e1 := c_sign (d := d + 2) (ss := ss) (dd := dd) hR hT h2 hp
  have hF1 : Pf M (pz_up M 1 2 (bl T n p : Int)) := Pf_up (.inl ⟨rfl, .inl rfl⟩)
  have hR1 := Rf_Pf hR hF1
  have e2 := c_fail (d := d + 2) (ss := ss) (dd := dd) (M := pz_up M 1 2 (bl T n p : Int)) (p := (bl T n p : Int)) (by rw [up_at, if_pos ⟨rfl, rfl⟩])
  refine ⟨pz_up (pz_up M 1 2 (bl T n p : Int)) 1 3 (bl T n p : Int), ?_, Pf_t hF1 (Pf_up (.inl ⟨rfl, .inr rfl⟩)), by rw [up_at, if_pos ⟨rfl, rfl⟩], l, by rw [up_at, if_neg (by omega), up_at, if_neg (by omega)]; exact h62, by omega⟩
  show _ = some (some (0, 0), ((pz_SH, ss, 0, 0, dd), pz_up (pz_up M 1 2 (bl T n p : Int)) 1 3 (bl T n p : Int)))
  generalize pz_up (pz_up M 1 2 (bl T n p : Int)) 1 3 (bl T n p : Int) = M3 at *
  generalize pz_up M 1 2 (bl T n p : Int) = M1 at *
  generalize ch T n (bl T n p) = cc at *
  rcases hc with hc | hc
  · subst hc
    simp (maxSteps := 1000000) (disch := omega) only [↓reduceIte, sp_0, sp_s, Option.map_some, Option.map_none, Option.some.injEq, o_le, o_nle, o_lt, o_nlt, o_eq, o_neq, w32_id, up_at, nw_at, nw_s, k_Lt_unit, px_iconst, px_bipush, px_sipush, px_ldc, px_ldc_w, px_lconst, px_ldc2_w, px_aconst_null, px_getstatic, px_iload_n, px_iload, px_lload_n, px_lload, px_aload_n, px_aload, px_istore_n, px_istore, px_astore_n, px_astore, px_lstore_n, px_lstore, px_iinc, px_iadd, px_isub, px_imul, px_iand, px_ior, px_ixor, px_ishl, px_ishr, px_iushr, px_ladd, px_lsub, px_lmul, px_land, px_lor, px_lcmp, px_lushr, px_lshl, px_ineg, px_i2l, px_l2i, px_idiv, px_irem, px_ldiv, px_lrem, px_dup0, px_pop0, px_dup2, px_pop2, px_dup2x, px_goto, px_if_eq, px_ic_eq, px_if_ne, px_ic_ne, px_if_lt, px_ic_lt, px_if_ge, px_ic_ge, px_if_gt, px_ic_gt, px_if_le, px_ic_le, px_ifnull, px_ifnonnull, px_lookupswitch, px_tableswitch, px_getfield, px_iaload, px_laload, px_caload, px_aaload, px_iastore, px_lastore, px_arraylength, px_putfield, px_ireturn, px_lreturn, px_areturn, px_return, px_iv0, px_is0, px_iv1, px_is1, px_iv2, px_is2, px_iv3, px_is3, px_iv4, px_is4, px_iv5, px_is5, px_iv6, px_is6, px_max, px_min, px_abs, px_maxJ, px_minJ, px_ii0, px_ii1, px_iio, px_copy, pz_cpk, pz_lk, pz_alk, pz_ask, pz_gfk, pz_lnk, pz_bx, pz_b, pz_z, pz_s1, pz_s2, pz_wt, pz_cmp, List.getElem?_cons_zero, List.getElem?_cons_succ, List.getElem?_nil, List.set_cons_zero, List.set_cons_succ, List.length_cons, List.length_nil, List.nil_append, List.cons_append, Option.toList_some, Option.toList_none, if_true, if_false, ite_true, ite_false, and_true, true_and, and_self, or_self, or_false, false_or, true_or, or_true, and_false, false_and, not_true_eq_false, not_false_eq_true, forall_const, ne_eq, reduceCtorEq, implies_true, false_implies, true_implies, Int.toNat_natCast, Nat.reduceAdd, Nat.reduceSub, Nat.reduceLT, Nat.reduceLeDiff, Nat.reduceEqDiff, Int.reduceLT, Int.reduceLE, Int.reduceToNat, Int.reduceNeg, Int.reduceEq, Int.reduceAdd, Nat.reduceMul, Int.reduceSub, Nat.reduceBEq, Int.reduceMul, Nat.add_zero, Nat.zero_add, Int.cast_ofNat_Int, Int.ofNat_eq_coe, decide_eq_true_eq, Nat.lt_irrefl, Nat.le_refl, List.getElem?_toArray, Option.elim_some, Option.elim_none, j_Lt_unit_0, j_Lt_unit_24, j_Lt_unit_40, j_Lt_unit_47, g_6, g_1, rf_6_0 hR, rf_6_0 hR1, e1, e2]
  · subst hc
    simp (maxSteps := 1000000) (disch := omega) only [↓reduceIte, sp_0, sp_s, Option.map_some, Option.map_none, Option.some.injEq, o_le, o_nle, o_lt, o_nlt, o_eq, o_neq, w32_id, up_at, nw_at, nw_s, k_Lt_unit, px_iconst, px_bipush, px_sipush, px_ldc, px_ldc_w, px_lconst, px_ldc2_w, px_aconst_null, px_getstatic, px_iload_n, px_iload, px_lload_n, px_lload, px_aload_n, px_aload, px_istore_n, px_istore, px_astore_n, px_astore, px_lstore_n, px_lstore, px_iinc, px_iadd, px_isub, px_imul, px_iand, px_ior, px_ixor, px_ishl, px_ishr, px_iushr, px_ladd, px_lsub, px_lmul, px_land, px_lor, px_lcmp, px_lushr, px_lshl, px_ineg, px_i2l, px_l2i, px_idiv, px_irem, px_ldiv, px_lrem, px_dup0, px_pop0, px_dup2, px_pop2, px_dup2x, px_goto, px_if_eq, px_ic_eq, px_if_ne, px_ic_ne, px_if_lt, px_ic_lt, px_if_ge, px_ic_ge, px_if_gt, px_ic_gt, px_if_le, px_ic_le, px_ifnull, px_ifnonnull, px_lookupswitch, px_tableswitch, px_getfield, px_iaload, px_laload, px_caload, px_aaload, px_iastore, px_lastore, px_arraylength, px_putfield, px_ireturn, px_lreturn, px_areturn, px_return, px_iv0, px_is0, px_iv1, px_is1, px_iv2, px_is2, px_iv3, px_is3, px_iv4, px_is4, px_iv5, px_is5, px_iv6, px_is6, px_max, px_min, px_abs, px_maxJ, px_minJ, px_ii0, px_ii1, px_iio, px_copy, pz_cpk, pz_lk, pz_alk, pz_ask, pz_gfk, pz_lnk, pz_bx, pz_b, pz_z, pz_s1, pz_s2, pz_wt, pz_cmp, List.getElem?_cons_zero, List.getElem?_cons_succ, List.getElem?_nil, List.set_cons_zero, List.set_cons_succ, List.length_cons, List.length_nil, List.nil_append, List.cons_append, Option.toList_some, Option.toList_none, if_true, if_false, ite_true, ite_false, and_true, true_and, and_self, or_self, or_false, false_or, true_or, or_true, and_false, false_and, not_true_eq_false, not_false_eq_true, forall_const, ne_eq, reduceCtorEq, implies_true, false_implies, true_implies, Int.toNat_natCast, Nat.reduceAdd, Nat.reduceSub, Nat.reduceLT, Nat.reduceLeDiff, Nat.reduceEqDiff, Int.reduceLT, Int.reduceLE, Int.reduceToNat, Int.reduceNeg, Int.reduceEq, Int.reduceAdd, Nat.reduceMul, Int.reduceSub, Nat.reduceBEq, Int.reduceMul, Nat.add_zero, Nat.zero_add, Int.cast_ofNat_Int, Int.ofNat_eq_coe, decide_eq_true_eq, Nat.lt_irrefl, Nat.le_refl, List.getElem?_toArray, Option.elim_some, Option.elim_none, j_Lt_unit_0, j_Lt_unit_24, j_Lt_unit_40, j_Lt_unit_47, g_6, g_1, rf_6_0 hR, rf_6_0 hR1, e1, e2]
end P69
theorem Rc_eq {M : pz_M} {l : Nat} {X : Int → pz_M → pz_A} {K K' : pz_A} {r : Rs Ex} (h : Rc M l X K r) (e : ∀ v M', v = 0 ∨ v = 1 → K = X v M' → K' = X v M') : Rc M l X K' r := by
  match r, h with
  | .inl z, ⟨M', t, f, p, w, q⟩ => exact ⟨M', e _ _ (.inr rfl) t, f, p, w, q⟩
  | .inr w, ⟨M', t, f, p, q⟩ => exact ⟨M', e _ _ (.inl rfl) t, f, p, q⟩
section P69c
variable {ss : List (Nat × Nat)} {dd : Nat} {T : Nat → Int} {n : Nat}
theorem gUn_bl : ∀ j p, gUn T n j (bl T n p) = gUn T n j p
  | 0, p => by unfold gUn unt; rw [bl_bl, flt_bl, gSm_bl]
  | j + 1, p => by unfold gUn unt gNt; simp only [bl_bl, gSm_bl]
set_option maxRecDepth 100000 in
theorem c_unit_j (hss : ∀ M', pz_sh ((pz_SH, ss, 0, 0, dd), M') 4105 = some (112, 8)) : ∀ (j : Nat) (k : Int), 0 ≤ k → k + (j : Int) = 6 → ∀ (d : Nat) M p l, Sc M T n p l → LLt M → Rc M l (fun v M' => some (some (0, v), ((pz_SH, ss, 0, 0, dd), M'))) (pz_cal (d + 6 + 4 * j) 45 [(2, 6), (0, k), (0, 0)] ((pz_SH, ss, 0, 0, dd), M)) (gUn T n j p)
  | 0, k, hk0, hk, d => by
    intro M p l hS hL
    have hk6 : k = 6 := by omega
    subst hk6
    have s := c_sum_j (ss := ss) (dd := dd) (T := T) (n := n) hss 0 6 (by decide) (by omega) d
    by_cases c : ch T n (bl T n p) = 33 ∨ ch T n (bl T n p) = 40
    · have r := c_unit_f (d := d + 2) (ss := ss) (dd := dd) hS c
      have e : gUn T n 0 p = flt T n p := by
        unfold gUn unt
        rcases c with c | c
        · rw [if_pos c]
        · rw [if_neg (by omega), if_pos c]
      rw [e]
      exact r
    · exact c_unit_s (d := d + 2) (k := 6) (Gr_gSm 0) (gSm_bl 0) s M p l hS hL (fun h => c (.inl h)) (fun h => c (.inr h))
  | j + 1, k, hk0, hk, d => by
    intro M p l hS hL
    have u := c_unit_j hss j (k + 1) (by omega) (by omega) d
    have s := c_sum_j (ss := ss) (dd := dd) (T := T) (n := n) hss (j + 1) k hk0 (by omega) (d + 1 + j)
    rw [show d + 1 + j + 5 + 3 * (j + 1) = (d + 4 * j + 6) + 3 by omega] at s
    rw [show d + 6 + 4 * (j + 1) = (d + 4 * j + 6) + 4 by omega]
    by_cases c : ch T n (bl T n p) = 33 ∨ ch T n (bl T n p) = 40
    · have tr : ∀ M p l, Sc M T n p l → LLt M → Rc M l (fun v M' => some (some (0, v), ((pz_SH, ss, 0, 0, dd), M'))) (pz_cal (d + 7 + 4 * j) 44 [(2, 6), (0, k + 1), (0, 0)] ((pz_SH, ss, 0, 0, dd), M)) (sq1 T n oAn (gUn T n j) p) := by
        intro M p l hS hL
        have u' := u
        rw [show d + 6 + 4 * j = (d + 4 + 4 * j) + 2 by omega] at u'
        have := c_truth (d := d + 4 + 4 * j) (ss := ss) (dd := dd) (k := k + 1) (b := 0) (Gr_gUn j) u' hS.1 hS.2.1 hS.2.2.2.2.2 hL (Gr_gUn j p hS.2.2.2.1) (u' M p l hS hL)
        rw [show d + 7 + 4 * j = (d + 4 + 4 * j) + 3 by omega]
        exact this
      have hgt : ∀ p, p ≤ n → Gr n p (2 * j + 5) True (sq1 T n oAn (gUn T n j) p) := Gr_sq1 (h0 := 2 * j + 4) (q := True) (Gr_gUn j) (by decide) (by omega) (fun _ c hc => oAn_6 hc) (fun f => f)
      have co : ∀ M p l, Sc M T n p l → LLt M → Rc M l (fun v M' => some (some (0, v), ((pz_SH, ss, 0, 0, dd), M'))) (pz_cal (d + 8 + 4 * j) 43 [(2, 6), (0, k + 1), (0, 0)] ((pz_SH, ss, 0, 0, dd), M)) (gCd T n (gUn T n j) p) := by
        intro M p l hS hL
        have u' := tr
        rw [show d + 7 + 4 * j = (d + 5 + 4 * j) + 2 by omega] at u'
        have := c_condition (d := d + 5 + 4 * j) (ss := ss) (dd := dd) (k := k + 1) (b := 0) hgt u' hS.1 hS.2.1 hS.2.2.2.2.2 hL (hgt p hS.2.2.2.1) (u' M p l hS hL)
        rw [show d + 8 + 4 * j = (d + 5 + 4 * j) + 3 by omega]
        exact this
      have u2 := c_unit_j hss j (k + 1) (by omega) (by omega) (d + 2)
      rw [show d + 2 + 6 + 4 * j = (d + 4 + 4 * j) + 4 by omega] at u2
      rw [show d + 8 + 4 * j = (d + 4 + 4 * j) + 4 by omega] at co
      have hF1 : Pf M (pz_up M 1 2 (bl T n p : Int)) := Pf_up (.inl ⟨rfl, .inl rfl⟩)
      have b2 := bl_ge (T := T) (n := n) (p := p)
      have nn := c_nested (d := d + 4 + 4 * j) (ss := ss) (dd := dd) (Gr_gUn j) u2 co (pz_up M 1 2 (bl T n p : Int)) (bl T n p) l ⟨Rf_Pf hS.1 hF1, TC_Pf hS.2.1 hF1, by rw [up_at, if_pos ⟨rfl, rfl⟩], bl_le hS.2.2.2.1, by rw [up_at, if_neg (by omega)]; exact hS.2.2.2.2.1, by have := hS.2.2.2.2.2; omega⟩ (LLt_Pf hL hF1) (by rw [bl_bl]; exact c)
      have nn := Rc_base nn hF1 (by rw [up_at, if_neg (by omega)]) (by funext z; rw [up_at, if_neg (by omega)])
      rw [show d + 4 + 4 * j + 5 = (d + 4 * j + 6) + 3 by omega] at nn
      have r := Rc_eq nn (fun v M' hv t => c_unit_n (d := d + 4 * j + 6) (ss := ss) (dd := dd) hS ⟨hk0, by omega⟩ c hv t)
      have e : gUn T n (j + 1) p = if ch T n (bl T n (bl T n p)) = 33 then gNt T n (gUn T n j) (bl T n p) else inb T n (gCd T n (gUn T n j)) 41 (bl T n (bl T n p) + 1) := by
        rw [bl_bl]
        show unt T n (gNt T n (gUn T n j)) (fun p => inb T n (gCd T n (gUn T n j)) 41 (bl T n p + 1)) (gSm T n (j + 1)) p = _
        generalize gUn T n j = gu
        unfold unt
        by_cases c2 : ch T n (bl T n p) = 33
        · rw [if_pos c2, if_pos c2]
          unfold gNt
          rw [bl_bl]
        · rw [if_neg c2, if_neg c2, if_pos (by omega)]
      rw [e]
      exact r
    · exact c_unit_s (d := d + 4 * j + 6) (k := k) (Gr_gSm (j + 1)) (gSm_bl (j + 1)) s M p l hS hL (fun h => c (.inl h)) (fun h => c (.inr h))
end P69c
/-! THE CLASS READS A LAW: clauses, the law -/
/-- how many steps a clause has -/
def cln (x : Option Ex × Ex) : Nat := match x with
  | (none, s) => s.1.length + 1
  | (some c, s) => c.1.length + s.1.length + 2
/-- its steps, if they begin at l -/
def cs1 (l : Nat) (x : Option Ex × Ex) : List Int := match x with
  | (none, s) => s.1.map enc ++ [20121]
  | (some c, s) => c.1.map enc ++ [30000 + ((l + c.1.length + s.1.length + 2 : Nat) : Int)] ++ (s.1.map enc ++ [20121])
def csl : Nat → List (Option Ex × Ex) → List Int
  | _, [] => []
  | l, x :: r => cs1 l x ++ csl (l + cln x) r
theorem cs1_len {l : Nat} {x : Option Ex × Ex} : (cs1 l x).length = cln x := by
  match x with
  | (none, s) => simp only [cs1, cln, List.length_append, List.length_map, List.length_cons, List.length_nil]
  | (some c, s) => simp only [cs1, cln, List.length_append, List.length_map, List.length_cons, List.length_nil]; omega
theorem csl_app : ∀ (a : List (Option Ex × Ex)) (l : Nat) (x : Option Ex × Ex), csl l (a ++ [x]) = csl l a ++ cs1 (l + (csl l a).length) x
  | [], l, x => by simp only [csl, List.nil_append, List.append_nil, List.length_nil, Nat.add_zero]
  | y :: r, l, x => by
    have ih := csl_app r (l + cln y) x
    simp only [csl, List.cons_append, List.length_append, cs1_len]
    rw [ih, List.append_assoc]
    rw [Nat.add_assoc]
def Ai (M M' : pz_M) (l : Nat) (c : List Int) : Prop := M' 6 2 = ((l + c.length : Nat) : Int) ∧ (∀ i, i < l → M' 7 i = M 7 i) ∧ ∀ i t, c[i]? = some t → M' 7 (l + i) = t
theorem Ai_of {M M' : pz_M} {l : Nat} {c : List (Int × Int)} (h : Ap M M' l c) : Ai M M' l (c.map enc) := by
  refine ⟨by rw [List.length_map]; exact h.1, h.2.1, fun i t e => ?_⟩
  rw [List.getElem?_map] at e
  match hc : c[i]?, e with
  | some u, e =>
    have e : some (enc u) = some t := e
    rw [h.2.2 i u hc]; exact Option.some.inj e
theorem Ai_t {M M1 M2 : pz_M} {l : Nat} {a b : List Int} (h : Ai M M1 l a) (g : Ai M1 M2 (l + a.length) b) : Ai M M2 l (a ++ b) := by
  refine ⟨?_, fun i hi => ?_, fun i t e => ?_⟩
  · rw [g.1, List.length_append]; congr 1; omega
  · rw [g.2.1 i (by omega)]; exact h.2.1 i hi
  · by_cases hi : i < a.length
    · rw [List.getElem?_append_left hi] at e
      rw [g.2.1 (l + i) (by omega)]
      exact h.2.2 i t e
    · rw [List.getElem?_append_right (by omega)] at e
      have := g.2.2 (i - a.length) t e
      rw [show l + a.length + (i - a.length) = l + i by omega] at this
      exact this
theorem Ai_1 {M : pz_M} {l : Nat} {v : Int} : Ai M (pz_up (pz_up M 7 l v) 6 2 ((l : Int) + 1)) l [v] := by
  refine ⟨by rw [up_at, if_pos ⟨rfl, rfl⟩]; rfl, fun i hi => by rw [up_at, if_neg (by omega), up_at, if_neg (by omega)], fun i u e => ?_⟩
  have hi : i = 0 := by
    by_cases h : i = 0
    · exact h
    · rw [List.getElem?_eq_none (by show 1 ≤ i; omega)] at e; simp at e
  subst hi
  have e : some v = some u := e
  rw [Nat.add_zero, up_at, if_neg (by omega), up_at, if_pos ⟨rfl, rfl⟩]
  exact Option.some.inj e
theorem Ai_1_2 {M M0 : pz_M} {l : Nat} {c : List Int} {v : Int} {j : Nat} (h : Ai M0 M l c) : Ai M0 (pz_up M 1 j v) l c := ⟨by rw [up_at, if_neg (by omega)]; exact h.1, fun i hi => by rw [up_at, if_neg (by omega)]; exact h.2.1 i hi, fun i u hu => by rw [up_at, if_neg (by omega)]; exact h.2.2 i u hu⟩
theorem Ai_base {M M1 M2 : pz_M} {l : Nat} {c : List Int} (h : Ai M1 M2 l c) (h7 : M1 7 = M 7) : Ai M M2 l c := ⟨h.1, fun i hi => by rw [h.2.1 i hi, h7], h.2.2⟩
theorem Ai_set {M M1 : pz_M} {l : Nat} {a b : List Int} {x y : Int} (h : Ai M M1 l (a ++ [x] ++ b)) : Ai M (pz_up M1 7 (l + a.length) y) l (a ++ [y] ++ b) := by
  have e9 : (a ++ [y] ++ b).length = (a ++ [x] ++ b).length := by simp only [List.length_append, List.length_cons, List.length_nil]
  refine ⟨by rw [up_at, if_neg (by omega), e9]; exact h.1, fun i hi => by rw [up_at, if_neg (by omega)]; exact h.2.1 i hi, fun i t e => ?_⟩
  by_cases c : i = a.length
  · subst c
    rw [up_at, if_pos ⟨rfl, rfl⟩]
    rw [List.append_assoc, List.getElem?_append_right (Nat.le_refl _), Nat.sub_self] at e
    have e : some y = some t := e
    exact Option.some.inj e
  · rw [up_at, if_neg (by omega)]
    refine h.2.2 i t ?_
    rw [← e]
    rw [List.append_assoc, List.append_assoc]
    by_cases c2 : i < a.length
    · rw [List.getElem?_append_left c2, List.getElem?_append_left c2]
    · obtain ⟨k, hk⟩ : ∃ k, i - a.length = k + 1 := ⟨i - a.length - 1, by omega⟩
      have f1 : (a ++ ([x] ++ b))[i]? = ([x] ++ b)[i - a.length]? := List.getElem?_append_right (by omega)
      have f2 : (a ++ ([y] ++ b))[i]? = ([y] ++ b)[i - a.length]? := List.getElem?_append_right (by omega)
      rw [f1, f2, hk]
      rfl
/-- how the class reads a clause -/
def Rcl (M : pz_M) (l : Nat) (X : Int → pz_M → pz_A) (K : pz_A) (r : Rs (Option Ex × Ex)) : Prop := match r with
  | .inl z => ∃ M', K = X 1 M' ∧ Pf M M' ∧ M' 1 2 = (z.2 : Int) ∧ M' 1 3 = M 1 3 ∧ Ai M M' l (cs1 l z.1)
  | .inr w => ∃ M', K = X 0 M' ∧ Pf M M' ∧ M' 1 3 = (w : Int) ∧ ∃ l' : Nat, M' 6 2 = (l' : Int) ∧ l' ≤ 240
theorem Rcl_base {M M1 : pz_M} {l : Nat} {X : Int → pz_M → pz_A} {K : pz_A} {r : Rs (Option Ex × Ex)} (h : Rcl M1 l X K r) (hF : Pf M M1) (h3 : M1 1 3 = M 1 3) (h7 : M1 7 = M 7) : Rcl M l X K r := by
  match r, h with
  | .inl z, ⟨M', t, f, p, w, q⟩ => exact ⟨M', t, Pf_t hF f, p, w.trans h3, Ai_base q h7⟩
  | .inr w, ⟨M', t, f, p, q⟩ => exact ⟨M', t, Pf_t hF f, p, q⟩
theorem Rcl_eq {M : pz_M} {l : Nat} {X : Int → pz_M → pz_A} {K K' : pz_A} {r : Rs (Option Ex × Ex)} (h : Rcl M l X K r) (e : ∀ v M', v = 0 ∨ v = 1 → K = X v M' → K' = X v M') : Rcl M l X K' r := by
  match r, h with
  | .inl z, ⟨M', t, f, p, w, q⟩ => exact ⟨M', e _ _ (.inr rfl) t, f, p, w, q⟩
  | .inr w, ⟨M', t, f, p, q⟩ => exact ⟨M', e _ _ (.inl rfl) t, f, p, q⟩
/-- a good clause, read from p0 on -/
def Gc (n p0 : Nat) (r : Rs (Option Ex × Ex)) : Prop := match r with
  | .inl z => z.2 ≤ n ∧ p0 + cln z.1 ≤ z.2 ∧ Xg z.1.2 15 False ∧ ∀ c, z.1.1 = some c → Xg c 18 True
  | .inr w => w ≤ n
section P70g
variable {T : Nat → Int} {n : Nat}
theorem gCd_bl {j : Nat} {p : Nat} : gCd T n (gUn T n j) (bl T n p) = gCd T n (gUn T n j) p := by unfold gCd; exact sq1_bl (sq1_bl (gUn_bl j)) p
theorem gBd_bl {p : Nat} : gBd T n (bl T n p) = gBd T n p := by unfold gBd; rw [bl_bl, gCd_bl, gSm_bl]
theorem Gr_gCb {e : Ex} {p p0 : Nat} (hp : p ≤ n) (hl : p0 + e.1.length ≤ p) (hx : Xg e 15 False) : Gr n p0 18 True (gCb T n e p) := by
  unfold gCb
  have g1 := Gr_gCm (T := T) (p0 := p0) (Gr_gSm (T := T) (n := n) 6) hp hl hx
  match hz : gCm T n (gSm T n 6) e p, g1 with
  | .inl z, g1 =>
    have hgt : ∀ p, p ≤ n → Gr n p 17 True (sq1 T n oAn (gUn T n 6) p) := Gr_sq1 (h0 := 16) (q := True) (Gr_gUn 6) (by decide) (by omega) (fun _ c hc => oAn_6 hc) (fun f => f)
    have g2 := Gr_chn (T := T) (h := 17) (q := True) (Gr_gUn (T := T) (n := n) 6) (by decide : oAn (-1) = 0) (by omega) (fun _ c hc => oAn_6 hc) 240 z.1 z.2 p0 g1.1 g1.2.1 (Xg_m g1.2.2 (by omega) (fun f => f))
    show Gr n p0 18 True (match chn T n oAn (gUn T n 6) 240 z.1 z.2 with
      | .inl y => chn T n oOr (sq1 T n oAn (gUn T n 6)) 240 y.1 y.2
      | .inr w => .inr w)
    match hy : chn T n oAn (gUn T n 6) 240 z.1 z.2, g2 with
    | .inl y, g2 => exact Gr_chn hgt (by decide : oOr (-1) = 0) (by omega) (fun _ c hc => oOr_6 hc) 240 y.1 y.2 p0 g2.1 g2.2.1 (Xg_m g2.2.2 (by omega) (fun f => f))
    | .inr w, g2 => exact g2
  | .inr w, g1 => exact g1
theorem Gc_gRs {e : Ex} {p p0 : Nat} (hp : p ≤ n) (hl : p0 + e.1.length + 1 ≤ p) (hx : Xg e 18 True) : Gc n p0 (gRs T n e p) := by
  unfold gRs
  have b1 := bl_le (T := T) hp
  have b2 := bl_ge (T := T) (n := n) (p := p)
  by_cases c : ch T n (bl T n p) = 63
  · rw [if_pos c]
    have b3 : bl T n p < n := ch_lt c (by decide)
    have g1 := Gr_gSm (T := T) (n := n) 6 (bl T n p + 1) (by omega)
    match hz : gSm T n 6 (bl T n p + 1), g1 with
    | .inl z, g1 =>
      have := g1.2.1
      exact ⟨g1.1, by show p0 + (e.1.length + z.1.1.length + 2) ≤ z.2; omega, g1.2.2, fun c hc => by rw [← Option.some.inj (show some e = some c from hc)]; exact hx⟩
    | .inr w, g1 => exact g1
  · rw [if_neg c]; exact b1
theorem Gc_gBd {p p0 : Nat} (hp : p ≤ n) (hl : p0 + 1 ≤ p) : Gc n p0 (gBd T n p) := by
  unfold gBd
  by_cases c : ch T n (bl T n p) = 33 ∨ ch T n (bl T n p) = 40
  · rw [if_pos c]
    have g1 := Gr_gCd (T := T) (Gr_gUn (T := T) (n := n) 6) p hp
    match hz : gCd T n (gUn T n 6) p, g1 with
    | .inl z, g1 => exact Gc_gRs g1.1 (by have := g1.2.1; omega) g1.2.2
    | .inr w, g1 => exact g1
  · rw [if_neg c]
    have g1 := Gr_gSm (T := T) (n := n) 6 p hp
    match hz : gSm T n 6 p, g1 with
    | .inl z, g1 =>
      show Gc n p0 (if oCm (ch T n (bl T n z.2)) = 0 then _ else _)
      have b2 := bl_ge (T := T) (n := n) (p := z.2)
      have b1 := bl_le (T := T) g1.1
      have g12 := g1.2.1
      by_cases c2 : oCm (ch T n (bl T n z.2)) = 0
      · rw [if_pos c2]
        exact ⟨b1, by show p0 + (z.1.1.length + 1) ≤ bl T n z.2; omega, g1.2.2, fun c hc => by simp at hc⟩
      · rw [if_neg c2]
        have g2 := Gr_gCb (T := T) (n := n) (p0 := p) g1.1 g1.2.1 g1.2.2
        match hy : gCb T n z.1 z.2, g2 with
        | .inl y, g2 => exact Gc_gRs g2.1 (by have := g2.2.1; omega) g2.2.2
        | .inr w, g2 => exact g2
    | .inr w, g1 => exact g1
theorem Gc_gCl {p : Nat} (hp : p ≤ n) : Gc n p (gCl T n p) := by
  unfold gCl
  have b1 := bl_le (T := T) hp
  have b2 := bl_ge (T := T) (n := n) (p := p)
  by_cases c : ch T n (bl T n p) = 121
  · rw [if_pos c]
    have b3 : bl T n p < n := ch_lt c (by decide)
    have b4 := bl_le (T := T) (n := n) (p := bl T n p + 1) (by omega)
    have b5 := bl_ge (T := T) (n := n) (p := bl T n p + 1)
    by_cases c2 : ch T n (bl T n (bl T n p + 1)) = 58
    · rw [if_pos c2]
      have b6 : bl T n (bl T n p + 1) < n := ch_lt c2 (by decide)
      exact Gc_gBd (by omega) (by omega)
    · rw [if_neg c2]; exact b4
  · rw [if_neg c]; exact b1
end P70g
section P70
variable {d : Nat} {ss : List (Nat × Nat)} {dd : Nat} {T : Nat → Int} {n : Nat}
set_option maxRecDepth 100000 in
theorem c_csum (hss : ∀ M', pz_sh ((pz_SH, ss, 0, 0, dd), M') 4105 = some (112, 8)) {M0 M : pz_M} {l0 p : Nat} {e : Ex} (hR0 : Rf M0) (hT0 : TC M0 T n) (hL : LLt M0) (hp : p ≤ n) (hl : l0 + e.1.length + 2 ≤ p) (hF : Pf M0 M) (h2 : M 1 2 = (p : Int)) (h3 : M 1 3 = M0 1 3) (hAp : Ap M0 M l0 e.1) : Rcl M0 l0 (fun v M' => some (some (0, v), ((pz_SH, ss, 0, 0, dd), M'))) (pz_cal (d + 24) 47 [(2, 6)] ((pz_SH, ss, 0, 0, dd), M)) (bnd (gSm T n 6 p) (fun z q => .inl ((some e, z), q))) := by
  have n240 := hT0.2.1
  have hR := Rf_Pf hR0 hF
  have h62 := hAp.1
  have e1 := c_emit (d := d + 22) (ss := ss) (dd := dd) (s := 3) (v := 0) hR h62 (by omega) (by decide) (by decide)
  have A1 := Ai_t (Ai_of hAp) (Ai_1 (M := M) (l := l0 + (e.1.map enc).length) (v := 3 * 10000 + 0))
  rw [List.length_map] at A1
  have hF1 := Pf_t hF (Pf_t (Pf_up (M := M) (k := 7) (j := l0 + e.1.length) (v := 3 * 10000 + 0) (.inr (.inr rfl))) (Pf_up (k := 6) (j := 2) (v := ((l0 + e.1.length : Nat) : Int) + 1) (.inr (.inl ⟨rfl, rfl⟩))))
  have h21 : pz_up (pz_up M 7 (l0 + e.1.length) (3 * 10000 + 0)) 6 2 (((l0 + e.1.length : Nat) : Int) + 1) 1 2 = (p : Int) := by rw [up_at, if_neg (by omega), up_at, if_neg (by omega)]; exact h2
  have h31 : pz_up (pz_up M 7 (l0 + e.1.length) (3 * 10000 + 0)) 6 2 (((l0 + e.1.length : Nat) : Int) + 1) 1 3 = M0 1 3 := by rw [up_at, if_neg (by omega), up_at, if_neg (by omega)]; exact h3
  have h61 : pz_up (pz_up M 7 (l0 + e.1.length) (3 * 10000 + 0)) 6 2 (((l0 + e.1.length : Nat) : Int) + 1) 6 2 = ((l0 + e.1.length + 1 : Nat) : Int) := by rw [up_at, if_pos ⟨rfl, rfl⟩]; rfl
  generalize pz_up (pz_up M 7 (l0 + e.1.length) (3 * 10000 + 0)) 6 2 (((l0 + e.1.length : Nat) : Int) + 1) = M1 at *
  have hR1 := Rf_Pf hR0 hF1
  have s := c_sum_j (ss := ss) (dd := dd) (T := T) (n := n) hss 6 0 (by decide) (by omega) d M1 p (l0 + e.1.length + 1) ⟨hR1, TC_Pf hT0 hF1, h21, hp, h61, by omega⟩ (LLt_Pf hL hF1)
  have g1 := Gr_gSm (T := T) (n := n) 6 p hp
  match hz : gSm T n 6 p, s, g1 with
  | .inl z, s, g1 =>
    obtain ⟨M3, t3, f3, p3, w3, q3⟩ := s
    have t3 : pz_cal (d + 23) 37 [(2, 6), (0, 0)] ((pz_SH, ss, 0, 0, dd), M1) = some (some (0, 1), ((pz_SH, ss, 0, 0, dd), M3)) := t3
    have g2 := g1.1
    have g3 := g1.2.1
    have hF3 := Pf_t hF1 f3
    have hR3 := Rf_Pf hR0 hF3
    have e5 := c_emit (d := d + 22) (ss := ss) (dd := dd) (s := 2) (v := 121) hR3 q3.1 (by omega) (by decide) (by decide)
    have ei : l0 + (e.1.map enc ++ [3 * 10000 + 0]).length = l0 + e.1.length + 1 := by rw [List.length_append, List.length_map]; rfl
    have Q3 : Ai M1 _ (l0 + e.1.length + 1) _ := Ai_t (Ai_of q3) (by rw [List.length_map]; exact Ai_1 (M := M3) (l := l0 + e.1.length + 1 + z.1.1.length) (v := 2 * 10000 + 121))
    rw [← ei] at Q3
    have A3 := Ai_t A1 Q3
    rw [ei] at A3
    have hF4 := Pf_t hF3 (Pf_t (Pf_up (M := M3) (k := 7) (j := l0 + e.1.length + 1 + z.1.1.length) (v := 2 * 10000 + 121) (.inr (.inr rfl))) (Pf_up (k := 6) (j := 2) (v := ((l0 + e.1.length + 1 + z.1.1.length : Nat) : Int) + 1) (.inr (.inl ⟨rfl, rfl⟩))))
    have h24 : pz_up (pz_up M3 7 (l0 + e.1.length + 1 + z.1.1.length) (2 * 10000 + 121)) 6 2 (((l0 + e.1.length + 1 + z.1.1.length : Nat) : Int) + 1) 1 2 = (z.2 : Int) := by rw [up_at, if_neg (by omega), up_at, if_neg (by omega)]; exact p3
    have h34 : pz_up (pz_up M3 7 (l0 + e.1.length + 1 + z.1.1.length) (2 * 10000 + 121)) 6 2 (((l0 + e.1.length + 1 + z.1.1.length : Nat) : Int) + 1) 1 3 = M0 1 3 := by rw [up_at, if_neg (by omega), up_at, if_neg (by omega), w3]; exact h31
    have h64 : pz_up (pz_up M3 7 (l0 + e.1.length + 1 + z.1.1.length) (2 * 10000 + 121)) 6 2 (((l0 + e.1.length + 1 + z.1.1.length : Nat) : Int) + 1) 6 2 = ((l0 + e.1.length + z.1.1.length + 2 : Nat) : Int) := by rw [up_at, if_pos ⟨rfl, rfl⟩]; omega
    generalize pz_up (pz_up M3 7 (l0 + e.1.length + 1 + z.1.1.length) (2 * 10000 + 121)) 6 2 (((l0 + e.1.length + 1 + z.1.1.length : Nat) : Int) + 1) = M4 at *
    have hR4 := Rf_Pf hR0 hF4
    have A5 := Ai_set (y := 30000 + ((l0 + e.1.length + z.1.1.length + 2 : Nat) : Int)) A3
    rw [List.length_map] at A5
    refine ⟨pz_up M4 7 (l0 + e.1.length) (30000 + ((l0 + e.1.length + z.1.1.length + 2 : Nat) : Int)), ?_, Pf_t hF4 (Pf_up (.inr (.inr rfl))), by rw [up_at, if_neg (by omega)]; exact h24, by rw [up_at, if_neg (by omega)]; exact h34, A5⟩
    show _ = some (some (0, 1), ((pz_SH, ss, 0, 0, dd), pz_up M4 7 (l0 + e.1.length) (30000 + ((l0 + e.1.length + z.1.1.length + 2 : Nat) : Int))))
    have l9 : l0 + e.1.length + z.1.1.length + 2 ≤ 240 := by omega
    generalize l0 + e.1.length + z.1.1.length + 2 = l2 at *
    have l8 : l0 + e.1.length < 240 := by omega
    generalize l0 + e.1.length = l1 at *
    simp (maxSteps := 1000000) (disch := omega) only [↓reduceIte, sp_0, sp_s, Option.map_some, Option.map_none, Option.some.injEq, o_le, o_nle, o_lt, o_nlt, o_eq, o_neq, w32_id, up_at, nw_at, nw_s, k_Lt_conditionalSum, px_iconst, px_bipush, px_sipush, px_ldc, px_ldc_w, px_lconst, px_ldc2_w, px_aconst_null, px_getstatic, px_iload_n, px_iload, px_lload_n, px_lload, px_aload_n, px_aload, px_istore_n, px_istore, px_astore_n, px_astore, px_lstore_n, px_lstore, px_iinc, px_iadd, px_isub, px_imul, px_iand, px_ior, px_ixor, px_ishl, px_ishr, px_iushr, px_ladd, px_lsub, px_lmul, px_land, px_lor, px_lcmp, px_lushr, px_lshl, px_ineg, px_i2l, px_l2i, px_idiv, px_irem, px_ldiv, px_lrem, px_dup0, px_pop0, px_dup2, px_pop2, px_dup2x, px_goto, px_if_eq, px_ic_eq, px_if_ne, px_ic_ne, px_if_lt, px_ic_lt, px_if_ge, px_ic_ge, px_if_gt, px_ic_gt, px_if_le, px_ic_le, px_ifnull, px_ifnonnull, px_lookupswitch, px_tableswitch, px_getfield, px_iaload, px_laload, px_caload, px_aaload, px_iastore, px_lastore, px_arraylength, px_putfield, px_ireturn, px_lreturn, px_areturn, px_return, px_iv0, px_is0, px_iv1, px_is1, px_iv2, px_is2, px_iv3, px_is3, px_iv4, px_is4, px_iv5, px_is5, px_iv6, px_is6, px_max, px_min, px_abs, px_maxJ, px_minJ, px_ii0, px_ii1, px_iio, px_copy, pz_cpk, pz_lk, pz_alk, pz_ask, pz_gfk, pz_lnk, pz_bx, pz_b, pz_z, pz_s1, pz_s2, pz_wt, pz_cmp, List.getElem?_cons_zero, List.getElem?_cons_succ, List.getElem?_nil, List.set_cons_zero, List.set_cons_succ, List.length_cons, List.length_nil, List.nil_append, List.cons_append, Option.toList_some, Option.toList_none, if_true, if_false, ite_true, ite_false, and_true, true_and, and_self, or_self, or_false, false_or, true_or, or_true, and_false, false_and, not_true_eq_false, not_false_eq_true, forall_const, ne_eq, reduceCtorEq, implies_true, false_implies, true_implies, Int.toNat_natCast, Nat.reduceAdd, Nat.reduceSub, Nat.reduceLT, Nat.reduceLeDiff, Nat.reduceEqDiff, Int.reduceLT, Int.reduceLE, Int.reduceToNat, Int.reduceNeg, Int.reduceEq, Int.reduceAdd, Nat.reduceMul, Int.reduceSub, Nat.reduceBEq, Int.reduceMul, Nat.add_zero, Nat.zero_add, Int.cast_ofNat_Int, Int.ofNat_eq_coe, decide_eq_true_eq, Nat.lt_irrefl, Nat.le_refl, List.getElem?_toArray, Option.elim_some, Option.elim_none, j_Lt_conditionalSum_0, j_Lt_conditionalSum_21, j_Lt_conditionalSum_51, g_6, g_7, rf_6_1 hR, rf_6_1 hR4, h62, h64, e1, t3, e5]
  | .inr w, s, g1 =>
    obtain ⟨M3, t3, f3, w3, l', q3, q4⟩ := s
    have t3 : pz_cal (d + 23) 37 [(2, 6), (0, 0)] ((pz_SH, ss, 0, 0, dd), M1) = some (some (0, 0), ((pz_SH, ss, 0, 0, dd), M3)) := t3
    refine ⟨M3, ?_, Pf_t hF1 f3, w3, l', q3, q4⟩
    show _ = some (some (0, 0), ((pz_SH, ss, 0, 0, dd), M3))
    simp (maxSteps := 1000000) (disch := omega) only [↓reduceIte, sp_0, sp_s, Option.map_some, Option.map_none, Option.some.injEq, o_le, o_nle, o_lt, o_nlt, o_eq, o_neq, w32_id, up_at, nw_at, nw_s, k_Lt_conditionalSum, px_iconst, px_bipush, px_sipush, px_ldc, px_ldc_w, px_lconst, px_ldc2_w, px_aconst_null, px_getstatic, px_iload_n, px_iload, px_lload_n, px_lload, px_aload_n, px_aload, px_istore_n, px_istore, px_astore_n, px_astore, px_lstore_n, px_lstore, px_iinc, px_iadd, px_isub, px_imul, px_iand, px_ior, px_ixor, px_ishl, px_ishr, px_iushr, px_ladd, px_lsub, px_lmul, px_land, px_lor, px_lcmp, px_lushr, px_lshl, px_ineg, px_i2l, px_l2i, px_idiv, px_irem, px_ldiv, px_lrem, px_dup0, px_pop0, px_dup2, px_pop2, px_dup2x, px_goto, px_if_eq, px_ic_eq, px_if_ne, px_ic_ne, px_if_lt, px_ic_lt, px_if_ge, px_ic_ge, px_if_gt, px_ic_gt, px_if_le, px_ic_le, px_ifnull, px_ifnonnull, px_lookupswitch, px_tableswitch, px_getfield, px_iaload, px_laload, px_caload, px_aaload, px_iastore, px_lastore, px_arraylength, px_putfield, px_ireturn, px_lreturn, px_areturn, px_return, px_iv0, px_is0, px_iv1, px_is1, px_iv2, px_is2, px_iv3, px_is3, px_iv4, px_is4, px_iv5, px_is5, px_iv6, px_is6, px_max, px_min, px_abs, px_maxJ, px_minJ, px_ii0, px_ii1, px_iio, px_copy, pz_cpk, pz_lk, pz_alk, pz_ask, pz_gfk, pz_lnk, pz_bx, pz_b, pz_z, pz_s1, pz_s2, pz_wt, pz_cmp, List.getElem?_cons_zero, List.getElem?_cons_succ, List.getElem?_nil, List.set_cons_zero, List.set_cons_succ, List.length_cons, List.length_nil, List.nil_append, List.cons_append, Option.toList_some, Option.toList_none, if_true, if_false, ite_true, ite_false, and_true, true_and, and_self, or_self, or_false, false_or, true_or, or_true, and_false, false_and, not_true_eq_false, not_false_eq_true, forall_const, ne_eq, reduceCtorEq, implies_true, false_implies, true_implies, Int.toNat_natCast, Nat.reduceAdd, Nat.reduceSub, Nat.reduceLT, Nat.reduceLeDiff, Nat.reduceEqDiff, Int.reduceLT, Int.reduceLE, Int.reduceToNat, Int.reduceNeg, Int.reduceEq, Int.reduceAdd, Nat.reduceMul, Int.reduceSub, Nat.reduceBEq, Int.reduceMul, Nat.add_zero, Nat.zero_add, Int.cast_ofNat_Int, Int.ofNat_eq_coe, decide_eq_true_eq, Nat.lt_irrefl, Nat.le_refl, List.getElem?_toArray, Option.elim_some, Option.elim_none, j_Lt_conditionalSum_0, j_Lt_conditionalSum_21, j_Lt_conditionalSum_51, g_6, g_7, rf_6_1 hR, h62, e1, t3]
set_option maxRecDepth 100000 in
/-- from the condition on -/
theorem c_clause_92 (hss : ∀ M', pz_sh ((pz_SH, ss, 0, 0, dd), M') 4105 = some (112, 8)) {M0 M : pz_M} {l0 p0 : Nat} {b : Int} {r : Rs Ex} (hR0 : Rf M0) (hT0 : TC M0 T n) (hL : LLt M0) (hl : l0 + 1 ≤ p0) (g : Gr n p0 18 True r) (a : Rc M0 l0 (fun v M' => some (some (0, v), ((pz_SH, ss, 0, 0, dd), M'))) (pz_cal (d + 32) 43 [(2, 6), (0, 0), (0, b)] ((pz_SH, ss, 0, 0, dd), M)) r) : Rcl M0 l0 (fun v M' => some (some (0, v), ((pz_SH, ss, 0, 0, dd), M'))) (pz_p bl_Lt_clause (pz_cal (d + 32)) 0 0 92 [] [(2, 6), (0, b)] [] ((pz_SH, ss, 0, 0, dd), M)) (bnd r (gRs T n)) := by
  have n240 := hT0.2.1
  match r, a, g with
  | .inl z, a, g =>
    obtain ⟨M3, t3, f3, p3, w3, q3⟩ := a
    have t3 : pz_cal (d + 32) 43 [(2, 6), (0, 0), (0, b)] ((pz_SH, ss, 0, 0, dd), M) = some (some (0, 1), ((pz_SH, ss, 0, 0, dd), M3)) := t3
    have hR3 := Rf_Pf hR0 f3
    have g2 := g.1
    have g3 := g.2.1
    have b1 := bl_le (T := T) g2
    have b2 := bl_ge (T := T) (n := n) (p := z.2)
    have e4 := c_wants (d := d + 29) (ss := ss) (dd := dd) (v := 63) hR3 (TC_Pf hT0 f3) p3 g2
    show Rcl M0 l0 _ _ (gRs T n z.1 z.2)
    unfold gRs
    have q62 := q3.1
    by_cases c : ch T n (bl T n z.2) = 63
    · rw [if_pos c] at e4 ⊢
      have b3 : bl T n z.2 < n := ch_lt c (by decide)
      have hF4 : Pf M0 (pz_up M3 1 2 ((bl T n z.2 : Int) + 1)) := Pf_t f3 (Pf_up (.inl ⟨rfl, .inl rfl⟩))
      have s := c_csum (d := d + 8) (ss := ss) (dd := dd) (M := pz_up M3 1 2 ((bl T n z.2 : Int) + 1)) (p := bl T n z.2 + 1) (e := z.1) hss hR0 hT0 hL (by omega) (by omega) hF4 (by rw [up_at, if_pos ⟨rfl, rfl⟩]; rfl) (by rw [up_at, if_neg (by omega)]; exact w3) (Ap_1_2 q3)
      refine Rcl_eq s (fun v M' hv t => ?_)
      generalize pz_up M3 1 2 ((bl T n z.2 : Int) + 1) = M4 at *
      have t : pz_cal (d + 32) 47 [(2, 6)] ((pz_SH, ss, 0, 0, dd), M4) = some (some (0, v), ((pz_SH, ss, 0, 0, dd), M')) := t
      show _ = some (some (0, v), ((pz_SH, ss, 0, 0, dd), M'))
      rcases hv with hv | hv
      · subst hv
        rw [j_Lt_clause_92]
        simp (maxSteps := 1000000) (disch := omega) only [↓reduceIte, sp_0, sp_s, Option.map_some, Option.map_none, Option.some.injEq, o_le, o_nle, o_lt, o_nlt, o_eq, o_neq, w32_id, nw_s, px_iconst, px_bipush, px_sipush, px_ldc, px_ldc_w, px_lconst, px_ldc2_w, px_aconst_null, px_getstatic, px_iload_n, px_iload, px_lload_n, px_lload, px_aload_n, px_aload, px_istore_n, px_istore, px_astore_n, px_astore, px_lstore_n, px_lstore, px_iinc, px_iadd, px_isub, px_imul, px_iand, px_ior, px_ixor, px_ishl, px_ishr, px_iushr, px_ladd, px_lsub, px_lmul, px_land, px_lor, px_lcmp, px_lushr, px_lshl, px_ineg, px_i2l, px_l2i, px_idiv, px_irem, px_ldiv, px_lrem, px_dup0, px_pop0, px_dup2, px_pop2, px_dup2x, px_goto, px_if_eq, px_ic_eq, px_if_ne, px_ic_ne, px_if_lt, px_ic_lt, px_if_ge, px_ic_ge, px_if_gt, px_ic_gt, px_if_le, px_ic_le, px_ifnull, px_ifnonnull, px_lookupswitch, px_tableswitch, px_getfield, px_iaload, px_laload, px_caload, px_aaload, px_iastore, px_lastore, px_arraylength, px_putfield, px_ireturn, px_lreturn, px_areturn, px_return, px_iv0, px_is0, px_iv1, px_is1, px_iv2, px_is2, px_iv3, px_is3, px_iv4, px_is4, px_iv5, px_is5, px_iv6, px_is6, px_max, px_min, px_abs, px_maxJ, px_minJ, px_ii0, px_ii1, px_iio, px_copy, pz_cpk, pz_lk, pz_alk, pz_ask, pz_gfk, pz_lnk, pz_bx, pz_b, pz_z, pz_s1, pz_s2, pz_wt, pz_cmp, List.getElem?_cons_zero, List.getElem?_cons_succ, List.getElem?_nil, List.set_cons_zero, List.set_cons_succ, List.length_cons, List.length_nil, List.nil_append, List.cons_append, Option.toList_some, Option.toList_none, if_true, if_false, ite_true, ite_false, and_true, true_and, and_self, or_self, or_false, false_or, true_or, or_true, and_false, false_and, not_true_eq_false, not_false_eq_true, forall_const, ne_eq, reduceCtorEq, implies_true, false_implies, true_implies, Int.toNat_natCast, Nat.reduceAdd, Nat.reduceSub, Nat.reduceLT, Nat.reduceLeDiff, Nat.reduceEqDiff, Int.reduceLT, Int.reduceLE, Int.reduceToNat, Int.reduceNeg, Int.reduceEq, Int.reduceAdd, Nat.reduceMul, Int.reduceSub, Nat.reduceBEq, Int.reduceMul, Nat.add_zero, Nat.zero_add, Int.cast_ofNat_Int, Int.ofNat_eq_coe, decide_eq_true_eq, Nat.lt_irrefl, Nat.le_refl, List.getElem?_toArray, Option.elim_some, Option.elim_none, j_Lt_clause_124, j_Lt_clause_125, g_6, g_1, rf_6_0 hR3, t3, e4, t]
      · subst hv
        rw [j_Lt_clause_92]
        simp (maxSteps := 1000000) (disch := omega) only [↓reduceIte, sp_0, sp_s, Option.map_some, Option.map_none, Option.some.injEq, o_le, o_nle, o_lt, o_nlt, o_eq, o_neq, w32_id, nw_s, px_iconst, px_bipush, px_sipush, px_ldc, px_ldc_w, px_lconst, px_ldc2_w, px_aconst_null, px_getstatic, px_iload_n, px_iload, px_lload_n, px_lload, px_aload_n, px_aload, px_istore_n, px_istore, px_astore_n, px_astore, px_lstore_n, px_lstore, px_iinc, px_iadd, px_isub, px_imul, px_iand, px_ior, px_ixor, px_ishl, px_ishr, px_iushr, px_ladd, px_lsub, px_lmul, px_land, px_lor, px_lcmp, px_lushr, px_lshl, px_ineg, px_i2l, px_l2i, px_idiv, px_irem, px_ldiv, px_lrem, px_dup0, px_pop0, px_dup2, px_pop2, px_dup2x, px_goto, px_if_eq, px_ic_eq, px_if_ne, px_ic_ne, px_if_lt, px_ic_lt, px_if_ge, px_ic_ge, px_if_gt, px_ic_gt, px_if_le, px_ic_le, px_ifnull, px_ifnonnull, px_lookupswitch, px_tableswitch, px_getfield, px_iaload, px_laload, px_caload, px_aaload, px_iastore, px_lastore, px_arraylength, px_putfield, px_ireturn, px_lreturn, px_areturn, px_return, px_iv0, px_is0, px_iv1, px_is1, px_iv2, px_is2, px_iv3, px_is3, px_iv4, px_is4, px_iv5, px_is5, px_iv6, px_is6, px_max, px_min, px_abs, px_maxJ, px_minJ, px_ii0, px_ii1, px_iio, px_copy, pz_cpk, pz_lk, pz_alk, pz_ask, pz_gfk, pz_lnk, pz_bx, pz_b, pz_z, pz_s1, pz_s2, pz_wt, pz_cmp, List.getElem?_cons_zero, List.getElem?_cons_succ, List.getElem?_nil, List.set_cons_zero, List.set_cons_succ, List.length_cons, List.length_nil, List.nil_append, List.cons_append, Option.toList_some, Option.toList_none, if_true, if_false, ite_true, ite_false, and_true, true_and, and_self, or_self, or_false, false_or, true_or, or_true, and_false, false_and, not_true_eq_false, not_false_eq_true, forall_const, ne_eq, reduceCtorEq, implies_true, false_implies, true_implies, Int.toNat_natCast, Nat.reduceAdd, Nat.reduceSub, Nat.reduceLT, Nat.reduceLeDiff, Nat.reduceEqDiff, Int.reduceLT, Int.reduceLE, Int.reduceToNat, Int.reduceNeg, Int.reduceEq, Int.reduceAdd, Nat.reduceMul, Int.reduceSub, Nat.reduceBEq, Int.reduceMul, Nat.add_zero, Nat.zero_add, Int.cast_ofNat_Int, Int.ofNat_eq_coe, decide_eq_true_eq, Nat.lt_irrefl, Nat.le_refl, List.getElem?_toArray, Option.elim_some, Option.elim_none, j_Lt_clause_124, j_Lt_clause_125, g_6, g_1, rf_6_0 hR3, t3, e4, t]
    · rw [if_neg c] at e4 ⊢
      refine ⟨pz_up (pz_up M3 1 2 (bl T n z.2 : Int)) 1 3 (bl T n z.2 : Int), ?_, Pf_t f3 (Pf_t (Pf_up (.inl ⟨rfl, .inl rfl⟩)) (Pf_up (.inl ⟨rfl, .inr rfl⟩))), by rw [up_at, if_pos ⟨rfl, rfl⟩], l0 + z.1.1.length, by rw [up_at, if_neg (by omega), up_at, if_neg (by omega)]; exact q62, by omega⟩
      generalize pz_up (pz_up M3 1 2 (bl T n z.2 : Int)) 1 3 (bl T n z.2 : Int) = M4 at *
      rw [j_Lt_clause_92]
      simp (maxSteps := 1000000) (disch := omega) only [↓reduceIte, sp_0, sp_s, Option.map_some, Option.map_none, Option.some.injEq, o_le, o_nle, o_lt, o_nlt, o_eq, o_neq, w32_id, nw_s, px_iconst, px_bipush, px_sipush, px_ldc, px_ldc_w, px_lconst, px_ldc2_w, px_aconst_null, px_getstatic, px_iload_n, px_iload, px_lload_n, px_lload, px_aload_n, px_aload, px_istore_n, px_istore, px_astore_n, px_astore, px_lstore_n, px_lstore, px_iinc, px_iadd, px_isub, px_imul, px_iand, px_ior, px_ixor, px_ishl, px_ishr, px_iushr, px_ladd, px_lsub, px_lmul, px_land, px_lor, px_lcmp, px_lushr, px_lshl, px_ineg, px_i2l, px_l2i, px_idiv, px_irem, px_ldiv, px_lrem, px_dup0, px_pop0, px_dup2, px_pop2, px_dup2x, px_goto, px_if_eq, px_ic_eq, px_if_ne, px_ic_ne, px_if_lt, px_ic_lt, px_if_ge, px_ic_ge, px_if_gt, px_ic_gt, px_if_le, px_ic_le, px_ifnull, px_ifnonnull, px_lookupswitch, px_tableswitch, px_getfield, px_iaload, px_laload, px_caload, px_aaload, px_iastore, px_lastore, px_arraylength, px_putfield, px_ireturn, px_lreturn, px_areturn, px_return, px_iv0, px_is0, px_iv1, px_is1, px_iv2, px_is2, px_iv3, px_is3, px_iv4, px_is4, px_iv5, px_is5, px_iv6, px_is6, px_max, px_min, px_abs, px_maxJ, px_minJ, px_ii0, px_ii1, px_iio, px_copy, pz_cpk, pz_lk, pz_alk, pz_ask, pz_gfk, pz_lnk, pz_bx, pz_b, pz_z, pz_s1, pz_s2, pz_wt, pz_cmp, List.getElem?_cons_zero, List.getElem?_cons_succ, List.getElem?_nil, List.set_cons_zero, List.set_cons_succ, List.length_cons, List.length_nil, List.nil_append, List.cons_append, Option.toList_some, Option.toList_none, if_true, if_false, ite_true, ite_false, and_true, true_and, and_self, or_self, or_false, false_or, true_or, or_true, and_false, false_and, not_true_eq_false, not_false_eq_true, forall_const, ne_eq, reduceCtorEq, implies_true, false_implies, true_implies, Int.toNat_natCast, Nat.reduceAdd, Nat.reduceSub, Nat.reduceLT, Nat.reduceLeDiff, Nat.reduceEqDiff, Int.reduceLT, Int.reduceLE, Int.reduceToNat, Int.reduceNeg, Int.reduceEq, Int.reduceAdd, Nat.reduceMul, Int.reduceSub, Nat.reduceBEq, Int.reduceMul, Nat.add_zero, Nat.zero_add, Int.cast_ofNat_Int, Int.ofNat_eq_coe, decide_eq_true_eq, Nat.lt_irrefl, Nat.le_refl, List.getElem?_toArray, Option.elim_some, Option.elim_none, j_Lt_clause_124, j_Lt_clause_125, g_6, g_1, rf_6_0 hR3, t3, e4]
  | .inr w, a, g =>
    obtain ⟨M3, t3, f3, w3, l', q3, q4⟩ := a
    have t3 : pz_cal (d + 32) 43 [(2, 6), (0, 0), (0, b)] ((pz_SH, ss, 0, 0, dd), M) = some (some (0, 0), ((pz_SH, ss, 0, 0, dd), M3)) := t3
    refine ⟨M3, ?_, f3, w3, l', q3, q4⟩
    rw [j_Lt_clause_92]
    simp (maxSteps := 1000000) (disch := omega) only [↓reduceIte, sp_0, sp_s, Option.map_some, Option.map_none, Option.some.injEq, o_le, o_nle, o_lt, o_nlt, o_eq, o_neq, w32_id, nw_s, px_iconst, px_bipush, px_sipush, px_ldc, px_ldc_w, px_lconst, px_ldc2_w, px_aconst_null, px_getstatic, px_iload_n, px_iload, px_lload_n, px_lload, px_aload_n, px_aload, px_istore_n, px_istore, px_astore_n, px_astore, px_lstore_n, px_lstore, px_iinc, px_iadd, px_isub, px_imul, px_iand, px_ior, px_ixor, px_ishl, px_ishr, px_iushr, px_ladd, px_lsub, px_lmul, px_land, px_lor, px_lcmp, px_lushr, px_lshl, px_ineg, px_i2l, px_l2i, px_idiv, px_irem, px_ldiv, px_lrem, px_dup0, px_pop0, px_dup2, px_pop2, px_dup2x, px_goto, px_if_eq, px_ic_eq, px_if_ne, px_ic_ne, px_if_lt, px_ic_lt, px_if_ge, px_ic_ge, px_if_gt, px_ic_gt, px_if_le, px_ic_le, px_ifnull, px_ifnonnull, px_lookupswitch, px_tableswitch, px_getfield, px_iaload, px_laload, px_caload, px_aaload, px_iastore, px_lastore, px_arraylength, px_putfield, px_ireturn, px_lreturn, px_areturn, px_return, px_iv0, px_is0, px_iv1, px_is1, px_iv2, px_is2, px_iv3, px_is3, px_iv4, px_is4, px_iv5, px_is5, px_iv6, px_is6, px_max, px_min, px_abs, px_maxJ, px_minJ, px_ii0, px_ii1, px_iio, px_copy, pz_cpk, pz_lk, pz_alk, pz_ask, pz_gfk, pz_lnk, pz_bx, pz_b, pz_z, pz_s1, pz_s2, pz_wt, pz_cmp, List.getElem?_cons_zero, List.getElem?_cons_succ, List.getElem?_nil, List.set_cons_zero, List.set_cons_succ, List.length_cons, List.length_nil, List.nil_append, List.cons_append, Option.toList_some, Option.toList_none, if_true, if_false, ite_true, ite_false, and_true, true_and, and_self, or_self, or_false, false_or, true_or, or_true, and_false, false_and, not_true_eq_false, not_false_eq_true, forall_const, ne_eq, reduceCtorEq, implies_true, false_implies, true_implies, Int.toNat_natCast, Nat.reduceAdd, Nat.reduceSub, Nat.reduceLT, Nat.reduceLeDiff, Nat.reduceEqDiff, Int.reduceLT, Int.reduceLE, Int.reduceToNat, Int.reduceNeg, Int.reduceEq, Int.reduceAdd, Nat.reduceMul, Int.reduceSub, Nat.reduceBEq, Int.reduceMul, Nat.add_zero, Nat.zero_add, Int.cast_ofNat_Int, Int.ofNat_eq_coe, decide_eq_true_eq, Nat.lt_irrefl, Nat.le_refl, List.getElem?_toArray, Option.elim_some, Option.elim_none, j_Lt_clause_124, j_Lt_clause_125, g_6, g_1, t3]
set_option maxRecDepth 100000 in
theorem c_cond_0 (hss : ∀ M', pz_sh ((pz_SH, ss, 0, 0, dd), M') 4105 = some (112, 8)) : ∀ M p l, Sc M T n p l → LLt M → Rc M l (fun v M' => some (some (0, v), ((pz_SH, ss, 0, 0, dd), M'))) (pz_cal (d + 32) 43 [(2, 6), (0, 0), (0, 0)] ((pz_SH, ss, 0, 0, dd), M)) (gCd T n (gUn T n 6) p) := by
  intro M p l hS hL
  have u := c_unit_j (ss := ss) (dd := dd) (T := T) (n := n) hss 6 0 (by decide) (by decide) d
  have tr : ∀ M p l, Sc M T n p l → LLt M → Rc M l (fun v M' => some (some (0, v), ((pz_SH, ss, 0, 0, dd), M'))) (pz_cal (d + 31) 44 [(2, 6), (0, 0), (0, 0)] ((pz_SH, ss, 0, 0, dd), M)) (sq1 T n oAn (gUn T n 6) p) := by
    intro M p l hS hL
    exact c_truth (d := d + 28) (ss := ss) (dd := dd) (k := 0) (b := 0) (Gr_gUn 6) u hS.1 hS.2.1 hS.2.2.2.2.2 hL (Gr_gUn 6 p hS.2.2.2.1) (u M p l hS hL)
  have hgt : ∀ p, p ≤ n → Gr n p 17 True (sq1 T n oAn (gUn T n 6) p) := Gr_sq1 (h0 := 16) (q := True) (Gr_gUn 6) (by decide) (by omega) (fun _ c hc => oAn_6 hc) (fun f => f)
  exact c_condition (d := d + 29) (ss := ss) (dd := dd) (k := 0) (b := 0) hgt tr hS.1 hS.2.1 hS.2.2.2.2.2 hL (hgt p hS.2.2.2.1) (tr M p l hS hL)
set_option maxRecDepth 100000 in
theorem c_cond_1 (hss : ∀ M', pz_sh ((pz_SH, ss, 0, 0, dd), M') 4105 = some (112, 8)) {M0 M : pz_M} {l0 p p0 : Nat} {e : Ex} (hR0 : Rf M0) (hT0 : TC M0 T n) (hL : LLt M0) (hp : p ≤ n) (hl0 : l0 ≤ p0) (hl : p0 + e.1.length ≤ p) (hx : Xg e 15 False) (hF : Pf M0 M) (h2 : M 1 2 = (p : Int)) (h3 : M 1 3 = M0 1 3) (hAp : Ap M0 M l0 e.1) : Rc M0 l0 (fun v M' => some (some (0, v), ((pz_SH, ss, 0, 0, dd), M'))) (pz_cal (d + 32) 43 [(2, 6), (0, 0), (0, 1)] ((pz_SH, ss, 0, 0, dd), M)) (gCb T n e p) := by
  have u := c_unit_j (ss := ss) (dd := dd) (T := T) (n := n) hss 6 0 (by decide) (by decide) d
  have s := c_sum_j (ss := ss) (dd := dd) (T := T) (n := n) hss 6 0 (by decide) (by decide) (d + 6)
  have tr : ∀ M p l, Sc M T n p l → LLt M → Rc M l (fun v M' => some (some (0, v), ((pz_SH, ss, 0, 0, dd), M'))) (pz_cal (d + 31) 44 [(2, 6), (0, 0), (0, 0)] ((pz_SH, ss, 0, 0, dd), M)) (sq1 T n oAn (gUn T n 6) p) := by
    intro M p l hS hL
    exact c_truth (d := d + 28) (ss := ss) (dd := dd) (k := 0) (b := 0) (Gr_gUn 6) u hS.1 hS.2.1 hS.2.2.2.2.2 hL (Gr_gUn 6 p hS.2.2.2.1) (u M p l hS hL)
  have hgt : ∀ p, p ≤ n → Gr n p 17 True (sq1 T n oAn (gUn T n 6) p) := Gr_sq1 (h0 := 16) (q := True) (Gr_gUn 6) (by decide) (by omega) (fun _ c hc => oAn_6 hc) (fun f => f)
  have g1 := Gr_gCm (T := T) (p0 := p0) (Gr_gSm (T := T) (n := n) 6) hp hl hx
  have ub := c_unit_b (d := d + 26) (ss := ss) (dd := dd) (k := 0) (Gr_gSm 6) s hR0 hT0 hL hp (by omega) hF h2 h3 hAp
  have tb := c_truth (d := d + 28) (ss := ss) (dd := dd) (k := 0) (b := 1) (Gr_gUn 6) u hR0 hT0 hl0 hL g1 ub
  have g2 : Gr n p0 17 True (bnd (gCm T n (gSm T n 6) e p) (chn T n oAn (gUn T n 6) 240)) := by
    match hz : gCm T n (gSm T n 6) e p, g1 with
    | .inl z, g1 => exact Gr_chn (T := T) (h := 17) (q := True) (Gr_gUn (T := T) (n := n) 6) (by decide : oAn (-1) = 0) (by omega) (fun _ c hc => oAn_6 hc) 240 z.1 z.2 p0 g1.1 g1.2.1 (Xg_m g1.2.2 (by omega) (fun f => f))
    | .inr w, g1 => exact g1
  have cb := c_condition (d := d + 29) (ss := ss) (dd := dd) (k := 0) (b := 1) hgt tr hR0 hT0 hl0 hL g2 tb
  unfold gCb
  generalize gCm T n (gSm T n 6) e p = r at *
  match r, cb with
  | .inl z, cb => exact cb
  | .inr w, cb => exact cb
set_option maxRecDepth 100000 in
/-- a clause -/
theorem c_clause (hss : ∀ M', pz_sh ((pz_SH, ss, 0, 0, dd), M') 4105 = some (112, 8)) : ∀ M p l, Sc M T n p l → LLt M → Rcl M l (fun v M' => some (some (0, v), ((pz_SH, ss, 0, 0, dd), M'))) (pz_cal (d + 33) 36 [(2, 6)] ((pz_SH, ss, 0, 0, dd), M)) (gCl T n p) := by
  intro M p l hS hL
  obtain ⟨hR, hT, h2, hp, h62, hl⟩ := hS
  have n240 := hT.2.1
  have b1 := bl_le (T := T) hp
  have b2 := bl_ge (T := T) (n := n) (p := p)
  have e1 := c_wants (d := d + 29) (ss := ss) (dd := dd) (v := 121) hR hT h2 hp
  unfold gCl
  by_cases c1 : ch T n (bl T n p) = 121
  · rw [if_pos c1] at e1 ⊢
    have b3 : bl T n p < n := ch_lt c1 (by decide)
    have hF1 : Pf M (pz_up M 1 2 ((bl T n p : Int) + 1)) := Pf_up (.inl ⟨rfl, .inl rfl⟩)
    have hR1 := Rf_Pf hR hF1
    have e2 := c_wants (d := d + 29) (ss := ss) (dd := dd) (v := 58) (M := pz_up M 1 2 ((bl T n p : Int) + 1)) (p := bl T n p + 1) hR1 (TC_Pf hT hF1) (by rw [up_at, if_pos ⟨rfl, rfl⟩]; rfl) (by omega)
    rw [up_up2, up_up2] at e2
    have b4 := bl_le (T := T) (n := n) (p := bl T n p + 1) (by omega)
    have b5 := bl_ge (T := T) (n := n) (p := bl T n p + 1)
    by_cases c2 : ch T n (bl T n (bl T n p + 1)) = 58
    · rw [if_pos c2] at e2 ⊢
      have b6 : bl T n (bl T n p + 1) < n := ch_lt c2 (by decide)
      have hq : bl T n (bl T n p + 1) + 1 ≤ n := b6
      have hql : l + 2 ≤ bl T n (bl T n p + 1) + 1 := by omega
      rw [show ((bl T n (bl T n p + 1) : Nat) : Int) + 1 = ((bl T n (bl T n p + 1) + 1 : Nat) : Int) from rfl] at e2
      generalize bl T n (bl T n p + 1) + 1 = q at *
      have hF2 : Pf M (pz_up M 1 2 (q : Int)) := Pf_up (.inl ⟨rfl, .inl rfl⟩)
      have hR2 := Rf_Pf hR hF2
      have d1 := bl_le (T := T) hq
      have d2 := bl_ge (T := T) (n := n) (p := q)
      have e3 := c_sign (d := d + 31) (ss := ss) (dd := dd) (M := pz_up M 1 2 (q : Int)) (p := q) hR2 (TC_Pf hT hF2) (by rw [up_at, if_pos ⟨rfl, rfl⟩]) hq
      rw [up_up2] at e3
      have hF3 : Pf M (pz_up M 1 2 (bl T n q : Int)) := Pf_up (.inl ⟨rfl, .inl rfl⟩)
      have hR3 := Rf_Pf hR hF3
      have e4 := c_sign (d := d + 31) (ss := ss) (dd := dd) (M := pz_up M 1 2 (bl T n q : Int)) (p := bl T n q) hR3 (TC_Pf hT hF3) (by rw [up_at, if_pos ⟨rfl, rfl⟩]) d1
      rw [up_up2, bl_bl] at e4
      have S3 : Sc (pz_up M 1 2 (bl T n q : Int)) T n (bl T n q) l := ⟨hR3, TC_Pf hT hF3, by rw [up_at, if_pos ⟨rfl, rfl⟩], d1, by rw [up_at, if_neg (by omega)]; exact h62, by omega⟩
      have h33 : pz_up M 1 2 (bl T n q : Int) 1 3 = M 1 3 := by rw [up_at, if_neg (by omega)]
      have h73 : pz_up M 1 2 (bl T n q : Int) 7 = M 7 := by funext z; rw [up_at, if_neg (by omega)]
      unfold gBd
      by_cases c3 : ch T n (bl T n q) = 33 ∨ ch T n (bl T n q) = 40
      · rw [if_pos c3]
        have co := Rc_base (c_cond_0 (d := d) (ss := ss) (dd := dd) hss _ _ _ S3 (LLt_Pf hL hF3)) hF3 h33 h73
        rw [gCd_bl] at co
        have gr := Gr_gCd (T := T) (Gr_gUn (T := T) (n := n) 6) q hq
        have r := c_clause_92 (d := d) (ss := ss) (dd := dd) hss hR hT hL (by omega : l + 1 ≤ q) gr co
        have t : pz_cal (d + 33) 36 [(2, 6)] ((pz_SH, ss, 0, 0, dd), M) = pz_p bl_Lt_clause (pz_cal (d + 32)) 0 0 92 [] [(2, 6), (0, 0)] [] ((pz_SH, ss, 0, 0, dd), pz_up M 1 2 (bl T n q : Int)) := by
          generalize pz_up M 1 2 (bl T n q : Int) = M3 at *
          generalize pz_up M 1 2 (q : Int) = M2 at *
          generalize pz_up M 1 2 ((bl T n p : Int) + 1) = M1 at *
          generalize ch T n (bl T n q) = cc at *
          rcases c3 with c3 | c3
          · subst c3
            simp (maxSteps := 1000000) (disch := omega) only [↓reduceIte, sp_0, sp_s, Option.map_some, Option.map_none, Option.some.injEq, o_le, o_nle, o_lt, o_nlt, o_eq, o_neq, w32_id, up_at, nw_at, nw_s, k_Lt_clause, px_iconst, px_bipush, px_sipush, px_ldc, px_ldc_w, px_lconst, px_ldc2_w, px_aconst_null, px_getstatic, px_iload_n, px_iload, px_lload_n, px_lload, px_aload_n, px_aload, px_istore_n, px_istore, px_astore_n, px_astore, px_lstore_n, px_lstore, px_iinc, px_iadd, px_isub, px_imul, px_iand, px_ior, px_ixor, px_ishl, px_ishr, px_iushr, px_ladd, px_lsub, px_lmul, px_land, px_lor, px_lcmp, px_lushr, px_lshl, px_ineg, px_i2l, px_l2i, px_idiv, px_irem, px_ldiv, px_lrem, px_dup0, px_pop0, px_dup2, px_pop2, px_dup2x, px_goto, px_if_eq, px_ic_eq, px_if_ne, px_ic_ne, px_if_lt, px_ic_lt, px_if_ge, px_ic_ge, px_if_gt, px_ic_gt, px_if_le, px_ic_le, px_ifnull, px_ifnonnull, px_lookupswitch, px_tableswitch, px_getfield, px_iaload, px_laload, px_caload, px_aaload, px_iastore, px_lastore, px_arraylength, px_putfield, px_ireturn, px_lreturn, px_areturn, px_return, px_iv0, px_is0, px_iv1, px_is1, px_iv2, px_is2, px_iv3, px_is3, px_iv4, px_is4, px_iv5, px_is5, px_iv6, px_is6, px_max, px_min, px_abs, px_maxJ, px_minJ, px_ii0, px_ii1, px_iio, px_copy, pz_cpk, pz_lk, pz_alk, pz_ask, pz_gfk, pz_lnk, pz_bx, pz_b, pz_z, pz_s1, pz_s2, pz_wt, pz_cmp, List.getElem?_cons_zero, List.getElem?_cons_succ, List.getElem?_nil, List.set_cons_zero, List.set_cons_succ, List.length_cons, List.length_nil, List.nil_append, List.cons_append, Option.toList_some, Option.toList_none, if_true, if_false, ite_true, ite_false, and_true, true_and, and_self, or_self, or_false, false_or, true_or, or_true, and_false, false_and, not_true_eq_false, not_false_eq_true, forall_const, ne_eq, reduceCtorEq, implies_true, false_implies, true_implies, Int.toNat_natCast, Nat.reduceAdd, Nat.reduceSub, Nat.reduceLT, Nat.reduceLeDiff, Nat.reduceEqDiff, Int.reduceLT, Int.reduceLE, Int.reduceToNat, Int.reduceNeg, Int.reduceEq, Int.reduceAdd, Nat.reduceMul, Int.reduceSub, Nat.reduceBEq, Int.reduceMul, Nat.add_zero, Nat.zero_add, Int.cast_ofNat_Int, Int.ofNat_eq_coe, decide_eq_true_eq, Nat.lt_irrefl, Nat.le_refl, List.getElem?_toArray, Option.elim_some, Option.elim_none, j_Lt_clause_0, j_Lt_clause_26, j_Lt_clause_54, j_Lt_clause_55, g_6, g_1, rf_6_0 hR, rf_6_0 hR1, rf_6_0 hR2, rf_6_0 hR3, e1, e2, e3, e4]
          · subst c3
            simp (maxSteps := 1000000) (disch := omega) only [↓reduceIte, sp_0, sp_s, Option.map_some, Option.map_none, Option.some.injEq, o_le, o_nle, o_lt, o_nlt, o_eq, o_neq, w32_id, up_at, nw_at, nw_s, k_Lt_clause, px_iconst, px_bipush, px_sipush, px_ldc, px_ldc_w, px_lconst, px_ldc2_w, px_aconst_null, px_getstatic, px_iload_n, px_iload, px_lload_n, px_lload, px_aload_n, px_aload, px_istore_n, px_istore, px_astore_n, px_astore, px_lstore_n, px_lstore, px_iinc, px_iadd, px_isub, px_imul, px_iand, px_ior, px_ixor, px_ishl, px_ishr, px_iushr, px_ladd, px_lsub, px_lmul, px_land, px_lor, px_lcmp, px_lushr, px_lshl, px_ineg, px_i2l, px_l2i, px_idiv, px_irem, px_ldiv, px_lrem, px_dup0, px_pop0, px_dup2, px_pop2, px_dup2x, px_goto, px_if_eq, px_ic_eq, px_if_ne, px_ic_ne, px_if_lt, px_ic_lt, px_if_ge, px_ic_ge, px_if_gt, px_ic_gt, px_if_le, px_ic_le, px_ifnull, px_ifnonnull, px_lookupswitch, px_tableswitch, px_getfield, px_iaload, px_laload, px_caload, px_aaload, px_iastore, px_lastore, px_arraylength, px_putfield, px_ireturn, px_lreturn, px_areturn, px_return, px_iv0, px_is0, px_iv1, px_is1, px_iv2, px_is2, px_iv3, px_is3, px_iv4, px_is4, px_iv5, px_is5, px_iv6, px_is6, px_max, px_min, px_abs, px_maxJ, px_minJ, px_ii0, px_ii1, px_iio, px_copy, pz_cpk, pz_lk, pz_alk, pz_ask, pz_gfk, pz_lnk, pz_bx, pz_b, pz_z, pz_s1, pz_s2, pz_wt, pz_cmp, List.getElem?_cons_zero, List.getElem?_cons_succ, List.getElem?_nil, List.set_cons_zero, List.set_cons_succ, List.length_cons, List.length_nil, List.nil_append, List.cons_append, Option.toList_some, Option.toList_none, if_true, if_false, ite_true, ite_false, and_true, true_and, and_self, or_self, or_false, false_or, true_or, or_true, and_false, false_and, not_true_eq_false, not_false_eq_true, forall_const, ne_eq, reduceCtorEq, implies_true, false_implies, true_implies, Int.toNat_natCast, Nat.reduceAdd, Nat.reduceSub, Nat.reduceLT, Nat.reduceLeDiff, Nat.reduceEqDiff, Int.reduceLT, Int.reduceLE, Int.reduceToNat, Int.reduceNeg, Int.reduceEq, Int.reduceAdd, Nat.reduceMul, Int.reduceSub, Nat.reduceBEq, Int.reduceMul, Nat.add_zero, Nat.zero_add, Int.cast_ofNat_Int, Int.ofNat_eq_coe, decide_eq_true_eq, Nat.lt_irrefl, Nat.le_refl, List.getElem?_toArray, Option.elim_some, Option.elim_none, j_Lt_clause_0, j_Lt_clause_26, j_Lt_clause_54, j_Lt_clause_55, g_6, g_1, rf_6_0 hR, rf_6_0 hR1, rf_6_0 hR2, rf_6_0 hR3, e1, e2, e3, e4]
        rw [t]
        exact r
      · rw [if_neg c3]
        have s := Rc_base (c_sum_j (ss := ss) (dd := dd) (T := T) (n := n) hss 6 0 (by decide) (by decide) (d + 9) _ _ _ S3 (LLt_Pf hL hF3)) hF3 h33 h73
        rw [gSm_bl] at s
        have g1 := Gr_gSm (T := T) (n := n) 6 q hq
        have c4 : ch T n (bl T n q) ≠ 33 := fun h => c3 (.inl h)
        have c5 : ch T n (bl T n q) ≠ 40 := fun h => c3 (.inr h)
        generalize pz_up M 1 2 (bl T n q : Int) = M3 at *
        generalize pz_up M 1 2 (q : Int) = M2 at *
        generalize pz_up M 1 2 ((bl T n p : Int) + 1) = M1 at *
        generalize ch T n (bl T n q) = cc at *
        match hz : gSm T n 6 q, s, g1 with
        | .inl z, s, g1 =>
          obtain ⟨M4, t4, f4, p4, w4, q4⟩ := s
          have t4 : pz_cal (d + 32) 37 [(2, 6), (0, 0)] ((pz_SH, ss, 0, 0, dd), M3) = some (some (0, 1), ((pz_SH, ss, 0, 0, dd), M4)) := t4
          have hR4 := Rf_Pf hR f4
          have g2 := g1.1
          have g3 := g1.2.1
          have z1 := bl_le (T := T) g2
          have z2 := bl_ge (T := T) (n := n) (p := z.2)
          have e5 := c_sign (d := d + 31) (ss := ss) (dd := dd) hR4 (TC_Pf hT f4) p4 g2
          have e6 := c_isComparison (d := d + 31) (ss := ss) (dd := dd) (M := pz_up M4 1 2 (bl T n z.2 : Int)) (c := ch T n (bl T n z.2))
          have hF5 : Pf M (pz_up M4 1 2 (bl T n z.2 : Int)) := Pf_t f4 (Pf_up (.inl ⟨rfl, .inl rfl⟩))
          have hR5 := Rf_Pf hR hF5
          have A5 : Ap M (pz_up M4 1 2 (bl T n z.2 : Int)) l z.1.1 := Ap_1_2 q4
          have h25 : pz_up M4 1 2 (bl T n z.2 : Int) 1 2 = (bl T n z.2 : Int) := by rw [up_at, if_pos ⟨rfl, rfl⟩]
          have h35 : pz_up M4 1 2 (bl T n z.2 : Int) 1 3 = M 1 3 := by rw [up_at, if_neg (by omega)]; exact w4
          show Rcl M l _ _ (if oCm (ch T n (bl T n z.2)) = 0 then _ else _)
          by_cases c6 : oCm (ch T n (bl T n z.2)) = 0
          · rw [if_pos c6] at e6 ⊢
            generalize ch T n (bl T n z.2) = c7 at *
            generalize pz_up M4 1 2 (bl T n z.2 : Int) = M5 at *
            have e7 := c_emit (d := d + 31) (ss := ss) (dd := dd) (s := 2) (v := 121) hR5 A5.1 (by omega) (by decide) (by decide)
            have A6 := Ai_t (Ai_of A5) (by rw [List.length_map]; exact Ai_1 (M := M5) (l := l + z.1.1.length) (v := 2 * 10000 + 121))
            refine ⟨_, ?_, Pf_t hF5 (Pf_t (Pf_up (.inr (.inr rfl))) (Pf_up (.inr (.inl ⟨rfl, rfl⟩)))), by rw [up_at, if_neg (by omega), up_at, if_neg (by omega)]; exact h25, by rw [up_at, if_neg (by omega), up_at, if_neg (by omega)]; exact h35, A6⟩
            generalize pz_up (pz_up M5 7 (l + z.1.1.length) (2 * 10000 + 121)) 6 2 (((l + z.1.1.length : Nat) : Int) + 1) = M6 at *
            show _ = some (some (0, 1), ((pz_SH, ss, 0, 0, dd), M6))
            simp (maxSteps := 1000000) (disch := omega) only [↓reduceIte, sp_0, sp_s, Option.map_some, Option.map_none, Option.some.injEq, o_le, o_nle, o_lt, o_nlt, o_eq, o_neq, w32_id, up_at, nw_at, nw_s, k_Lt_clause, px_iconst, px_bipush, px_sipush, px_ldc, px_ldc_w, px_lconst, px_ldc2_w, px_aconst_null, px_getstatic, px_iload_n, px_iload, px_lload_n, px_lload, px_aload_n, px_aload, px_istore_n, px_istore, px_astore_n, px_astore, px_lstore_n, px_lstore, px_iinc, px_iadd, px_isub, px_imul, px_iand, px_ior, px_ixor, px_ishl, px_ishr, px_iushr, px_ladd, px_lsub, px_lmul, px_land, px_lor, px_lcmp, px_lushr, px_lshl, px_ineg, px_i2l, px_l2i, px_idiv, px_irem, px_ldiv, px_lrem, px_dup0, px_pop0, px_dup2, px_pop2, px_dup2x, px_goto, px_if_eq, px_ic_eq, px_if_ne, px_ic_ne, px_if_lt, px_ic_lt, px_if_ge, px_ic_ge, px_if_gt, px_ic_gt, px_if_le, px_ic_le, px_ifnull, px_ifnonnull, px_lookupswitch, px_tableswitch, px_getfield, px_iaload, px_laload, px_caload, px_aaload, px_iastore, px_lastore, px_arraylength, px_putfield, px_ireturn, px_lreturn, px_areturn, px_return, px_iv0, px_is0, px_iv1, px_is1, px_iv2, px_is2, px_iv3, px_is3, px_iv4, px_is4, px_iv5, px_is5, px_iv6, px_is6, px_max, px_min, px_abs, px_maxJ, px_minJ, px_ii0, px_ii1, px_iio, px_copy, pz_cpk, pz_lk, pz_alk, pz_ask, pz_gfk, pz_lnk, pz_bx, pz_b, pz_z, pz_s1, pz_s2, pz_wt, pz_cmp, List.getElem?_cons_zero, List.getElem?_cons_succ, List.getElem?_nil, List.set_cons_zero, List.set_cons_succ, List.length_cons, List.length_nil, List.nil_append, List.cons_append, Option.toList_some, Option.toList_none, if_true, if_false, ite_true, ite_false, and_true, true_and, and_self, or_self, or_false, false_or, true_or, or_true, and_false, false_and, not_true_eq_false, not_false_eq_true, forall_const, ne_eq, reduceCtorEq, implies_true, false_implies, true_implies, Int.toNat_natCast, Nat.reduceAdd, Nat.reduceSub, Nat.reduceLT, Nat.reduceLeDiff, Nat.reduceEqDiff, Int.reduceLT, Int.reduceLE, Int.reduceToNat, Int.reduceNeg, Int.reduceEq, Int.reduceAdd, Nat.reduceMul, Int.reduceSub, Nat.reduceBEq, Int.reduceMul, Nat.add_zero, Nat.zero_add, Int.cast_ofNat_Int, Int.ofNat_eq_coe, decide_eq_true_eq, Nat.lt_irrefl, Nat.le_refl, List.getElem?_toArray, Option.elim_some, Option.elim_none, j_Lt_clause_0, j_Lt_clause_26, j_Lt_clause_54, j_Lt_clause_55, j_Lt_clause_70, g_6, g_1, rf_6_0 hR, rf_6_0 hR1, rf_6_0 hR2, rf_6_0 hR3, rf_6_0 hR4, e1, e2, e3, e4, t4, e5, e6, e7]
          · rw [if_neg c6] at e6 ⊢
            have co := c_cond_1 (d := d) (ss := ss) (dd := dd) (M := pz_up M4 1 2 (bl T n z.2 : Int)) (p := bl T n z.2) (p0 := q) (e := z.1) hss hR hT hL z1 (by omega) (by omega) g1.2.2 hF5 h25 h35 A5
            have gr := Gr_gCb (T := T) (n := n) (p0 := q) z1 (by omega) g1.2.2
            have r := c_clause_92 (d := d) (ss := ss) (dd := dd) hss hR hT hL (by omega : l + 1 ≤ q) gr co
            have eb : gCb T n z.1 (bl T n z.2) = gCb T n z.1 z.2 := by unfold gCb; rw [gCm_bl]
            rw [eb] at r
            have t : pz_cal (d + 33) 36 [(2, 6)] ((pz_SH, ss, 0, 0, dd), M) = pz_p bl_Lt_clause (pz_cal (d + 32)) 0 0 92 [] [(2, 6), (0, 1)] [] ((pz_SH, ss, 0, 0, dd), pz_up M4 1 2 (bl T n z.2 : Int)) := by
              generalize ch T n (bl T n z.2) = c7 at *
              generalize pz_up M4 1 2 (bl T n z.2 : Int) = M5 at *
              simp (maxSteps := 1000000) (disch := omega) only [↓reduceIte, sp_0, sp_s, Option.map_some, Option.map_none, Option.some.injEq, o_le, o_nle, o_lt, o_nlt, o_eq, o_neq, w32_id, up_at, nw_at, nw_s, k_Lt_clause, px_iconst, px_bipush, px_sipush, px_ldc, px_ldc_w, px_lconst, px_ldc2_w, px_aconst_null, px_getstatic, px_iload_n, px_iload, px_lload_n, px_lload, px_aload_n, px_aload, px_istore_n, px_istore, px_astore_n, px_astore, px_lstore_n, px_lstore, px_iinc, px_iadd, px_isub, px_imul, px_iand, px_ior, px_ixor, px_ishl, px_ishr, px_iushr, px_ladd, px_lsub, px_lmul, px_land, px_lor, px_lcmp, px_lushr, px_lshl, px_ineg, px_i2l, px_l2i, px_idiv, px_irem, px_ldiv, px_lrem, px_dup0, px_pop0, px_dup2, px_pop2, px_dup2x, px_goto, px_if_eq, px_ic_eq, px_if_ne, px_ic_ne, px_if_lt, px_ic_lt, px_if_ge, px_ic_ge, px_if_gt, px_ic_gt, px_if_le, px_ic_le, px_ifnull, px_ifnonnull, px_lookupswitch, px_tableswitch, px_getfield, px_iaload, px_laload, px_caload, px_aaload, px_iastore, px_lastore, px_arraylength, px_putfield, px_ireturn, px_lreturn, px_areturn, px_return, px_iv0, px_is0, px_iv1, px_is1, px_iv2, px_is2, px_iv3, px_is3, px_iv4, px_is4, px_iv5, px_is5, px_iv6, px_is6, px_max, px_min, px_abs, px_maxJ, px_minJ, px_ii0, px_ii1, px_iio, px_copy, pz_cpk, pz_lk, pz_alk, pz_ask, pz_gfk, pz_lnk, pz_bx, pz_b, pz_z, pz_s1, pz_s2, pz_wt, pz_cmp, List.getElem?_cons_zero, List.getElem?_cons_succ, List.getElem?_nil, List.set_cons_zero, List.set_cons_succ, List.length_cons, List.length_nil, List.nil_append, List.cons_append, Option.toList_some, Option.toList_none, if_true, if_false, ite_true, ite_false, and_true, true_and, and_self, or_self, or_false, false_or, true_or, or_true, and_false, false_and, not_true_eq_false, not_false_eq_true, forall_const, ne_eq, reduceCtorEq, implies_true, false_implies, true_implies, Int.toNat_natCast, Nat.reduceAdd, Nat.reduceSub, Nat.reduceLT, Nat.reduceLeDiff, Nat.reduceEqDiff, Int.reduceLT, Int.reduceLE, Int.reduceToNat, Int.reduceNeg, Int.reduceEq, Int.reduceAdd, Nat.reduceMul, Int.reduceSub, Nat.reduceBEq, Int.reduceMul, Nat.add_zero, Nat.zero_add, Int.cast_ofNat_Int, Int.ofNat_eq_coe, decide_eq_true_eq, Nat.lt_irrefl, Nat.le_refl, List.getElem?_toArray, Option.elim_some, Option.elim_none, j_Lt_clause_0, j_Lt_clause_26, j_Lt_clause_54, j_Lt_clause_55, j_Lt_clause_70, g_6, g_1, rf_6_0 hR, rf_6_0 hR1, rf_6_0 hR2, rf_6_0 hR3, rf_6_0 hR4, e1, e2, e3, e4, t4, e5, e6]
            rw [t]
            exact r
        | .inr w, s, g1 =>
          obtain ⟨M4, t4, f4, w4, l', q3, q4⟩ := s
          have t4 : pz_cal (d + 32) 37 [(2, 6), (0, 0)] ((pz_SH, ss, 0, 0, dd), M3) = some (some (0, 0), ((pz_SH, ss, 0, 0, dd), M4)) := t4
          refine ⟨M4, ?_, f4, w4, l', q3, q4⟩
          show _ = some (some (0, 0), ((pz_SH, ss, 0, 0, dd), M4))
          simp (maxSteps := 1000000) (disch := omega) only [↓reduceIte, sp_0, sp_s, Option.map_some, Option.map_none, Option.some.injEq, o_le, o_nle, o_lt, o_nlt, o_eq, o_neq, w32_id, up_at, nw_at, nw_s, k_Lt_clause, px_iconst, px_bipush, px_sipush, px_ldc, px_ldc_w, px_lconst, px_ldc2_w, px_aconst_null, px_getstatic, px_iload_n, px_iload, px_lload_n, px_lload, px_aload_n, px_aload, px_istore_n, px_istore, px_astore_n, px_astore, px_lstore_n, px_lstore, px_iinc, px_iadd, px_isub, px_imul, px_iand, px_ior, px_ixor, px_ishl, px_ishr, px_iushr, px_ladd, px_lsub, px_lmul, px_land, px_lor, px_lcmp, px_lushr, px_lshl, px_ineg, px_i2l, px_l2i, px_idiv, px_irem, px_ldiv, px_lrem, px_dup0, px_pop0, px_dup2, px_pop2, px_dup2x, px_goto, px_if_eq, px_ic_eq, px_if_ne, px_ic_ne, px_if_lt, px_ic_lt, px_if_ge, px_ic_ge, px_if_gt, px_ic_gt, px_if_le, px_ic_le, px_ifnull, px_ifnonnull, px_lookupswitch, px_tableswitch, px_getfield, px_iaload, px_laload, px_caload, px_aaload, px_iastore, px_lastore, px_arraylength, px_putfield, px_ireturn, px_lreturn, px_areturn, px_return, px_iv0, px_is0, px_iv1, px_is1, px_iv2, px_is2, px_iv3, px_is3, px_iv4, px_is4, px_iv5, px_is5, px_iv6, px_is6, px_max, px_min, px_abs, px_maxJ, px_minJ, px_ii0, px_ii1, px_iio, px_copy, pz_cpk, pz_lk, pz_alk, pz_ask, pz_gfk, pz_lnk, pz_bx, pz_b, pz_z, pz_s1, pz_s2, pz_wt, pz_cmp, List.getElem?_cons_zero, List.getElem?_cons_succ, List.getElem?_nil, List.set_cons_zero, List.set_cons_succ, List.length_cons, List.length_nil, List.nil_append, List.cons_append, Option.toList_some, Option.toList_none, if_true, if_false, ite_true, ite_false, and_true, true_and, and_self, or_self, or_false, false_or, true_or, or_true, and_false, false_and, not_true_eq_false, not_false_eq_true, forall_const, ne_eq, reduceCtorEq, implies_true, false_implies, true_implies, Int.toNat_natCast, Nat.reduceAdd, Nat.reduceSub, Nat.reduceLT, Nat.reduceLeDiff, Nat.reduceEqDiff, Int.reduceLT, Int.reduceLE, Int.reduceToNat, Int.reduceNeg, Int.reduceEq, Int.reduceAdd, Nat.reduceMul, Int.reduceSub, Nat.reduceBEq, Int.reduceMul, Nat.add_zero, Nat.zero_add, Int.cast_ofNat_Int, Int.ofNat_eq_coe, decide_eq_true_eq, Nat.lt_irrefl, Nat.le_refl, List.getElem?_toArray, Option.elim_some, Option.elim_none, j_Lt_clause_0, j_Lt_clause_26, j_Lt_clause_54, j_Lt_clause_55, j_Lt_clause_70, g_6, g_1, rf_6_0 hR, rf_6_0 hR1, rf_6_0 hR2, rf_6_0 hR3, e1, e2, e3, e4, t4]
    · rw [if_neg c2] at e2 ⊢
      refine ⟨pz_up (pz_up M 1 2 (bl T n (bl T n p + 1) : Int)) 1 3 (bl T n (bl T n p + 1) : Int), ?_, Pf_t (Pf_up (.inl ⟨rfl, .inl rfl⟩)) (Pf_up (.inl ⟨rfl, .inr rfl⟩)), by rw [up_at, if_pos ⟨rfl, rfl⟩], l, by rw [up_at, if_neg (by omega), up_at, if_neg (by omega)]; exact h62, by omega⟩
      generalize pz_up (pz_up M 1 2 (bl T n (bl T n p + 1) : Int)) 1 3 (bl T n (bl T n p + 1) : Int) = M3 at *
      generalize pz_up M 1 2 ((bl T n p : Int) + 1) = M1 at *
      show _ = some (some (0, 0), ((pz_SH, ss, 0, 0, dd), M3))
      simp (maxSteps := 1000000) (disch := omega) only [↓reduceIte, sp_0, sp_s, Option.map_some, Option.map_none, Option.some.injEq, o_le, o_nle, o_lt, o_nlt, o_eq, o_neq, w32_id, up_at, nw_at, nw_s, k_Lt_clause, px_iconst, px_bipush, px_sipush, px_ldc, px_ldc_w, px_lconst, px_ldc2_w, px_aconst_null, px_getstatic, px_iload_n, px_iload, px_lload_n, px_lload, px_aload_n, px_aload, px_istore_n, px_istore, px_astore_n, px_astore, px_lstore_n, px_lstore, px_iinc, px_iadd, px_isub, px_imul, px_iand, px_ior, px_ixor, px_ishl, px_ishr, px_iushr, px_ladd, px_lsub, px_lmul, px_land, px_lor, px_lcmp, px_lushr, px_lshl, px_ineg, px_i2l, px_l2i, px_idiv, px_irem, px_ldiv, px_lrem, px_dup0, px_pop0, px_dup2, px_pop2, px_dup2x, px_goto, px_if_eq, px_ic_eq, px_if_ne, px_ic_ne, px_if_lt, px_ic_lt, px_if_ge, px_ic_ge, px_if_gt, px_ic_gt, px_if_le, px_ic_le, px_ifnull, px_ifnonnull, px_lookupswitch, px_tableswitch, px_getfield, px_iaload, px_laload, px_caload, px_aaload, px_iastore, px_lastore, px_arraylength, px_putfield, px_ireturn, px_lreturn, px_areturn, px_return, px_iv0, px_is0, px_iv1, px_is1, px_iv2, px_is2, px_iv3, px_is3, px_iv4, px_is4, px_iv5, px_is5, px_iv6, px_is6, px_max, px_min, px_abs, px_maxJ, px_minJ, px_ii0, px_ii1, px_iio, px_copy, pz_cpk, pz_lk, pz_alk, pz_ask, pz_gfk, pz_lnk, pz_bx, pz_b, pz_z, pz_s1, pz_s2, pz_wt, pz_cmp, List.getElem?_cons_zero, List.getElem?_cons_succ, List.getElem?_nil, List.set_cons_zero, List.set_cons_succ, List.length_cons, List.length_nil, List.nil_append, List.cons_append, Option.toList_some, Option.toList_none, if_true, if_false, ite_true, ite_false, and_true, true_and, and_self, or_self, or_false, false_or, true_or, or_true, and_false, false_and, not_true_eq_false, not_false_eq_true, forall_const, ne_eq, reduceCtorEq, implies_true, false_implies, true_implies, Int.toNat_natCast, Nat.reduceAdd, Nat.reduceSub, Nat.reduceLT, Nat.reduceLeDiff, Nat.reduceEqDiff, Int.reduceLT, Int.reduceLE, Int.reduceToNat, Int.reduceNeg, Int.reduceEq, Int.reduceAdd, Nat.reduceMul, Int.reduceSub, Nat.reduceBEq, Int.reduceMul, Nat.add_zero, Nat.zero_add, Int.cast_ofNat_Int, Int.ofNat_eq_coe, decide_eq_true_eq, Nat.lt_irrefl, Nat.le_refl, List.getElem?_toArray, Option.elim_some, Option.elim_none, j_Lt_clause_0, j_Lt_clause_24, g_6, g_1, rf_6_0 hR, rf_6_0 hR1, e1, e2]
  · rw [if_neg c1] at e1 ⊢
    refine ⟨pz_up (pz_up M 1 2 (bl T n p : Int)) 1 3 (bl T n p : Int), ?_, Pf_t (Pf_up (.inl ⟨rfl, .inl rfl⟩)) (Pf_up (.inl ⟨rfl, .inr rfl⟩)), by rw [up_at, if_pos ⟨rfl, rfl⟩], l, by rw [up_at, if_neg (by omega), up_at, if_neg (by omega)]; exact h62, by omega⟩
    generalize pz_up (pz_up M 1 2 (bl T n p : Int)) 1 3 (bl T n p : Int) = M3 at *
    show _ = some (some (0, 0), ((pz_SH, ss, 0, 0, dd), M3))
    simp (maxSteps := 1000000) (disch := omega) only [↓reduceIte, sp_0, sp_s, Option.map_some, Option.map_none, Option.some.injEq, o_le, o_nle, o_lt, o_nlt, o_eq, o_neq, w32_id, up_at, nw_at, nw_s, k_Lt_clause, px_iconst, px_bipush, px_sipush, px_ldc, px_ldc_w, px_lconst, px_ldc2_w, px_aconst_null, px_getstatic, px_iload_n, px_iload, px_lload_n, px_lload, px_aload_n, px_aload, px_istore_n, px_istore, px_astore_n, px_astore, px_lstore_n, px_lstore, px_iinc, px_iadd, px_isub, px_imul, px_iand, px_ior, px_ixor, px_ishl, px_ishr, px_iushr, px_ladd, px_lsub, px_lmul, px_land, px_lor, px_lcmp, px_lushr, px_lshl, px_ineg, px_i2l, px_l2i, px_idiv, px_irem, px_ldiv, px_lrem, px_dup0, px_pop0, px_dup2, px_pop2, px_dup2x, px_goto, px_if_eq, px_ic_eq, px_if_ne, px_ic_ne, px_if_lt, px_ic_lt, px_if_ge, px_ic_ge, px_if_gt, px_ic_gt, px_if_le, px_ic_le, px_ifnull, px_ifnonnull, px_lookupswitch, px_tableswitch, px_getfield, px_iaload, px_laload, px_caload, px_aaload, px_iastore, px_lastore, px_arraylength, px_putfield, px_ireturn, px_lreturn, px_areturn, px_return, px_iv0, px_is0, px_iv1, px_is1, px_iv2, px_is2, px_iv3, px_is3, px_iv4, px_is4, px_iv5, px_is5, px_iv6, px_is6, px_max, px_min, px_abs, px_maxJ, px_minJ, px_ii0, px_ii1, px_iio, px_copy, pz_cpk, pz_lk, pz_alk, pz_ask, pz_gfk, pz_lnk, pz_bx, pz_b, pz_z, pz_s1, pz_s2, pz_wt, pz_cmp, List.getElem?_cons_zero, List.getElem?_cons_succ, List.getElem?_nil, List.set_cons_zero, List.set_cons_succ, List.length_cons, List.length_nil, List.nil_append, List.cons_append, Option.toList_some, Option.toList_none, if_true, if_false, ite_true, ite_false, and_true, true_and, and_self, or_self, or_false, false_or, true_or, or_true, and_false, false_and, not_true_eq_false, not_false_eq_true, forall_const, ne_eq, reduceCtorEq, implies_true, false_implies, true_implies, Int.toNat_natCast, Nat.reduceAdd, Nat.reduceSub, Nat.reduceLT, Nat.reduceLeDiff, Nat.reduceEqDiff, Int.reduceLT, Int.reduceLE, Int.reduceToNat, Int.reduceNeg, Int.reduceEq, Int.reduceAdd, Nat.reduceMul, Int.reduceSub, Nat.reduceBEq, Int.reduceMul, Nat.add_zero, Nat.zero_add, Int.cast_ofNat_Int, Int.ofNat_eq_coe, decide_eq_true_eq, Nat.lt_irrefl, Nat.le_refl, List.getElem?_toArray, Option.elim_some, Option.elim_none, j_Lt_clause_0, j_Lt_clause_24, g_6, g_1, rf_6_0 hR, e1]
end P70
/-! THE CLASS READS A LAW: the whole of it -/
/-- what stands on the tape as a law, by the class -/
def Rlw (M : pz_M) (X : Int → pz_M → pz_A) (K : pz_A) (r : Rs (List (Option Ex × Ex))) : Prop := match r with
  | .inl z => ∃ M', K = X 1 M' ∧ Pf M M' ∧ M' 1 3 = -1 ∧ M' 6 2 = ((csl 0 z.1).length : Int) ∧ (csl 0 z.1).length ≤ 240 ∧ ∀ i t, (csl 0 z.1)[i]? = some t → M' 7 i = t
  | .inr w => ∃ M', K = X 0 M' ∧ Pf M M' ∧ M' 1 3 = (w : Int)
section P71
variable {d : Nat} {ss : List (Nat × Nat)} {dd : Nat} {T : Nat → Int} {n : Nat} {M : pz_M}
set_option maxRecDepth 100000 in
theorem c_rewind : pz_cal (d + 1) 85 [(2, 1)] ((pz_SH, ss, 0, 0, dd), M) = some (none, ((pz_SH, ss, 0, 0, dd), pz_up (pz_up M 1 2 0) 1 3 (-1))) := by
  simp (maxSteps := 1000000) (disch := omega) only [↓reduceIte, sp_0, sp_s, Option.map_some, Option.map_none, Option.some.injEq, o_le, o_nle, o_lt, o_nlt, o_eq, o_neq, w32_id, up_at, nw_at, nw_s, k_Ta_rewind, px_iconst, px_bipush, px_sipush, px_ldc, px_ldc_w, px_lconst, px_ldc2_w, px_aconst_null, px_getstatic, px_iload_n, px_iload, px_lload_n, px_lload, px_aload_n, px_aload, px_istore_n, px_istore, px_astore_n, px_astore, px_lstore_n, px_lstore, px_iinc, px_iadd, px_isub, px_imul, px_iand, px_ior, px_ixor, px_ishl, px_ishr, px_iushr, px_ladd, px_lsub, px_lmul, px_land, px_lor, px_lcmp, px_lushr, px_lshl, px_ineg, px_i2l, px_l2i, px_idiv, px_irem, px_ldiv, px_lrem, px_dup0, px_pop0, px_dup2, px_pop2, px_dup2x, px_goto, px_if_eq, px_ic_eq, px_if_ne, px_ic_ne, px_if_lt, px_ic_lt, px_if_ge, px_ic_ge, px_if_gt, px_ic_gt, px_if_le, px_ic_le, px_ifnull, px_ifnonnull, px_lookupswitch, px_tableswitch, px_getfield, px_iaload, px_laload, px_caload, px_aaload, px_iastore, px_lastore, px_arraylength, px_putfield, px_ireturn, px_lreturn, px_areturn, px_return, px_iv0, px_is0, px_iv1, px_is1, px_iv2, px_is2, px_iv3, px_is3, px_iv4, px_is4, px_iv5, px_is5, px_iv6, px_is6, px_max, px_min, px_abs, px_maxJ, px_minJ, px_ii0, px_ii1, px_iio, px_copy, pz_cpk, pz_lk, pz_alk, pz_ask, pz_gfk, pz_lnk, pz_bx, pz_b, pz_z, pz_s1, pz_s2, pz_wt, pz_cmp, List.getElem?_cons_zero, List.getElem?_cons_succ, List.getElem?_nil, List.set_cons_zero, List.set_cons_succ, List.length_cons, List.length_nil, List.nil_append, List.cons_append, Option.toList_some, Option.toList_none, if_true, if_false, ite_true, ite_false, and_true, true_and, and_self, or_self, or_false, false_or, true_or, or_true, and_false, false_and, not_true_eq_false, not_false_eq_true, forall_const, ne_eq, reduceCtorEq, implies_true, false_implies, true_implies, Int.toNat_natCast, Nat.reduceAdd, Nat.reduceSub, Nat.reduceLT, Nat.reduceLeDiff, Nat.reduceEqDiff, Int.reduceLT, Int.reduceLE, Int.reduceToNat, Int.reduceNeg, Int.reduceEq, Int.reduceAdd, Nat.reduceMul, Int.reduceSub, Nat.reduceBEq, Int.reduceMul, Nat.add_zero, Nat.zero_add, Int.cast_ofNat_Int, Int.ofNat_eq_coe, decide_eq_true_eq, Nat.lt_irrefl, Nat.le_refl, List.getElem?_toArray, Option.elim_some, Option.elim_none, j_Ta_rewind_0, g_1]
set_option maxRecDepth 100000 in
theorem c_lread (hss : ∀ M', pz_sh ((pz_SH, ss, 0, 0, dd), M') 4105 = some (112, 8)) (hR : Rf M) (hT : TC M T n) (hL : LLt M) : Rlw M (fun v M' => some (some (0, v), ((pz_SH, ss, 0, 0, dd), M'))) (pz_cal (d + 34) 35 [(2, 6)] ((pz_SH, ss, 0, 0, dd), M)) (gLw T n) := by
  have n240 := hT.2.1
  have e1 := c_rewind (d := d + 32) (ss := ss) (dd := dd) (M := M)
  have hF1 : Pf M (pz_up (pz_up M 1 2 0) 1 3 (-1)) := Pf_t (Pf_up (.inl ⟨rfl, .inl rfl⟩)) (Pf_up (.inl ⟨rfl, .inr rfl⟩))
  have hF2 : Pf M (pz_up (pz_up (pz_up M 1 2 0) 1 3 (-1)) 6 2 0) := Pf_t hF1 (Pf_up (.inr (.inl ⟨rfl, rfl⟩)))
  have h22 : pz_up (pz_up (pz_up M 1 2 0) 1 3 (-1)) 6 2 0 1 2 = ((0 : Nat) : Int) := by rw [up_at, if_neg (by omega), up_at, if_neg (by omega), up_at, if_pos ⟨rfl, rfl⟩]; rfl
  have h32 : pz_up (pz_up (pz_up M 1 2 0) 1 3 (-1)) 6 2 0 1 3 = -1 := by rw [up_at, if_neg (by omega), up_at, if_pos ⟨rfl, rfl⟩]
  have h62 : pz_up (pz_up (pz_up M 1 2 0) 1 3 (-1)) 6 2 0 6 2 = ((0 : Nat) : Int) := by rw [up_at, if_pos ⟨rfl, rfl⟩]; rfl
  have t0 : ∀ {v : Int} {M' : pz_M}, pz_cal (d + 33) 36 [(2, 6)] ((pz_SH, ss, 0, 0, dd), pz_up (pz_up (pz_up M 1 2 0) 1 3 (-1)) 6 2 0) = some (some (0, v), ((pz_SH, ss, 0, 0, dd), M')) → pz_cal (d + 34) 35 [(2, 6)] ((pz_SH, ss, 0, 0, dd), M) = pz_p bl_Lt_read (pz_cal (d + 33)) 0 0 19 [] [(2, 6), (0, v), (0, 0)] [] ((pz_SH, ss, 0, 0, dd), M') := by
    intro v M' t
    have hR1 := Rf_Pf hR hF1
    generalize pz_up (pz_up M 1 2 0) 1 3 (-1) = M1 at *
    simp (maxSteps := 1000000) (disch := omega) only [↓reduceIte, sp_0, sp_s, Option.map_some, Option.map_none, Option.some.injEq, o_le, o_nle, o_lt, o_nlt, o_eq, o_neq, w32_id, up_at, nw_at, nw_s, k_Lt_read, px_iconst, px_bipush, px_sipush, px_ldc, px_ldc_w, px_lconst, px_ldc2_w, px_aconst_null, px_getstatic, px_iload_n, px_iload, px_lload_n, px_lload, px_aload_n, px_aload, px_istore_n, px_istore, px_astore_n, px_astore, px_lstore_n, px_lstore, px_iinc, px_iadd, px_isub, px_imul, px_iand, px_ior, px_ixor, px_ishl, px_ishr, px_iushr, px_ladd, px_lsub, px_lmul, px_land, px_lor, px_lcmp, px_lushr, px_lshl, px_ineg, px_i2l, px_l2i, px_idiv, px_irem, px_ldiv, px_lrem, px_dup0, px_pop0, px_dup2, px_pop2, px_dup2x, px_goto, px_if_eq, px_ic_eq, px_if_ne, px_ic_ne, px_if_lt, px_ic_lt, px_if_ge, px_ic_ge, px_if_gt, px_ic_gt, px_if_le, px_ic_le, px_ifnull, px_ifnonnull, px_lookupswitch, px_tableswitch, px_getfield, px_iaload, px_laload, px_caload, px_aaload, px_iastore, px_lastore, px_arraylength, px_putfield, px_ireturn, px_lreturn, px_areturn, px_return, px_iv0, px_is0, px_iv1, px_is1, px_iv2, px_is2, px_iv3, px_is3, px_iv4, px_is4, px_iv5, px_is5, px_iv6, px_is6, px_max, px_min, px_abs, px_maxJ, px_minJ, px_ii0, px_ii1, px_iio, px_copy, pz_cpk, pz_lk, pz_alk, pz_ask, pz_gfk, pz_lnk, pz_bx, pz_b, pz_z, pz_s1, pz_s2, pz_wt, pz_cmp, List.getElem?_cons_zero, List.getElem?_cons_succ, List.getElem?_nil, List.set_cons_zero, List.set_cons_succ, List.length_cons, List.length_nil, List.nil_append, List.cons_append, Option.toList_some, Option.toList_none, if_true, if_false, ite_true, ite_false, and_true, true_and, and_self, or_self, or_false, false_or, true_or, or_true, and_false, false_and, not_true_eq_false, not_false_eq_true, forall_const, ne_eq, reduceCtorEq, implies_true, false_implies, true_implies, Int.toNat_natCast, Nat.reduceAdd, Nat.reduceSub, Nat.reduceLT, Nat.reduceLeDiff, Nat.reduceEqDiff, Int.reduceLT, Int.reduceLE, Int.reduceToNat, Int.reduceNeg, Int.reduceEq, Int.reduceAdd, Nat.reduceMul, Int.reduceSub, Nat.reduceBEq, Int.reduceMul, Nat.add_zero, Nat.zero_add, Int.cast_ofNat_Int, Int.ofNat_eq_coe, decide_eq_true_eq, Nat.lt_irrefl, Nat.le_refl, List.getElem?_toArray, Option.elim_some, Option.elim_none, j_Lt_read_0, g_6, g_1, rf_6_0 hR, rf_6_0 hR1, e1, t]
  generalize pz_up (pz_up (pz_up M 1 2 0) 1 3 (-1)) 6 2 0 = M2 at *
  have hR2 := Rf_Pf hR hF2
  have hT2 := TC_Pf hT hF2
  have hL2 := LLt_Pf hL hF2
  have bad : ∀ (M : pz_M) (i : Int), pz_p bl_Lt_read (pz_cal (d + 33)) 0 0 19 [] [(2, 6), (0, 0), (0, i)] [] ((pz_SH, ss, 0, 0, dd), M) = some (some (0, 0), ((pz_SH, ss, 0, 0, dd), M)) := by
    intro M i
    rw [j_Lt_read_19]
    simp (maxSteps := 1000000) (disch := omega) only [↓reduceIte, sp_0, sp_s, Option.map_some, Option.map_none, Option.some.injEq, o_le, o_nle, o_lt, o_nlt, o_eq, o_neq, w32_id, nw_s, px_iconst, px_bipush, px_sipush, px_ldc, px_ldc_w, px_lconst, px_ldc2_w, px_aconst_null, px_getstatic, px_iload_n, px_iload, px_lload_n, px_lload, px_aload_n, px_aload, px_istore_n, px_istore, px_astore_n, px_astore, px_lstore_n, px_lstore, px_iinc, px_iadd, px_isub, px_imul, px_iand, px_ior, px_ixor, px_ishl, px_ishr, px_iushr, px_ladd, px_lsub, px_lmul, px_land, px_lor, px_lcmp, px_lushr, px_lshl, px_ineg, px_i2l, px_l2i, px_idiv, px_irem, px_ldiv, px_lrem, px_dup0, px_pop0, px_dup2, px_pop2, px_dup2x, px_goto, px_if_eq, px_ic_eq, px_if_ne, px_ic_ne, px_if_lt, px_ic_lt, px_if_ge, px_ic_ge, px_if_gt, px_ic_gt, px_if_le, px_ic_le, px_ifnull, px_ifnonnull, px_lookupswitch, px_tableswitch, px_getfield, px_iaload, px_laload, px_caload, px_aaload, px_iastore, px_lastore, px_arraylength, px_putfield, px_ireturn, px_lreturn, px_areturn, px_return, px_iv0, px_is0, px_iv1, px_is1, px_iv2, px_is2, px_iv3, px_is3, px_iv4, px_is4, px_iv5, px_is5, px_iv6, px_is6, px_max, px_min, px_abs, px_maxJ, px_minJ, px_ii0, px_ii1, px_iio, px_copy, pz_cpk, pz_lk, pz_alk, pz_ask, pz_gfk, pz_lnk, pz_bx, pz_b, pz_z, pz_s1, pz_s2, pz_wt, pz_cmp, List.getElem?_cons_zero, List.getElem?_cons_succ, List.getElem?_nil, List.set_cons_zero, List.set_cons_succ, List.length_cons, List.length_nil, List.nil_append, List.cons_append, Option.toList_some, Option.toList_none, if_true, if_false, ite_true, ite_false, and_true, true_and, and_self, or_self, or_false, false_or, true_or, or_true, and_false, false_and, not_true_eq_false, not_false_eq_true, forall_const, ne_eq, reduceCtorEq, implies_true, false_implies, true_implies, Int.toNat_natCast, Nat.reduceAdd, Nat.reduceSub, Nat.reduceLT, Nat.reduceLeDiff, Nat.reduceEqDiff, Int.reduceLT, Int.reduceLE, Int.reduceToNat, Int.reduceNeg, Int.reduceEq, Int.reduceAdd, Nat.reduceMul, Int.reduceSub, Nat.reduceBEq, Int.reduceMul, Nat.add_zero, Nat.zero_add, Int.cast_ofNat_Int, Int.ofNat_eq_coe, decide_eq_true_eq, Nat.lt_irrefl, Nat.le_refl, List.getElem?_toArray, Option.elim_some, Option.elim_none, j_Lt_read_53, j_Lt_read_82, j_Lt_read_83]
  have lp : ∀ (f i : Nat) (a : List (Option Ex × Ex)) (p : Nat) (M3 : pz_M), i + f = 240 → i ≤ p → p ≤ n → (csl 0 a).length ≤ p → Pf M2 M3 → M3 1 2 = (p : Int) → M3 1 3 = -1 → Ai M2 M3 0 (csl 0 a) → Rlw M2 (fun v M' => some (some (0, v), ((pz_SH, ss, 0, 0, dd), M'))) (pz_p bl_Lt_read (pz_cal (d + 33)) 0 0 19 [] [(2, 6), (0, 1), (0, (i : Int))] [] ((pz_SH, ss, 0, 0, dd), M3)) (match gLs T n f a p with
      | .inl y => if ch T n (bl T n y.2) = -1 then .inl (y.1, bl T n y.2) else .inr (bl T n y.2)
      | .inr w => .inr w) := by
    intro f
    induction f with
    | zero =>
      intro i a p M3 hi hip hp hl hF h2 h3 hA
      have hb : bl T n p = p := bl_e (by omega)
      have hR3 := Rf_Pf hR2 hF
      have e2 := c_sign (d := d + 32) (ss := ss) (dd := dd) hR3 (TC_Pf hT2 hF) h2 hp
      have hc : ch T n (bl T n p) = -1 := by unfold ch; rw [if_neg (by omega)]
      unfold gLs
      show Rlw M2 _ _ (if ch T n (bl T n (bl T n p)) = -1 then _ else _)
      rw [bl_bl, if_pos hc]
      have hA1 := Ai_1_2 (j := 2) (v := (bl T n p : Int)) hA
      refine ⟨pz_up M3 1 2 (bl T n p : Int), ?_, Pf_t hF (Pf_up (.inl ⟨rfl, .inl rfl⟩)), by rw [up_at, if_neg (by omega)]; exact h3, by rw [hA1.1, Nat.zero_add], by show (csl 0 a).length ≤ 240; omega, fun i t e => by have := hA1.2.2 i t e; rw [Nat.zero_add] at this; exact this⟩
      rw [hc] at e2
      generalize pz_up M3 1 2 (bl T n p : Int) = M4 at *
      show _ = some (some (0, 1), ((pz_SH, ss, 0, 0, dd), M4))
      rw [j_Lt_read_19]
      simp (maxSteps := 1000000) (disch := omega) only [↓reduceIte, sp_0, sp_s, Option.map_some, Option.map_none, Option.some.injEq, o_le, o_nle, o_lt, o_nlt, o_eq, o_neq, w32_id, nw_s, px_iconst, px_bipush, px_sipush, px_ldc, px_ldc_w, px_lconst, px_ldc2_w, px_aconst_null, px_getstatic, px_iload_n, px_iload, px_lload_n, px_lload, px_aload_n, px_aload, px_istore_n, px_istore, px_astore_n, px_astore, px_lstore_n, px_lstore, px_iinc, px_iadd, px_isub, px_imul, px_iand, px_ior, px_ixor, px_ishl, px_ishr, px_iushr, px_ladd, px_lsub, px_lmul, px_land, px_lor, px_lcmp, px_lushr, px_lshl, px_ineg, px_i2l, px_l2i, px_idiv, px_irem, px_ldiv, px_lrem, px_dup0, px_pop0, px_dup2, px_pop2, px_dup2x, px_goto, px_if_eq, px_ic_eq, px_if_ne, px_ic_ne, px_if_lt, px_ic_lt, px_if_ge, px_ic_ge, px_if_gt, px_ic_gt, px_if_le, px_ic_le, px_ifnull, px_ifnonnull, px_lookupswitch, px_tableswitch, px_getfield, px_iaload, px_laload, px_caload, px_aaload, px_iastore, px_lastore, px_arraylength, px_putfield, px_ireturn, px_lreturn, px_areturn, px_return, px_iv0, px_is0, px_iv1, px_is1, px_iv2, px_is2, px_iv3, px_is3, px_iv4, px_is4, px_iv5, px_is5, px_iv6, px_is6, px_max, px_min, px_abs, px_maxJ, px_minJ, px_ii0, px_ii1, px_iio, px_copy, pz_cpk, pz_lk, pz_alk, pz_ask, pz_gfk, pz_lnk, pz_bx, pz_b, pz_z, pz_s1, pz_s2, pz_wt, pz_cmp, List.getElem?_cons_zero, List.getElem?_cons_succ, List.getElem?_nil, List.set_cons_zero, List.set_cons_succ, List.length_cons, List.length_nil, List.nil_append, List.cons_append, Option.toList_some, Option.toList_none, if_true, if_false, ite_true, ite_false, and_true, true_and, and_self, or_self, or_false, false_or, true_or, or_true, and_false, false_and, not_true_eq_false, not_false_eq_true, forall_const, ne_eq, reduceCtorEq, implies_true, false_implies, true_implies, Int.toNat_natCast, Nat.reduceAdd, Nat.reduceSub, Nat.reduceLT, Nat.reduceLeDiff, Nat.reduceEqDiff, Int.reduceLT, Int.reduceLE, Int.reduceToNat, Int.reduceNeg, Int.reduceEq, Int.reduceAdd, Nat.reduceMul, Int.reduceSub, Nat.reduceBEq, Int.reduceMul, Nat.add_zero, Nat.zero_add, Int.cast_ofNat_Int, Int.ofNat_eq_coe, decide_eq_true_eq, Nat.lt_irrefl, Nat.le_refl, List.getElem?_toArray, Option.elim_some, Option.elim_none, j_Lt_read_53, j_Lt_read_78, j_Lt_read_82, j_Lt_read_83, g_6, g_1, rf_6_0 hR3, e2]
    | succ f ih =>
      intro i a p M3 hi hip hp hl hF h2 h3 hA
      have hR3 := Rf_Pf hR2 hF
      have b1 := bl_le (T := T) hp
      have b2 := bl_ge (T := T) (n := n) (p := p)
      have e1 := c_takes (d := d + 31) (ss := ss) (dd := dd) (v := 59) hR3 (TC_Pf hT2 hF) h2 hp
      unfold gLs
      by_cases c : ch T n (bl T n p) = 59
      · rw [if_pos c] at e1 ⊢
        have b3 : bl T n p < n := ch_lt c (by decide)
        have hF4 : Pf M2 (pz_up M3 1 2 ((bl T n p : Int) + 1)) := Pf_t hF (Pf_up (.inl ⟨rfl, .inl rfl⟩))
        have hA4 := Ai_1_2 (j := 2) (v := (bl T n p : Int) + 1) hA
        have h64 := hA4.1
        rw [Nat.zero_add] at h64
        have h34 : pz_up M3 1 2 ((bl T n p : Int) + 1) 1 3 = -1 := by rw [up_at, if_neg (by omega)]; exact h3
        have cl := c_clause (d := d) (ss := ss) (dd := dd) (T := T) (n := n) hss (pz_up M3 1 2 ((bl T n p : Int) + 1)) (bl T n p + 1) (csl 0 a).length ⟨Rf_Pf hR2 hF4, TC_Pf hT2 hF4, by rw [up_at, if_pos ⟨rfl, rfl⟩]; rfl, by omega, h64, by omega⟩ (LLt_Pf hL2 hF4)
        have g1 := Gc_gCl (T := T) (n := n) (p := bl T n p + 1) (by omega)
        generalize pz_up M3 1 2 ((bl T n p : Int) + 1) = M4 at *
        match hz : gCl T n (bl T n p + 1), cl, g1 with
        | .inl z, cl, g1 =>
          obtain ⟨M5, t5, f5, p5, w5, q5⟩ := cl
          have t5 : pz_cal (d + 33) 36 [(2, 6)] ((pz_SH, ss, 0, 0, dd), M4) = some (some (0, 1), ((pz_SH, ss, 0, 0, dd), M5)) := t5
          have g2 := g1.1
          have g3 := g1.2.1
          have ec := csl_app a 0 z.1
          rw [Nat.zero_add] at ec
          have A5 := Ai_t hA4 (by rw [Nat.zero_add]; exact q5)
          rw [← ec] at A5
          have r := ih (i + 1) (a ++ [z.1]) z.2 M5 (by omega) (by omega) g2 (by rw [ec, List.length_append, cs1_len]; omega) (Pf_t hF4 f5) p5 (by rw [w5]; exact h34) A5
          have t : pz_p bl_Lt_read (pz_cal (d + 33)) 0 0 19 [] [(2, 6), (0, 1), (0, (i : Int))] [] ((pz_SH, ss, 0, 0, dd), M3) = pz_p bl_Lt_read (pz_cal (d + 33)) 0 0 19 [] [(2, 6), (0, 1), (0, ((i + 1 : Nat) : Int))] [] ((pz_SH, ss, 0, 0, dd), M5) := by
            show _ = pz_p bl_Lt_read (pz_cal (d + 33)) 0 0 19 [] [(2, 6), (0, 1), (0, (i : Int) + 1)] [] ((pz_SH, ss, 0, 0, dd), M5)
            rw [j_Lt_read_19]
            simp (maxSteps := 1000000) (disch := omega) only [↓reduceIte, sp_0, sp_s, Option.map_some, Option.map_none, Option.some.injEq, o_le, o_nle, o_lt, o_nlt, o_eq, o_neq, w32_id, nw_s, px_iconst, px_bipush, px_sipush, px_ldc, px_ldc_w, px_lconst, px_ldc2_w, px_aconst_null, px_getstatic, px_iload_n, px_iload, px_lload_n, px_lload, px_aload_n, px_aload, px_istore_n, px_istore, px_astore_n, px_astore, px_lstore_n, px_lstore, px_iinc, px_iadd, px_isub, px_imul, px_iand, px_ior, px_ixor, px_ishl, px_ishr, px_iushr, px_ladd, px_lsub, px_lmul, px_land, px_lor, px_lcmp, px_lushr, px_lshl, px_ineg, px_i2l, px_l2i, px_idiv, px_irem, px_ldiv, px_lrem, px_dup0, px_pop0, px_dup2, px_pop2, px_dup2x, px_goto, px_if_eq, px_ic_eq, px_if_ne, px_ic_ne, px_if_lt, px_ic_lt, px_if_ge, px_ic_ge, px_if_gt, px_ic_gt, px_if_le, px_ic_le, px_ifnull, px_ifnonnull, px_lookupswitch, px_tableswitch, px_getfield, px_iaload, px_laload, px_caload, px_aaload, px_iastore, px_lastore, px_arraylength, px_putfield, px_ireturn, px_lreturn, px_areturn, px_return, px_iv0, px_is0, px_iv1, px_is1, px_iv2, px_is2, px_iv3, px_is3, px_iv4, px_is4, px_iv5, px_is5, px_iv6, px_is6, px_max, px_min, px_abs, px_maxJ, px_minJ, px_ii0, px_ii1, px_iio, px_copy, pz_cpk, pz_lk, pz_alk, pz_ask, pz_gfk, pz_lnk, pz_bx, pz_b, pz_z, pz_s1, pz_s2, pz_wt, pz_cmp, List.getElem?_cons_zero, List.getElem?_cons_succ, List.getElem?_nil, List.set_cons_zero, List.set_cons_succ, List.length_cons, List.length_nil, List.nil_append, List.cons_append, Option.toList_some, Option.toList_none, if_true, if_false, ite_true, ite_false, and_true, true_and, and_self, or_self, or_false, false_or, true_or, or_true, and_false, false_and, not_true_eq_false, not_false_eq_true, forall_const, ne_eq, reduceCtorEq, implies_true, false_implies, true_implies, Int.toNat_natCast, Nat.reduceAdd, Nat.reduceSub, Nat.reduceLT, Nat.reduceLeDiff, Nat.reduceEqDiff, Int.reduceLT, Int.reduceLE, Int.reduceToNat, Int.reduceNeg, Int.reduceEq, Int.reduceAdd, Nat.reduceMul, Int.reduceSub, Nat.reduceBEq, Int.reduceMul, Nat.add_zero, Nat.zero_add, Int.cast_ofNat_Int, Int.ofNat_eq_coe, decide_eq_true_eq, Nat.lt_irrefl, Nat.le_refl, List.getElem?_toArray, Option.elim_some, Option.elim_none, g_6, g_1, rf_6_0 hR3, e1, t5]
          rw [t]
          exact r
        | .inr w, cl, g1 =>
          obtain ⟨M5, t5, f5, w5, l5, q5⟩ := cl
          have t5 : pz_cal (d + 33) 36 [(2, 6)] ((pz_SH, ss, 0, 0, dd), M4) = some (some (0, 0), ((pz_SH, ss, 0, 0, dd), M5)) := t5
          refine ⟨M5, ?_, Pf_t hF4 f5, w5⟩
          have t : pz_p bl_Lt_read (pz_cal (d + 33)) 0 0 19 [] [(2, 6), (0, 1), (0, (i : Int))] [] ((pz_SH, ss, 0, 0, dd), M3) = pz_p bl_Lt_read (pz_cal (d + 33)) 0 0 19 [] [(2, 6), (0, 0), (0, (i : Int) + 1)] [] ((pz_SH, ss, 0, 0, dd), M5) := by
            rw [j_Lt_read_19]
            simp (maxSteps := 1000000) (disch := omega) only [↓reduceIte, sp_0, sp_s, Option.map_some, Option.map_none, Option.some.injEq, o_le, o_nle, o_lt, o_nlt, o_eq, o_neq, w32_id, nw_s, px_iconst, px_bipush, px_sipush, px_ldc, px_ldc_w, px_lconst, px_ldc2_w, px_aconst_null, px_getstatic, px_iload_n, px_iload, px_lload_n, px_lload, px_aload_n, px_aload, px_istore_n, px_istore, px_astore_n, px_astore, px_lstore_n, px_lstore, px_iinc, px_iadd, px_isub, px_imul, px_iand, px_ior, px_ixor, px_ishl, px_ishr, px_iushr, px_ladd, px_lsub, px_lmul, px_land, px_lor, px_lcmp, px_lushr, px_lshl, px_ineg, px_i2l, px_l2i, px_idiv, px_irem, px_ldiv, px_lrem, px_dup0, px_pop0, px_dup2, px_pop2, px_dup2x, px_goto, px_if_eq, px_ic_eq, px_if_ne, px_ic_ne, px_if_lt, px_ic_lt, px_if_ge, px_ic_ge, px_if_gt, px_ic_gt, px_if_le, px_ic_le, px_ifnull, px_ifnonnull, px_lookupswitch, px_tableswitch, px_getfield, px_iaload, px_laload, px_caload, px_aaload, px_iastore, px_lastore, px_arraylength, px_putfield, px_ireturn, px_lreturn, px_areturn, px_return, px_iv0, px_is0, px_iv1, px_is1, px_iv2, px_is2, px_iv3, px_is3, px_iv4, px_is4, px_iv5, px_is5, px_iv6, px_is6, px_max, px_min, px_abs, px_maxJ, px_minJ, px_ii0, px_ii1, px_iio, px_copy, pz_cpk, pz_lk, pz_alk, pz_ask, pz_gfk, pz_lnk, pz_bx, pz_b, pz_z, pz_s1, pz_s2, pz_wt, pz_cmp, List.getElem?_cons_zero, List.getElem?_cons_succ, List.getElem?_nil, List.set_cons_zero, List.set_cons_succ, List.length_cons, List.length_nil, List.nil_append, List.cons_append, Option.toList_some, Option.toList_none, if_true, if_false, ite_true, ite_false, and_true, true_and, and_self, or_self, or_false, false_or, true_or, or_true, and_false, false_and, not_true_eq_false, not_false_eq_true, forall_const, ne_eq, reduceCtorEq, implies_true, false_implies, true_implies, Int.toNat_natCast, Nat.reduceAdd, Nat.reduceSub, Nat.reduceLT, Nat.reduceLeDiff, Nat.reduceEqDiff, Int.reduceLT, Int.reduceLE, Int.reduceToNat, Int.reduceNeg, Int.reduceEq, Int.reduceAdd, Nat.reduceMul, Int.reduceSub, Nat.reduceBEq, Int.reduceMul, Nat.add_zero, Nat.zero_add, Int.cast_ofNat_Int, Int.ofNat_eq_coe, decide_eq_true_eq, Nat.lt_irrefl, Nat.le_refl, List.getElem?_toArray, Option.elim_some, Option.elim_none, g_6, g_1, rf_6_0 hR3, e1, t5]
          rw [t]
          exact bad M5 _
      · rw [if_neg c] at e1 ⊢
        show Rlw M2 _ _ (if ch T n (bl T n (bl T n p)) = -1 then _ else _)
        rw [bl_bl]
        have hF4 : Pf M2 (pz_up M3 1 2 (bl T n p : Int)) := Pf_t hF (Pf_up (.inl ⟨rfl, .inl rfl⟩))
        have hR4 := Rf_Pf hR2 hF4
        have hA4 := Ai_1_2 (j := 2) (v := (bl T n p : Int)) hA
        have h24 : pz_up M3 1 2 (bl T n p : Int) 1 2 = (bl T n p : Int) := by rw [up_at, if_pos ⟨rfl, rfl⟩]
        have h34 : pz_up M3 1 2 (bl T n p : Int) 1 3 = -1 := by rw [up_at, if_neg (by omega)]; exact h3
        have e2 := c_sign (d := d + 32) (ss := ss) (dd := dd) hR4 (TC_Pf hT2 hF4) h24 b1
        rw [bl_bl, up_up2] at e2
        have e3 := c_fail (d := d + 32) (ss := ss) (dd := dd) h24
        generalize pz_up M3 1 2 (bl T n p : Int) = M4 at *
        by_cases c2 : ch T n (bl T n p) = -1
        · rw [if_pos c2]
          refine ⟨M4, ?_, hF4, h34, by rw [hA4.1, Nat.zero_add], by show (csl 0 a).length ≤ 240; omega, fun i t e => by have := hA4.2.2 i t e; rw [Nat.zero_add] at this; exact this⟩
          rw [c2] at e2
          show _ = some (some (0, 1), ((pz_SH, ss, 0, 0, dd), M4))
          rw [j_Lt_read_19]
          simp (maxSteps := 1000000) (disch := omega) only [↓reduceIte, sp_0, sp_s, Option.map_some, Option.map_none, Option.some.injEq, o_le, o_nle, o_lt, o_nlt, o_eq, o_neq, w32_id, nw_s, px_iconst, px_bipush, px_sipush, px_ldc, px_ldc_w, px_lconst, px_ldc2_w, px_aconst_null, px_getstatic, px_iload_n, px_iload, px_lload_n, px_lload, px_aload_n, px_aload, px_istore_n, px_istore, px_astore_n, px_astore, px_lstore_n, px_lstore, px_iinc, px_iadd, px_isub, px_imul, px_iand, px_ior, px_ixor, px_ishl, px_ishr, px_iushr, px_ladd, px_lsub, px_lmul, px_land, px_lor, px_lcmp, px_lushr, px_lshl, px_ineg, px_i2l, px_l2i, px_idiv, px_irem, px_ldiv, px_lrem, px_dup0, px_pop0, px_dup2, px_pop2, px_dup2x, px_goto, px_if_eq, px_ic_eq, px_if_ne, px_ic_ne, px_if_lt, px_ic_lt, px_if_ge, px_ic_ge, px_if_gt, px_ic_gt, px_if_le, px_ic_le, px_ifnull, px_ifnonnull, px_lookupswitch, px_tableswitch, px_getfield, px_iaload, px_laload, px_caload, px_aaload, px_iastore, px_lastore, px_arraylength, px_putfield, px_ireturn, px_lreturn, px_areturn, px_return, px_iv0, px_is0, px_iv1, px_is1, px_iv2, px_is2, px_iv3, px_is3, px_iv4, px_is4, px_iv5, px_is5, px_iv6, px_is6, px_max, px_min, px_abs, px_maxJ, px_minJ, px_ii0, px_ii1, px_iio, px_copy, pz_cpk, pz_lk, pz_alk, pz_ask, pz_gfk, pz_lnk, pz_bx, pz_b, pz_z, pz_s1, pz_s2, pz_wt, pz_cmp, List.getElem?_cons_zero, List.getElem?_cons_succ, List.getElem?_nil, List.set_cons_zero, List.set_cons_succ, List.length_cons, List.length_nil, List.nil_append, List.cons_append, Option.toList_some, Option.toList_none, if_true, if_false, ite_true, ite_false, and_true, true_and, and_self, or_self, or_false, false_or, true_or, or_true, and_false, false_and, not_true_eq_false, not_false_eq_true, forall_const, ne_eq, reduceCtorEq, implies_true, false_implies, true_implies, Int.toNat_natCast, Nat.reduceAdd, Nat.reduceSub, Nat.reduceLT, Nat.reduceLeDiff, Nat.reduceEqDiff, Int.reduceLT, Int.reduceLE, Int.reduceToNat, Int.reduceNeg, Int.reduceEq, Int.reduceAdd, Nat.reduceMul, Int.reduceSub, Nat.reduceBEq, Int.reduceMul, Nat.add_zero, Nat.zero_add, Int.cast_ofNat_Int, Int.ofNat_eq_coe, decide_eq_true_eq, Nat.lt_irrefl, Nat.le_refl, List.getElem?_toArray, Option.elim_some, Option.elim_none, j_Lt_read_53, j_Lt_read_78, j_Lt_read_82, j_Lt_read_83, g_6, g_1, rf_6_0 hR3, rf_6_0 hR4, e1, e2]
        · rw [if_neg c2]
          refine ⟨pz_up M4 1 3 (bl T n p : Int), ?_, Pf_t hF4 (Pf_up (.inl ⟨rfl, .inr rfl⟩)), by rw [up_at, if_pos ⟨rfl, rfl⟩]⟩
          generalize ch T n (bl T n p) = cc at *
          generalize pz_up M4 1 3 (bl T n p : Int) = M5 at *
          show _ = some (some (0, 0), ((pz_SH, ss, 0, 0, dd), M5))
          rw [j_Lt_read_19]
          simp (maxSteps := 1000000) (disch := omega) only [↓reduceIte, sp_0, sp_s, Option.map_some, Option.map_none, Option.some.injEq, o_le, o_nle, o_lt, o_nlt, o_eq, o_neq, w32_id, nw_s, px_iconst, px_bipush, px_sipush, px_ldc, px_ldc_w, px_lconst, px_ldc2_w, px_aconst_null, px_getstatic, px_iload_n, px_iload, px_lload_n, px_lload, px_aload_n, px_aload, px_istore_n, px_istore, px_astore_n, px_astore, px_lstore_n, px_lstore, px_iinc, px_iadd, px_isub, px_imul, px_iand, px_ior, px_ixor, px_ishl, px_ishr, px_iushr, px_ladd, px_lsub, px_lmul, px_land, px_lor, px_lcmp, px_lushr, px_lshl, px_ineg, px_i2l, px_l2i, px_idiv, px_irem, px_ldiv, px_lrem, px_dup0, px_pop0, px_dup2, px_pop2, px_dup2x, px_goto, px_if_eq, px_ic_eq, px_if_ne, px_ic_ne, px_if_lt, px_ic_lt, px_if_ge, px_ic_ge, px_if_gt, px_ic_gt, px_if_le, px_ic_le, px_ifnull, px_ifnonnull, px_lookupswitch, px_tableswitch, px_getfield, px_iaload, px_laload, px_caload, px_aaload, px_iastore, px_lastore, px_arraylength, px_putfield, px_ireturn, px_lreturn, px_areturn, px_return, px_iv0, px_is0, px_iv1, px_is1, px_iv2, px_is2, px_iv3, px_is3, px_iv4, px_is4, px_iv5, px_is5, px_iv6, px_is6, px_max, px_min, px_abs, px_maxJ, px_minJ, px_ii0, px_ii1, px_iio, px_copy, pz_cpk, pz_lk, pz_alk, pz_ask, pz_gfk, pz_lnk, pz_bx, pz_b, pz_z, pz_s1, pz_s2, pz_wt, pz_cmp, List.getElem?_cons_zero, List.getElem?_cons_succ, List.getElem?_nil, List.set_cons_zero, List.set_cons_succ, List.length_cons, List.length_nil, List.nil_append, List.cons_append, Option.toList_some, Option.toList_none, if_true, if_false, ite_true, ite_false, and_true, true_and, and_self, or_self, or_false, false_or, true_or, or_true, and_false, false_and, not_true_eq_false, not_false_eq_true, forall_const, ne_eq, reduceCtorEq, implies_true, false_implies, true_implies, Int.toNat_natCast, Nat.reduceAdd, Nat.reduceSub, Nat.reduceLT, Nat.reduceLeDiff, Nat.reduceEqDiff, Int.reduceLT, Int.reduceLE, Int.reduceToNat, Int.reduceNeg, Int.reduceEq, Int.reduceAdd, Nat.reduceMul, Int.reduceSub, Nat.reduceBEq, Int.reduceMul, Nat.add_zero, Nat.zero_add, Int.cast_ofNat_Int, Int.ofNat_eq_coe, decide_eq_true_eq, Nat.lt_irrefl, Nat.le_refl, List.getElem?_toArray, Option.elim_some, Option.elim_none, j_Lt_read_53, j_Lt_read_78, j_Lt_read_82, j_Lt_read_83, g_6, g_1, rf_6_0 hR3, rf_6_0 hR4, e1, e2, e3]
  have cl := c_clause (d := d) (ss := ss) (dd := dd) (T := T) (n := n) hss M2 0 0 ⟨hR2, hT2, h22, by omega, h62, by omega⟩ hL2
  have g1 := Gc_gCl (T := T) (n := n) (p := 0) (by omega)
  unfold gLw
  have fin : ∀ {K : pz_A} {r : Rs (List (Option Ex × Ex))}, Rlw M2 (fun v M' => some (some (0, v), ((pz_SH, ss, 0, 0, dd), M'))) K r → Rlw M (fun v M' => some (some (0, v), ((pz_SH, ss, 0, 0, dd), M'))) K r := by
    intro K r h
    match r, h with
    | .inl z, ⟨M', t, f, q⟩ => exact ⟨M', t, Pf_t hF2 f, q⟩
    | .inr w, ⟨M', t, f, q⟩ => exact ⟨M', t, Pf_t hF2 f, q⟩
  match hz : gCl T n 0, cl, g1 with
  | .inl z, cl, g1 =>
    obtain ⟨M5, t5, f5, p5, w5, q5⟩ := cl
    have t5 : pz_cal (d + 33) 36 [(2, 6)] ((pz_SH, ss, 0, 0, dd), M2) = some (some (0, 1), ((pz_SH, ss, 0, 0, dd), M5)) := t5
    have g2 := g1.1
    have g3 := g1.2.1
    have ec : csl 0 [z.1] = cs1 0 z.1 := by simp only [csl, List.append_nil]
    have r := lp 240 0 [z.1] z.2 M5 (by omega) (by omega) g2 (by rw [ec, cs1_len]; omega) f5 p5 (by rw [w5]; exact h32) (by rw [ec]; exact q5)
    rw [t0 t5]
    exact fin r
  | .inr w, cl, g1 =>
    obtain ⟨M5, t5, f5, w5, l5, q5⟩ := cl
    have t5 : pz_cal (d + 33) 36 [(2, 6)] ((pz_SH, ss, 0, 0, dd), M2) = some (some (0, 0), ((pz_SH, ss, 0, 0, dd), M5)) := t5
    refine ⟨M5, ?_, Pf_t hF2 f5, w5⟩
    rw [t0 t5]
    exact bad M5 _
end P71
