/-! THE CLASS READS A LAW: atoms -/
section P65
variable {d : Nat} {ss : List (Nat × Nat)} {dd : Nat} {T : Nat → Int} {n : Nat}
theorem Ap_1_2 {M M0 : pz_M} {l : Nat} {c : List (Int × Int)} {v : Int} {j : Nat} (h : Ap M0 M l c) : Ap M0 (pz_up M 1 j v) l c := ⟨by rw [up_at, if_neg (by omega)]; exact h.1, fun i hi => by rw [up_at, if_neg (by omega)]; exact h.2.1 i hi, fun i u hu => by rw [up_at, if_neg (by omega)]; exact h.2.2 i u hu⟩
theorem Ap_base {M M1 M2 : pz_M} {l : Nat} {c : List (Int × Int)} (h : Ap M1 M2 l c) (h7 : M1 7 = M 7) : Ap M M2 l c := ⟨h.1, fun i hi => by rw [h.2.1 i hi, h7], h.2.2⟩
set_option maxRecDepth 100000 in
theorem c_atom_o (hss : ∀ M', pz_sh ((pz_SH, ss, 0, 0, dd), M') 4105 = some (112, 8)) {inn : Nat → Rs Ex} {k : Int} : ∀ M p l, Sc M T n p l → LLt M → ch T n (bl T n p) ≠ 91 → Rc M l (fun v M' => some (some (0, v), ((pz_SH, ss, 0, 0, dd), M'))) (pz_cal (d + 3) 39 [(2, 6), (0, k)] ((pz_SH, ss, 0, 0, dd), M)) (atm T n inn p) := by
  intro M p l hS hL c1
  obtain ⟨hR, hT, h2, hp, h62, hl⟩ := hS
  have n240 := hT.2.1
  have b1 := bl_le (T := T) hp
  have b2 := bl_ge (T := T) (n := n) (p := p)
  have e1 := c_sign (d := d + 1) (ss := ss) (dd := dd) hR hT h2 hp
  have hF1 : Pf M (pz_up M 1 2 (bl T n p : Int)) := Pf_up (.inl ⟨rfl, .inl rfl⟩)
  have hR1 := Rf_Pf hR hF1
  have h21 : pz_up M 1 2 (bl T n p : Int) 1 2 = (bl T n p : Int) := by rw [up_at, if_pos ⟨rfl, rfl⟩]
  have hL1 : LLt (pz_up M 1 2 (bl T n p : Int)) := by unfold LLt; rw [hF1.1 4105 (by decide) (by decide) (by decide)]; exact hL
  have e2 := c_placeOf (d := d + 1) (ss := ss) (dd := dd) (M := pz_up M 1 2 (bl T n p : Int)) (r := 4105) (m := 8) (v := ch T n (bl T n p)) (by decide) hss (by decide)
  rw [plf_ltr hL1] at e2
  have e2 : pz_cal (d + 2) 98 [(0, ch T n (bl T n p)), (2, 4105)] ((pz_SH, ss, 0, 0, dd), pz_up M 1 2 (bl T n p : Int)) = _ := e2
  have lr := ltr_r (ch T n (bl T n p))
  unfold atm
  rw [if_neg c1]
  by_cases c2 : ltr (ch T n (bl T n p)) ≠ -1
  · rw [if_pos c2]
    have b3 : bl T n p < n := ch_lt (T := T) rfl (fun h => c2 (by rw [h]; decide))
    have e3 := c_step (d := d + 1) (ss := ss) (dd := dd) h21 (by omega)
    rw [up_up2] at e3
    have hF2 : Pf M (pz_up M 1 2 ((bl T n p : Int) + 1)) := Pf_up (.inl ⟨rfl, .inl rfl⟩)
    have hR2 := Rf_Pf hR hF2
    have h62' : pz_up M 1 2 ((bl T n p : Int) + 1) 6 2 = (l : Int) := by rw [up_at, if_neg (by omega)]; exact h62
    have e4 := c_emit (d := d + 1) (ss := ss) (dd := dd) (s := 1) (v := ltr (ch T n (bl T n p))) hR2 h62' (by omega) (by decide) (by omega)
    have en : 1 * 10000 + ltr (ch T n (bl T n p)) = enc (1, ltr (ch T n (bl T n p))) := by unfold enc; rw [if_neg (show ¬((1 : Int) = 0) by decide), if_pos rfl]; show _ = 10000 + ltr (ch T n (bl T n p)); omega
    refine ⟨_, ?_, Pf_t hF2 (Pf_t (Pf_up (.inr (.inr rfl))) (Pf_up (.inr (.inl ⟨rfl, rfl⟩)))), ?_, ?_, Ap_base (Ap_1 (M := pz_up M 1 2 ((bl T n p : Int) + 1)) (l := l) en) (by funext z; rw [up_at, if_neg (by omega)])⟩
    · generalize ltr (ch T n (bl T n p)) = v at *
      generalize ch T n (bl T n p) = cc at *
      generalize pz_up M 1 2 ((bl T n p : Int) + 1) = M2 at *
      generalize pz_up M 1 2 (bl T n p : Int) = M1 at *
      simp (maxSteps := 1000000) (disch := omega) only [↓reduceIte, sp_0, sp_s, Option.map_some, Option.map_none, Option.some.injEq, o_le, o_nle, o_lt, o_nlt, o_eq, o_neq, w32_id, up_at, nw_at, nw_s, k_Lt_atom, px_iconst, px_bipush, px_sipush, px_ldc, px_ldc_w, px_lconst, px_ldc2_w, px_aconst_null, px_getstatic, px_iload_n, px_iload, px_lload_n, px_lload, px_aload_n, px_aload, px_istore_n, px_istore, px_astore_n, px_astore, px_lstore_n, px_lstore, px_iinc, px_iadd, px_isub, px_imul, px_iand, px_ior, px_ixor, px_ishl, px_ishr, px_iushr, px_ladd, px_lsub, px_lmul, px_land, px_lor, px_lcmp, px_lushr, px_lshl, px_ineg, px_i2l, px_l2i, px_idiv, px_irem, px_ldiv, px_lrem, px_dup0, px_pop0, px_dup2, px_pop2, px_dup2x, px_goto, px_if_eq, px_ic_eq, px_if_ne, px_ic_ne, px_if_lt, px_ic_lt, px_if_ge, px_ic_ge, px_if_gt, px_ic_gt, px_if_le, px_ic_le, px_ifnull, px_ifnonnull, px_lookupswitch, px_tableswitch, px_getfield, px_iaload, px_laload, px_caload, px_aaload, px_iastore, px_lastore, px_arraylength, px_putfield, px_ireturn, px_lreturn, px_areturn, px_return, px_iv0, px_is0, px_iv1, px_is1, px_iv2, px_is2, px_iv3, px_is3, px_iv4, px_is4, px_iv5, px_is5, px_iv6, px_is6, px_max, px_min, px_abs, px_maxJ, px_minJ, px_ii0, px_ii1, px_iio, px_copy, pz_cpk, pz_lk, pz_alk, pz_ask, pz_gfk, pz_lnk, pz_bx, pz_b, pz_z, pz_s1, pz_s2, pz_wt, pz_cmp, List.getElem?_cons_zero, List.getElem?_cons_succ, List.getElem?_nil, List.set_cons_zero, List.set_cons_succ, List.length_cons, List.length_nil, List.nil_append, List.cons_append, Option.toList_some, Option.toList_none, if_true, if_false, ite_true, ite_false, and_true, true_and, and_self, or_self, or_false, false_or, true_or, or_true, and_false, false_and, not_true_eq_false, not_false_eq_true, forall_const, ne_eq, reduceCtorEq, implies_true, false_implies, true_implies, Int.toNat_natCast, Nat.reduceAdd, Nat.reduceSub, Nat.reduceLT, Nat.reduceLeDiff, Nat.reduceEqDiff, Int.reduceLT, Int.reduceLE, Int.reduceToNat, Int.reduceNeg, Int.reduceEq, Int.reduceAdd, Nat.reduceMul, Int.reduceSub, Nat.reduceBEq, Int.reduceMul, Nat.add_zero, Nat.zero_add, Int.cast_ofNat_Int, Int.ofNat_eq_coe, decide_eq_true_eq, Nat.lt_irrefl, Nat.le_refl, List.getElem?_toArray, Option.elim_some, Option.elim_none, j_Lt_atom_0, j_Lt_atom_28, j_Lt_atom_61, j_Lt_atom_62, j_Lt_atom_63, j_Lt_atom_90, j_Lt_atom_120, j_Lt_atom_121, g_6, g_1, rf_6_0 hR, rf_6_0 hR1, e1, e2, e3, e4]
    · rw [up_at, if_neg (by omega), up_at, if_neg (by omega), up_at, if_pos ⟨rfl, rfl⟩]; rfl
    · rw [up_at, if_neg (by omega), up_at, if_neg (by omega), up_at, if_neg (by omega)]
  · rw [if_neg c2]
    have c3 : ltr (ch T n (bl T n p)) = -1 := by omega
    rw [c3] at e2
    obtain ⟨q, hq, nm⟩ := c_number (d := d) (ss := ss) (dd := dd) (M := pz_up M 1 2 (bl T n p : Int)) (p := bl T n p) (D := 4) (most := 9999) hR1 (TC_Pf hT hF1) h21 b1 (by decide)
    have nr := numb_r (T := T) (n := n) (D := 4) (p := p) (most := 9999) hp (by decide)
    have nb : numb T n 4 9999 (bl T n p) = numb T n 4 9999 p := by unfold numb; rw [bl_bl]
    rw [nb] at nm
    match hz : numb T n 4 9999 p, nm, nr with
    | .inl z, nm, nr =>
      have nm : pz_cal (d + 2) 88 [(2, 1), (0, 4), (0, 9999)] ((pz_SH, ss, 0, 0, dd), pz_up M 1 2 (bl T n p : Int)) = some (some (0, z.1), ((pz_SH, ss, 0, 0, dd), pz_up (pz_up M 1 2 (bl T n p : Int)) 1 2 (z.2 : Int))) := nm
      rw [up_up2] at nm
      have nr : z.2 ≤ n ∧ p + 1 ≤ z.2 ∧ 0 ≤ z.1 ∧ z.1 ≤ 9999 := nr
      have hF2 : Pf M (pz_up M 1 2 (z.2 : Int)) := Pf_up (.inl ⟨rfl, .inl rfl⟩)
      have hR2 := Rf_Pf hR hF2
      have h62' : pz_up M 1 2 (z.2 : Int) 6 2 = (l : Int) := by rw [up_at, if_neg (by omega)]; exact h62
      have e4 := c_emit (d := d + 1) (ss := ss) (dd := dd) (s := 0) (v := z.1) hR2 h62' (by omega) (by decide) (by omega)
      have en : 0 * 10000 + z.1 = enc (0, z.1) := by unfold enc; rw [if_pos rfl]; show _ = z.1; omega
      refine ⟨_, ?_, Pf_t hF2 (Pf_t (Pf_up (.inr (.inr rfl))) (Pf_up (.inr (.inl ⟨rfl, rfl⟩)))), ?_, ?_, Ap_base (Ap_1 (M := pz_up M 1 2 (z.2 : Int)) (l := l) en) (by funext y; rw [up_at, if_neg (by omega)])⟩
      · generalize ch T n (bl T n p) = cc at *
        generalize pz_up M 1 2 (z.2 : Int) = M2 at *
        generalize pz_up M 1 2 (bl T n p : Int) = M1 at *
        generalize z.1 = v at *
        simp (maxSteps := 1000000) (disch := omega) only [↓reduceIte, sp_0, sp_s, Option.map_some, Option.map_none, Option.some.injEq, o_le, o_nle, o_lt, o_nlt, o_eq, o_neq, w32_id, up_at, nw_at, nw_s, k_Lt_atom, px_iconst, px_bipush, px_sipush, px_ldc, px_ldc_w, px_lconst, px_ldc2_w, px_aconst_null, px_getstatic, px_iload_n, px_iload, px_lload_n, px_lload, px_aload_n, px_aload, px_istore_n, px_istore, px_astore_n, px_astore, px_lstore_n, px_lstore, px_iinc, px_iadd, px_isub, px_imul, px_iand, px_ior, px_ixor, px_ishl, px_ishr, px_iushr, px_ladd, px_lsub, px_lmul, px_land, px_lor, px_lcmp, px_lushr, px_lshl, px_ineg, px_i2l, px_l2i, px_idiv, px_irem, px_ldiv, px_lrem, px_dup0, px_pop0, px_dup2, px_pop2, px_dup2x, px_goto, px_if_eq, px_ic_eq, px_if_ne, px_ic_ne, px_if_lt, px_ic_lt, px_if_ge, px_ic_ge, px_if_gt, px_ic_gt, px_if_le, px_ic_le, px_ifnull, px_ifnonnull, px_lookupswitch, px_tableswitch, px_getfield, px_iaload, px_laload, px_caload, px_aaload, px_iastore, px_lastore, px_arraylength, px_putfield, px_ireturn, px_lreturn, px_areturn, px_return, px_iv0, px_is0, px_iv1, px_is1, px_iv2, px_is2, px_iv3, px_is3, px_iv4, px_is4, px_iv5, px_is5, px_iv6, px_is6, px_max, px_min, px_abs, px_maxJ, px_minJ, px_ii0, px_ii1, px_iio, px_copy, pz_cpk, pz_lk, pz_alk, pz_ask, pz_gfk, pz_lnk, pz_bx, pz_b, pz_z, pz_s1, pz_s2, pz_wt, pz_cmp, List.getElem?_cons_zero, List.getElem?_cons_succ, List.getElem?_nil, List.set_cons_zero, List.set_cons_succ, List.length_cons, List.length_nil, List.nil_append, List.cons_append, Option.toList_some, Option.toList_none, if_true, if_false, ite_true, ite_false, and_true, true_and, and_self, or_self, or_false, false_or, true_or, or_true, and_false, false_and, not_true_eq_false, not_false_eq_true, forall_const, ne_eq, reduceCtorEq, implies_true, false_implies, true_implies, Int.toNat_natCast, Nat.reduceAdd, Nat.reduceSub, Nat.reduceLT, Nat.reduceLeDiff, Nat.reduceEqDiff, Int.reduceLT, Int.reduceLE, Int.reduceToNat, Int.reduceNeg, Int.reduceEq, Int.reduceAdd, Nat.reduceMul, Int.reduceSub, Nat.reduceBEq, Int.reduceMul, Nat.add_zero, Nat.zero_add, Int.cast_ofNat_Int, Int.ofNat_eq_coe, decide_eq_true_eq, Nat.lt_irrefl, Nat.le_refl, List.getElem?_toArray, Option.elim_some, Option.elim_none, j_Lt_atom_0, j_Lt_atom_28, j_Lt_atom_61, j_Lt_atom_62, j_Lt_atom_63, j_Lt_atom_90, j_Lt_atom_120, j_Lt_atom_121, g_6, g_1, rf_6_0 hR, rf_6_0 hR1, e1, e2, nm, e4]
      · rw [up_at, if_neg (by omega), up_at, if_neg (by omega), up_at, if_pos ⟨rfl, rfl⟩]
      · rw [up_at, if_neg (by omega), up_at, if_neg (by omega), up_at, if_neg (by omega)]
    | .inr w, nm, nr =>
      have nm : pz_cal (d + 2) 88 [(2, 1), (0, 4), (0, 9999)] ((pz_SH, ss, 0, 0, dd), pz_up M 1 2 (bl T n p : Int)) = some (some (0, -1), ((pz_SH, ss, 0, 0, dd), pz_up (pz_up (pz_up M 1 2 (bl T n p : Int)) 1 2 (q : Int)) 1 3 (w : Int))) := nm
      rw [up_up2] at nm
      have hF2 : Pf M (pz_up (pz_up M 1 2 (q : Int)) 1 3 (w : Int)) := Pf_t (Pf_up (.inl ⟨rfl, .inl rfl⟩)) (Pf_up (.inl ⟨rfl, .inr rfl⟩))
      have hR2 := Rf_Pf hR hF2
      have h62' : pz_up (pz_up M 1 2 (q : Int)) 1 3 (w : Int) 6 2 = (l : Int) := by rw [up_at, if_neg (by omega), up_at, if_neg (by omega)]; exact h62
      obtain ⟨M4, t4, f4, u4, l4, q5, q6⟩ := c_emit2 (d := d + 1) (ss := ss) (dd := dd) (s := 0) (v := -1) hR2 h62' (by omega) (by decide) (by decide)
      refine ⟨M4, ?_, Pf_t hF2 f4, by rw [u4, up_at, if_pos ⟨rfl, rfl⟩], l4, q5, q6⟩
      generalize ch T n (bl T n p) = cc at *
      generalize pz_up (pz_up M 1 2 (q : Int)) 1 3 (w : Int) = M2 at *
      generalize pz_up M 1 2 (bl T n p : Int) = M1 at *
      simp (maxSteps := 1000000) (disch := omega) only [↓reduceIte, sp_0, sp_s, Option.map_some, Option.map_none, Option.some.injEq, o_le, o_nle, o_lt, o_nlt, o_eq, o_neq, w32_id, up_at, nw_at, nw_s, k_Lt_atom, px_iconst, px_bipush, px_sipush, px_ldc, px_ldc_w, px_lconst, px_ldc2_w, px_aconst_null, px_getstatic, px_iload_n, px_iload, px_lload_n, px_lload, px_aload_n, px_aload, px_istore_n, px_istore, px_astore_n, px_astore, px_lstore_n, px_lstore, px_iinc, px_iadd, px_isub, px_imul, px_iand, px_ior, px_ixor, px_ishl, px_ishr, px_iushr, px_ladd, px_lsub, px_lmul, px_land, px_lor, px_lcmp, px_lushr, px_lshl, px_ineg, px_i2l, px_l2i, px_idiv, px_irem, px_ldiv, px_lrem, px_dup0, px_pop0, px_dup2, px_pop2, px_dup2x, px_goto, px_if_eq, px_ic_eq, px_if_ne, px_ic_ne, px_if_lt, px_ic_lt, px_if_ge, px_ic_ge, px_if_gt, px_ic_gt, px_if_le, px_ic_le, px_ifnull, px_ifnonnull, px_lookupswitch, px_tableswitch, px_getfield, px_iaload, px_laload, px_caload, px_aaload, px_iastore, px_lastore, px_arraylength, px_putfield, px_ireturn, px_lreturn, px_areturn, px_return, px_iv0, px_is0, px_iv1, px_is1, px_iv2, px_is2, px_iv3, px_is3, px_iv4, px_is4, px_iv5, px_is5, px_iv6, px_is6, px_max, px_min, px_abs, px_maxJ, px_minJ, px_ii0, px_ii1, px_iio, px_copy, pz_cpk, pz_lk, pz_alk, pz_ask, pz_gfk, pz_lnk, pz_bx, pz_b, pz_z, pz_s1, pz_s2, pz_wt, pz_cmp, List.getElem?_cons_zero, List.getElem?_cons_succ, List.getElem?_nil, List.set_cons_zero, List.set_cons_succ, List.length_cons, List.length_nil, List.nil_append, List.cons_append, Option.toList_some, Option.toList_none, if_true, if_false, ite_true, ite_false, and_true, true_and, and_self, or_self, or_false, false_or, true_or, or_true, and_false, false_and, not_true_eq_false, not_false_eq_true, forall_const, ne_eq, reduceCtorEq, implies_true, false_implies, true_implies, Int.toNat_natCast, Nat.reduceAdd, Nat.reduceSub, Nat.reduceLT, Nat.reduceLeDiff, Nat.reduceEqDiff, Int.reduceLT, Int.reduceLE, Int.reduceToNat, Int.reduceNeg, Int.reduceEq, Int.reduceAdd, Nat.reduceMul, Int.reduceSub, Nat.reduceBEq, Int.reduceMul, Nat.add_zero, Nat.zero_add, Int.cast_ofNat_Int, Int.ofNat_eq_coe, decide_eq_true_eq, Nat.lt_irrefl, Nat.le_refl, List.getElem?_toArray, Option.elim_some, Option.elim_none, j_Lt_atom_0, j_Lt_atom_28, j_Lt_atom_61, j_Lt_atom_62, j_Lt_atom_63, j_Lt_atom_90, j_Lt_atom_120, j_Lt_atom_121, g_6, g_1, rf_6_0 hR, rf_6_0 hR1, e1, e2, nm, t4]
end P65
