/-! THE CLASS READS A LAW: terms and sums -/
section P64
variable {d : Nat} {ss : List (Nat × Nat)} {dd : Nat} {T : Nat → Int} {n : Nat}
set_option maxRecDepth 100000 in
theorem c_term {g : Nat → Rs Ex} {h : Nat} {k : Int} (hg : ∀ p, p ≤ n → Gr n p h False (g p)) (hA : ∀ M p l, Sc M T n p l → LLt M → Rc M l (fun v M' => some (some (0, v), ((pz_SH, ss, 0, 0, dd), M'))) (pz_cal (d + 2) 39 [(2, 6), (0, k)] ((pz_SH, ss, 0, 0, dd), M)) (g p)) : ∀ M p l, Sc M T n p l → LLt M → Rc M l (fun v M' => some (some (0, v), ((pz_SH, ss, 0, 0, dd), M'))) (pz_cal (d + 3) 38 [(2, 6), (0, k)] ((pz_SH, ss, 0, 0, dd), M)) (sq1 T n oTd g p) := by
  intro M0 p0 l0 hS hL
  obtain ⟨hR0, hT0, h12, hp0, h62, hl0⟩ := hS
  have n240 := hT0.2.1
  have bad : ∀ (M : pz_M) (i : Int) (t : pz_V) , pz_p bl_Lt_term (pz_cal (d + 2)) 0 0 8 [] [(2, 6), (0, k), (0, 0), (0, i), (t.1, t.2)] [] ((pz_SH, ss, 0, 0, dd), M) = some (some (0, 0), ((pz_SH, ss, 0, 0, dd), M)) := by
    intro M i t
    rw [j_Lt_term_8]
    simp (maxSteps := 1000000) (disch := omega) only [↓reduceIte, sp_0, sp_s, Option.map_some, Option.map_none, Option.some.injEq, o_le, o_nle, o_lt, o_nlt, o_eq, o_neq, w32_id, nw_s, px_iconst, px_bipush, px_sipush, px_ldc, px_ldc_w, px_lconst, px_ldc2_w, px_aconst_null, px_getstatic, px_iload_n, px_iload, px_lload_n, px_lload, px_aload_n, px_aload, px_istore_n, px_istore, px_astore_n, px_astore, px_lstore_n, px_lstore, px_iinc, px_iadd, px_isub, px_imul, px_iand, px_ior, px_ixor, px_ishl, px_ishr, px_iushr, px_ladd, px_lsub, px_lmul, px_land, px_lor, px_lcmp, px_lushr, px_lshl, px_ineg, px_i2l, px_l2i, px_idiv, px_irem, px_ldiv, px_lrem, px_dup0, px_pop0, px_dup2, px_pop2, px_dup2x, px_goto, px_if_eq, px_ic_eq, px_if_ne, px_ic_ne, px_if_lt, px_ic_lt, px_if_ge, px_ic_ge, px_if_gt, px_ic_gt, px_if_le, px_ic_le, px_ifnull, px_ifnonnull, px_lookupswitch, px_tableswitch, px_getfield, px_iaload, px_laload, px_caload, px_aaload, px_iastore, px_lastore, px_arraylength, px_putfield, px_ireturn, px_lreturn, px_areturn, px_return, px_iv0, px_is0, px_iv1, px_is1, px_iv2, px_is2, px_iv3, px_is3, px_iv4, px_is4, px_iv5, px_is5, px_iv6, px_is6, px_max, px_min, px_abs, px_maxJ, px_minJ, px_ii0, px_ii1, px_iio, px_copy, pz_cpk, pz_lk, pz_alk, pz_ask, pz_gfk, pz_lnk, pz_bx, pz_b, pz_z, pz_s1, pz_s2, pz_wt, pz_cmp, List.getElem?_cons_zero, List.getElem?_cons_succ, List.getElem?_nil, List.set_cons_zero, List.set_cons_succ, List.length_cons, List.length_nil, List.nil_append, List.cons_append, Option.toList_some, Option.toList_none, if_true, if_false, ite_true, ite_false, and_true, true_and, and_self, or_self, or_false, false_or, true_or, or_true, and_false, false_and, not_true_eq_false, not_false_eq_true, forall_const, ne_eq, reduceCtorEq, implies_true, false_implies, true_implies, Int.toNat_natCast, Nat.reduceAdd, Nat.reduceSub, Nat.reduceLT, Nat.reduceLeDiff, Nat.reduceEqDiff, Int.reduceLT, Int.reduceLE, Int.reduceToNat, Int.reduceNeg, Int.reduceEq, Int.reduceAdd, Nat.reduceMul, Int.reduceSub, Nat.reduceBEq, Int.reduceMul, Nat.add_zero, Nat.zero_add, Int.cast_ofNat_Int, Int.ofNat_eq_coe, decide_eq_true_eq, Nat.lt_irrefl, Nat.le_refl, List.getElem?_toArray, Option.elim_some, Option.elim_none, j_Lt_term_65]
  have lp : ∀ (f i : Nat) (e : Ex) (p : Nat) (M : pz_M) (t : pz_V), i + f = 240 → i ≤ p → p ≤ n → l0 + e.1.length ≤ p → Pf M0 M → M 1 2 = (p : Int) → M 1 3 = M0 1 3 → Ap M0 M l0 e.1 → Rc M0 l0 (fun v M' => some (some (0, v), ((pz_SH, ss, 0, 0, dd), M'))) (pz_p bl_Lt_term (pz_cal (d + 2)) 0 0 8 [] [(2, 6), (0, k), (0, 1), (0, (i : Int)), (t.1, t.2)] [] ((pz_SH, ss, 0, 0, dd), M)) (chn T n oTd g f e p) := by
    intro f
    induction f with
    | zero =>
      intro i e p M t hi hip hp hl hF h2 h3 hAp
      have hb : bl T n p = p := bl_e (by omega)
      unfold chn
      rw [hb]
      refine ⟨M, ?_, hF, h2, h3, hAp⟩
      show _ = some (some (0, 1), ((pz_SH, ss, 0, 0, dd), M))
      rw [j_Lt_term_8]
      simp (maxSteps := 1000000) (disch := omega) only [↓reduceIte, sp_0, sp_s, Option.map_some, Option.map_none, Option.some.injEq, o_le, o_nle, o_lt, o_nlt, o_eq, o_neq, w32_id, nw_s, px_iconst, px_bipush, px_sipush, px_ldc, px_ldc_w, px_lconst, px_ldc2_w, px_aconst_null, px_getstatic, px_iload_n, px_iload, px_lload_n, px_lload, px_aload_n, px_aload, px_istore_n, px_istore, px_astore_n, px_astore, px_lstore_n, px_lstore, px_iinc, px_iadd, px_isub, px_imul, px_iand, px_ior, px_ixor, px_ishl, px_ishr, px_iushr, px_ladd, px_lsub, px_lmul, px_land, px_lor, px_lcmp, px_lushr, px_lshl, px_ineg, px_i2l, px_l2i, px_idiv, px_irem, px_ldiv, px_lrem, px_dup0, px_pop0, px_dup2, px_pop2, px_dup2x, px_goto, px_if_eq, px_ic_eq, px_if_ne, px_ic_ne, px_if_lt, px_ic_lt, px_if_ge, px_ic_ge, px_if_gt, px_ic_gt, px_if_le, px_ic_le, px_ifnull, px_ifnonnull, px_lookupswitch, px_tableswitch, px_getfield, px_iaload, px_laload, px_caload, px_aaload, px_iastore, px_lastore, px_arraylength, px_putfield, px_ireturn, px_lreturn, px_areturn, px_return, px_iv0, px_is0, px_iv1, px_is1, px_iv2, px_is2, px_iv3, px_is3, px_iv4, px_is4, px_iv5, px_is5, px_iv6, px_is6, px_max, px_min, px_abs, px_maxJ, px_minJ, px_ii0, px_ii1, px_iio, px_copy, pz_cpk, pz_lk, pz_alk, pz_ask, pz_gfk, pz_lnk, pz_bx, pz_b, pz_z, pz_s1, pz_s2, pz_wt, pz_cmp, List.getElem?_cons_zero, List.getElem?_cons_succ, List.getElem?_nil, List.set_cons_zero, List.set_cons_succ, List.length_cons, List.length_nil, List.nil_append, List.cons_append, Option.toList_some, Option.toList_none, if_true, if_false, ite_true, ite_false, and_true, true_and, and_self, or_self, or_false, false_or, true_or, or_true, and_false, false_and, not_true_eq_false, not_false_eq_true, forall_const, ne_eq, reduceCtorEq, implies_true, false_implies, true_implies, Int.toNat_natCast, Nat.reduceAdd, Nat.reduceSub, Nat.reduceLT, Nat.reduceLeDiff, Nat.reduceEqDiff, Int.reduceLT, Int.reduceLE, Int.reduceToNat, Int.reduceNeg, Int.reduceEq, Int.reduceAdd, Nat.reduceMul, Int.reduceSub, Nat.reduceBEq, Int.reduceMul, Nat.add_zero, Nat.zero_add, Int.cast_ofNat_Int, Int.ofNat_eq_coe, decide_eq_true_eq, Nat.lt_irrefl, Nat.le_refl, List.getElem?_toArray, Option.elim_some, Option.elim_none, j_Lt_term_65]
    | succ f ih =>
      intro i e p M t hi hip hp hl hF h2 h3 hAp
      have hR := Rf_Pf hR0 hF
      have hT := TC_Pf hT0 hF
      have b1 := bl_le (T := T) hp
      have b2 := bl_ge (T := T) (n := n) (p := p)
      have e1 := c_isEither (d := d) (ss := ss) (dd := dd) (a := 42) (b := 47) hR hT h2 hp
      have hR1 : Rf (pz_up M 1 2 (bl T n p : Int)) := Rf_up hR (by decide +kernel)
      have hT1 : TC (pz_up M 1 2 (bl T n p : Int)) T n := TC_up hT (by decide) (by decide)
      have h21 : pz_up M 1 2 (bl T n p : Int) 1 2 = (bl T n p : Int) := by rw [up_at, if_pos ⟨rfl, rfl⟩]
      have hF1 : Pf M (pz_up M 1 2 (bl T n p : Int)) := Pf_up (.inl ⟨rfl, .inl rfl⟩)
      unfold chn
      by_cases c : oTd (ch T n (bl T n p)) = 0
      · have nc : ¬(ch T n (bl T n p) = 42 ∨ ch T n (bl T n p) = 47) := fun h => by
          unfold oTd at c
          rcases h with h | h
          · rw [if_pos h] at c; omega
          · rw [if_neg (by omega), if_pos h] at c; omega
        rw [if_neg nc] at e1
        rw [if_pos c]
        refine ⟨pz_up M 1 2 (bl T n p : Int), ?_, Pf_t hF hF1, h21, by rw [up_at, if_neg (by omega)]; exact h3, ?_⟩
        · show _ = some (some (0, 1), ((pz_SH, ss, 0, 0, dd), pz_up M 1 2 (bl T n p : Int)))
          generalize pz_up M 1 2 (bl T n p : Int) = M1 at *
          rw [j_Lt_term_8]
          simp (maxSteps := 1000000) (disch := omega) only [↓reduceIte, sp_0, sp_s, Option.map_some, Option.map_none, Option.some.injEq, o_le, o_nle, o_lt, o_nlt, o_eq, o_neq, w32_id, nw_s, px_iconst, px_bipush, px_sipush, px_ldc, px_ldc_w, px_lconst, px_ldc2_w, px_aconst_null, px_getstatic, px_iload_n, px_iload, px_lload_n, px_lload, px_aload_n, px_aload, px_istore_n, px_istore, px_astore_n, px_astore, px_lstore_n, px_lstore, px_iinc, px_iadd, px_isub, px_imul, px_iand, px_ior, px_ixor, px_ishl, px_ishr, px_iushr, px_ladd, px_lsub, px_lmul, px_land, px_lor, px_lcmp, px_lushr, px_lshl, px_ineg, px_i2l, px_l2i, px_idiv, px_irem, px_ldiv, px_lrem, px_dup0, px_pop0, px_dup2, px_pop2, px_dup2x, px_goto, px_if_eq, px_ic_eq, px_if_ne, px_ic_ne, px_if_lt, px_ic_lt, px_if_ge, px_ic_ge, px_if_gt, px_ic_gt, px_if_le, px_ic_le, px_ifnull, px_ifnonnull, px_lookupswitch, px_tableswitch, px_getfield, px_iaload, px_laload, px_caload, px_aaload, px_iastore, px_lastore, px_arraylength, px_putfield, px_ireturn, px_lreturn, px_areturn, px_return, px_iv0, px_is0, px_iv1, px_is1, px_iv2, px_is2, px_iv3, px_is3, px_iv4, px_is4, px_iv5, px_is5, px_iv6, px_is6, px_max, px_min, px_abs, px_maxJ, px_minJ, px_ii0, px_ii1, px_iio, px_copy, pz_cpk, pz_lk, pz_alk, pz_ask, pz_gfk, pz_lnk, pz_bx, pz_b, pz_z, pz_s1, pz_s2, pz_wt, pz_cmp, List.getElem?_cons_zero, List.getElem?_cons_succ, List.getElem?_nil, List.set_cons_zero, List.set_cons_succ, List.length_cons, List.length_nil, List.nil_append, List.cons_append, Option.toList_some, Option.toList_none, if_true, if_false, ite_true, ite_false, and_true, true_and, and_self, or_self, or_false, false_or, true_or, or_true, and_false, false_and, not_true_eq_false, not_false_eq_true, forall_const, ne_eq, reduceCtorEq, implies_true, false_implies, true_implies, Int.toNat_natCast, Nat.reduceAdd, Nat.reduceSub, Nat.reduceLT, Nat.reduceLeDiff, Nat.reduceEqDiff, Int.reduceLT, Int.reduceLE, Int.reduceToNat, Int.reduceNeg, Int.reduceEq, Int.reduceAdd, Nat.reduceMul, Int.reduceSub, Nat.reduceBEq, Int.reduceMul, Nat.add_zero, Nat.zero_add, Int.cast_ofNat_Int, Int.ofNat_eq_coe, decide_eq_true_eq, Nat.lt_irrefl, Nat.le_refl, List.getElem?_toArray, Option.elim_some, Option.elim_none, j_Lt_term_65, g_6, e1]
        · exact ⟨by rw [up_at, if_neg (by omega)]; exact hAp.1, fun j hj => by rw [up_at, if_neg (by omega)]; exact hAp.2.1 j hj, fun j u hu => by rw [up_at, if_neg (by omega)]; exact hAp.2.2 j u hu⟩
      · have yc : ch T n (bl T n p) = 42 ∨ ch T n (bl T n p) = 47 := by
          by_cases g1 : ch T n (bl T n p) = 42
          · exact .inl g1
          · by_cases g2 : ch T n (bl T n p) = 47
            · exact .inr g2
            · exfalso; apply c; unfold oTd; rw [if_neg g1, if_neg g2]
        have es : sgn (oTd (ch T n (bl T n p))) = ch T n (bl T n p) := by
          unfold oTd
          rcases yc with h | h <;> rw [h] <;> decide
        have cr : 0 ≤ ch T n (bl T n p) ∧ ch T n (bl T n p) ≤ 200 := by omega
        have b3 : bl T n p < n := ch_lt (T := T) rfl (by omega)
        have en : enc (oTd (ch T n (bl T n p)), 0) = 2 * 10000 + ch T n (bl T n p) := by
          unfold enc
          have : oTd (ch T n (bl T n p)) = 4 ∨ oTd (ch T n (bl T n p)) = 5 := by
            unfold oTd
            rcases yc with h | h <;> rw [h] <;> decide
          rw [if_neg (by omega), if_neg (by omega)]
          show 20000 + sgn (oTd (ch T n (bl T n p))) = _
          rw [es]; omega
        rw [if_pos yc] at e1
        rw [if_neg c]
        have e2 := c_sign (d := d + 1) (ss := ss) (dd := dd) hR1 hT1 h21 b1
        rw [bl_bl, up_up2] at e2
        have e3 := c_step (d := d + 1) (ss := ss) (dd := dd) h21 (by omega)
        rw [up_up2] at e3
        have hF2 : Pf M0 (pz_up M 1 2 ((bl T n p : Int) + 1)) := Pf_t hF (Pf_up (.inl ⟨rfl, .inl rfl⟩))
        have hA2 : Ap M0 (pz_up M 1 2 ((bl T n p : Int) + 1)) l0 e.1 := ⟨by rw [up_at, if_neg (by omega)]; exact hAp.1, fun j hj => by rw [up_at, if_neg (by omega)]; exact hAp.2.1 j hj, fun j u hu => by rw [up_at, if_neg (by omega)]; exact hAp.2.2 j u hu⟩
        have h32 : pz_up M 1 2 ((bl T n p : Int) + 1) 1 3 = M0 1 3 := by rw [up_at, if_neg (by omega)]; exact h3
        have h22 : pz_up M 1 2 ((bl T n p : Int) + 1) 1 2 = ((bl T n p + 1 : Nat) : Int) := by rw [up_at, if_pos ⟨rfl, rfl⟩]; rfl
        have hR2 := Rf_Pf hR0 hF2
        generalize pz_up M 1 2 ((bl T n p : Int) + 1) = M2 at *
        have a1 := hA M2 (bl T n p + 1) (l0 + e.1.length) ⟨hR2, TC_Pf hT0 hF2, h22, by omega, hA2.1, by omega⟩ (by unfold LLt; rw [hF2.1 4105 (by decide) (by decide) (by decide)]; exact hL)
        have g1 := hg (bl T n p + 1) (by omega)
        generalize pz_up M 1 2 (bl T n p : Int) = M1 at *
        match hz : g (bl T n p + 1), a1, g1 with
        | .inl z, a1, g1 =>
          obtain ⟨M3, t3, f3, p3, w3, q3⟩ := a1
          have t3 : pz_cal (d + 2) 39 [(2, 6), (0, k)] ((pz_SH, ss, 0, 0, dd), M2) = some (some (0, 1), ((pz_SH, ss, 0, 0, dd), M3)) := t3
          have g2 := g1.1
          have g3 := g1.2.1
          have hF3 := Pf_t hF2 f3
          have hR3 := Rf_Pf hR0 hF3
          have hA3 := Ap_t hA2 q3
          have hA4 := Ap_t hA3 (Ap_1 (M := M3) (l := l0 + (e.1 ++ z.1.1).length) (t := (oTd (ch T n (bl T n p)), 0)) en.symm)
          have e5 := c_emit (d := d + 1) (ss := ss) (dd := dd) (s := 2) (v := ch T n (bl T n p)) hR3 hA3.1 (by rw [List.length_append]; omega) (by decide) (by omega)
          have r := ih (i + 1) (xbin (oTd (ch T n (bl T n p))) e z.1) z.2 _ (0, ch T n (bl T n p)) (by omega) (by omega) g2 (by rw [xbin_len]; omega) (Pf_t hF3 (Pf_t (Pf_up (.inr (.inr rfl))) (Pf_up (.inr (.inl ⟨rfl, rfl⟩))))) (by rw [up_at, if_neg (by omega), up_at, if_neg (by omega)]; exact p3) (by rw [up_at, if_neg (by omega), up_at, if_neg (by omega), w3]; exact h32) hA4
          generalize pz_up (pz_up M3 7 (l0 + (e.1 ++ z.1.1).length) (2 * 10000 + ch T n (bl T n p))) 6 2 (((l0 + (e.1 ++ z.1.1).length : Nat) : Int) + 1) = M4 at *
          have t9 : pz_p bl_Lt_term (pz_cal (d + 2)) 0 0 8 [] [(2, 6), (0, k), (0, 1), (0, (i : Int)), (t.1, t.2)] [] ((pz_SH, ss, 0, 0, dd), M) = pz_p bl_Lt_term (pz_cal (d + 2)) 0 0 8 [] [(2, 6), (0, k), (0, 1), (0, ((i + 1 : Nat) : Int)), (0, ch T n (bl T n p))] [] ((pz_SH, ss, 0, 0, dd), M4) := by
            generalize ch T n (bl T n p) = cc at *
            show _ = pz_p bl_Lt_term (pz_cal (d + 2)) 0 0 8 [] [(2, 6), (0, k), (0, 1), (0, (i : Int) + 1), (0, cc)] [] ((pz_SH, ss, 0, 0, dd), M4)
            rw [j_Lt_term_8]
            simp (maxSteps := 1000000) (disch := omega) only [↓reduceIte, sp_0, sp_s, Option.map_some, Option.map_none, Option.some.injEq, o_le, o_nle, o_lt, o_nlt, o_eq, o_neq, w32_id, nw_s, px_iconst, px_bipush, px_sipush, px_ldc, px_ldc_w, px_lconst, px_ldc2_w, px_aconst_null, px_getstatic, px_iload_n, px_iload, px_lload_n, px_lload, px_aload_n, px_aload, px_istore_n, px_istore, px_astore_n, px_astore, px_lstore_n, px_lstore, px_iinc, px_iadd, px_isub, px_imul, px_iand, px_ior, px_ixor, px_ishl, px_ishr, px_iushr, px_ladd, px_lsub, px_lmul, px_land, px_lor, px_lcmp, px_lushr, px_lshl, px_ineg, px_i2l, px_l2i, px_idiv, px_irem, px_ldiv, px_lrem, px_dup0, px_pop0, px_dup2, px_pop2, px_dup2x, px_goto, px_if_eq, px_ic_eq, px_if_ne, px_ic_ne, px_if_lt, px_ic_lt, px_if_ge, px_ic_ge, px_if_gt, px_ic_gt, px_if_le, px_ic_le, px_ifnull, px_ifnonnull, px_lookupswitch, px_tableswitch, px_getfield, px_iaload, px_laload, px_caload, px_aaload, px_iastore, px_lastore, px_arraylength, px_putfield, px_ireturn, px_lreturn, px_areturn, px_return, px_iv0, px_is0, px_iv1, px_is1, px_iv2, px_is2, px_iv3, px_is3, px_iv4, px_is4, px_iv5, px_is5, px_iv6, px_is6, px_max, px_min, px_abs, px_maxJ, px_minJ, px_ii0, px_ii1, px_iio, px_copy, pz_cpk, pz_lk, pz_alk, pz_ask, pz_gfk, pz_lnk, pz_bx, pz_b, pz_z, pz_s1, pz_s2, pz_wt, pz_cmp, List.getElem?_cons_zero, List.getElem?_cons_succ, List.getElem?_nil, List.set_cons_zero, List.set_cons_succ, List.length_cons, List.length_nil, List.nil_append, List.cons_append, Option.toList_some, Option.toList_none, if_true, if_false, ite_true, ite_false, and_true, true_and, and_self, or_self, or_false, false_or, true_or, or_true, and_false, false_and, not_true_eq_false, not_false_eq_true, forall_const, ne_eq, reduceCtorEq, implies_true, false_implies, true_implies, Int.toNat_natCast, Nat.reduceAdd, Nat.reduceSub, Nat.reduceLT, Nat.reduceLeDiff, Nat.reduceEqDiff, Int.reduceLT, Int.reduceLE, Int.reduceToNat, Int.reduceNeg, Int.reduceEq, Int.reduceAdd, Nat.reduceMul, Int.reduceSub, Nat.reduceBEq, Int.reduceMul, Nat.add_zero, Nat.zero_add, Int.cast_ofNat_Int, Int.ofNat_eq_coe, decide_eq_true_eq, Nat.lt_irrefl, Nat.le_refl, List.getElem?_toArray, Option.elim_some, Option.elim_none, g_6, g_1, rf_6_0 hR1, e1, e2, e3, t3, e5]
          rw [t9]
          exact r
        | .inr w, a1, g1 =>
          obtain ⟨M3, t3, f3, w3, l', q3, q4⟩ := a1
          have t3 : pz_cal (d + 2) 39 [(2, 6), (0, k)] ((pz_SH, ss, 0, 0, dd), M2) = some (some (0, 0), ((pz_SH, ss, 0, 0, dd), M3)) := t3
          have hF3 := Pf_t hF2 f3
          have hR3 := Rf_Pf hR0 hF3
          obtain ⟨M4, t4, f4, u4, l4, q5, q6⟩ := c_emit2 (d := d + 1) (ss := ss) (dd := dd) (s := 2) (v := ch T n (bl T n p)) hR3 q3 q4 (by decide) (by omega)
          refine ⟨M4, ?_, Pf_t hF3 f4, by rw [u4]; exact w3, l4, q5, q6⟩
          have t9 : pz_p bl_Lt_term (pz_cal (d + 2)) 0 0 8 [] [(2, 6), (0, k), (0, 1), (0, (i : Int)), (t.1, t.2)] [] ((pz_SH, ss, 0, 0, dd), M) = pz_p bl_Lt_term (pz_cal (d + 2)) 0 0 8 [] [(2, 6), (0, k), (0, 0), (0, (i : Int) + 1), (0, ch T n (bl T n p))] [] ((pz_SH, ss, 0, 0, dd), M4) := by
            generalize ch T n (bl T n p) = cc at *
            rw [j_Lt_term_8]
            simp (maxSteps := 1000000) (disch := omega) only [↓reduceIte, sp_0, sp_s, Option.map_some, Option.map_none, Option.some.injEq, o_le, o_nle, o_lt, o_nlt, o_eq, o_neq, w32_id, nw_s, px_iconst, px_bipush, px_sipush, px_ldc, px_ldc_w, px_lconst, px_ldc2_w, px_aconst_null, px_getstatic, px_iload_n, px_iload, px_lload_n, px_lload, px_aload_n, px_aload, px_istore_n, px_istore, px_astore_n, px_astore, px_lstore_n, px_lstore, px_iinc, px_iadd, px_isub, px_imul, px_iand, px_ior, px_ixor, px_ishl, px_ishr, px_iushr, px_ladd, px_lsub, px_lmul, px_land, px_lor, px_lcmp, px_lushr, px_lshl, px_ineg, px_i2l, px_l2i, px_idiv, px_irem, px_ldiv, px_lrem, px_dup0, px_pop0, px_dup2, px_pop2, px_dup2x, px_goto, px_if_eq, px_ic_eq, px_if_ne, px_ic_ne, px_if_lt, px_ic_lt, px_if_ge, px_ic_ge, px_if_gt, px_ic_gt, px_if_le, px_ic_le, px_ifnull, px_ifnonnull, px_lookupswitch, px_tableswitch, px_getfield, px_iaload, px_laload, px_caload, px_aaload, px_iastore, px_lastore, px_arraylength, px_putfield, px_ireturn, px_lreturn, px_areturn, px_return, px_iv0, px_is0, px_iv1, px_is1, px_iv2, px_is2, px_iv3, px_is3, px_iv4, px_is4, px_iv5, px_is5, px_iv6, px_is6, px_max, px_min, px_abs, px_maxJ, px_minJ, px_ii0, px_ii1, px_iio, px_copy, pz_cpk, pz_lk, pz_alk, pz_ask, pz_gfk, pz_lnk, pz_bx, pz_b, pz_z, pz_s1, pz_s2, pz_wt, pz_cmp, List.getElem?_cons_zero, List.getElem?_cons_succ, List.getElem?_nil, List.set_cons_zero, List.set_cons_succ, List.length_cons, List.length_nil, List.nil_append, List.cons_append, Option.toList_some, Option.toList_none, if_true, if_false, ite_true, ite_false, and_true, true_and, and_self, or_self, or_false, false_or, true_or, or_true, and_false, false_and, not_true_eq_false, not_false_eq_true, forall_const, ne_eq, reduceCtorEq, implies_true, false_implies, true_implies, Int.toNat_natCast, Nat.reduceAdd, Nat.reduceSub, Nat.reduceLT, Nat.reduceLeDiff, Nat.reduceEqDiff, Int.reduceLT, Int.reduceLE, Int.reduceToNat, Int.reduceNeg, Int.reduceEq, Int.reduceAdd, Nat.reduceMul, Int.reduceSub, Nat.reduceBEq, Int.reduceMul, Nat.add_zero, Nat.zero_add, Int.cast_ofNat_Int, Int.ofNat_eq_coe, decide_eq_true_eq, Nat.lt_irrefl, Nat.le_refl, List.getElem?_toArray, Option.elim_some, Option.elim_none, g_6, g_1, rf_6_0 hR1, e1, e2, e3, t3, t4]
          rw [t9]
          exact bad M4 _ (0, _)
  have a1 := hA M0 p0 l0 ⟨hR0, hT0, h12, hp0, h62, hl0⟩ hL
  have g1 := hg p0 hp0
  unfold sq1
  match hz : g p0, a1, g1 with
  | .inl z, a1, g1 =>
    obtain ⟨M3, t3, f3, p3, w3, q3⟩ := a1
    have t3 : pz_cal (d + 2) 39 [(2, 6), (0, k)] ((pz_SH, ss, 0, 0, dd), M0) = some (some (0, 1), ((pz_SH, ss, 0, 0, dd), M3)) := t3
    have r := lp 240 0 z.1 z.2 M3 (9, 0) (by omega) (by omega) g1.1 (by have := g1.2.1; omega) f3 p3 w3 q3
    have t9 : pz_cal (d + 3) 38 [(2, 6), (0, k)] ((pz_SH, ss, 0, 0, dd), M0) = pz_p bl_Lt_term (pz_cal (d + 2)) 0 0 8 [] [(2, 6), (0, k), (0, 1), (0, ((0 : Nat) : Int)), (9, 0)] [] ((pz_SH, ss, 0, 0, dd), M3) := by
      show _ = pz_p bl_Lt_term (pz_cal (d + 2)) 0 0 8 [] [(2, 6), (0, k), (0, 1), (0, 0), (9, 0)] [] ((pz_SH, ss, 0, 0, dd), M3)
      simp (maxSteps := 1000000) (disch := omega) only [↓reduceIte, sp_0, sp_s, Option.map_some, Option.map_none, Option.some.injEq, o_le, o_nle, o_lt, o_nlt, o_eq, o_neq, w32_id, up_at, nw_at, nw_s, k_Lt_term, px_iconst, px_bipush, px_sipush, px_ldc, px_ldc_w, px_lconst, px_ldc2_w, px_aconst_null, px_getstatic, px_iload_n, px_iload, px_lload_n, px_lload, px_aload_n, px_aload, px_istore_n, px_istore, px_astore_n, px_astore, px_lstore_n, px_lstore, px_iinc, px_iadd, px_isub, px_imul, px_iand, px_ior, px_ixor, px_ishl, px_ishr, px_iushr, px_ladd, px_lsub, px_lmul, px_land, px_lor, px_lcmp, px_lushr, px_lshl, px_ineg, px_i2l, px_l2i, px_idiv, px_irem, px_ldiv, px_lrem, px_dup0, px_pop0, px_dup2, px_pop2, px_dup2x, px_goto, px_if_eq, px_ic_eq, px_if_ne, px_ic_ne, px_if_lt, px_ic_lt, px_if_ge, px_ic_ge, px_if_gt, px_ic_gt, px_if_le, px_ic_le, px_ifnull, px_ifnonnull, px_lookupswitch, px_tableswitch, px_getfield, px_iaload, px_laload, px_caload, px_aaload, px_iastore, px_lastore, px_arraylength, px_putfield, px_ireturn, px_lreturn, px_areturn, px_return, px_iv0, px_is0, px_iv1, px_is1, px_iv2, px_is2, px_iv3, px_is3, px_iv4, px_is4, px_iv5, px_is5, px_iv6, px_is6, px_max, px_min, px_abs, px_maxJ, px_minJ, px_ii0, px_ii1, px_iio, px_copy, pz_cpk, pz_lk, pz_alk, pz_ask, pz_gfk, pz_lnk, pz_bx, pz_b, pz_z, pz_s1, pz_s2, pz_wt, pz_cmp, List.getElem?_cons_zero, List.getElem?_cons_succ, List.getElem?_nil, List.set_cons_zero, List.set_cons_succ, List.length_cons, List.length_nil, List.nil_append, List.cons_append, Option.toList_some, Option.toList_none, if_true, if_false, ite_true, ite_false, and_true, true_and, and_self, or_self, or_false, false_or, true_or, or_true, and_false, false_and, not_true_eq_false, not_false_eq_true, forall_const, ne_eq, reduceCtorEq, implies_true, false_implies, true_implies, Int.toNat_natCast, Nat.reduceAdd, Nat.reduceSub, Nat.reduceLT, Nat.reduceLeDiff, Nat.reduceEqDiff, Int.reduceLT, Int.reduceLE, Int.reduceToNat, Int.reduceNeg, Int.reduceEq, Int.reduceAdd, Nat.reduceMul, Int.reduceSub, Nat.reduceBEq, Int.reduceMul, Nat.add_zero, Nat.zero_add, Int.cast_ofNat_Int, Int.ofNat_eq_coe, decide_eq_true_eq, Nat.lt_irrefl, Nat.le_refl, List.getElem?_toArray, Option.elim_some, Option.elim_none, j_Lt_term_0, g_6, t3]
    rw [t9]
    exact r
  | .inr w, a1, g1 =>
    obtain ⟨M3, t3, f3, w3, l', q3, q4⟩ := a1
    have t3 : pz_cal (d + 2) 39 [(2, 6), (0, k)] ((pz_SH, ss, 0, 0, dd), M0) = some (some (0, 0), ((pz_SH, ss, 0, 0, dd), M3)) := t3
    refine ⟨M3, ?_, f3, w3, l', q3, q4⟩
    have t9 : pz_cal (d + 3) 38 [(2, 6), (0, k)] ((pz_SH, ss, 0, 0, dd), M0) = pz_p bl_Lt_term (pz_cal (d + 2)) 0 0 8 [] [(2, 6), (0, k), (0, 0), (0, 0), (9, 0)] [] ((pz_SH, ss, 0, 0, dd), M3) := by
      simp (maxSteps := 1000000) (disch := omega) only [↓reduceIte, sp_0, sp_s, Option.map_some, Option.map_none, Option.some.injEq, o_le, o_nle, o_lt, o_nlt, o_eq, o_neq, w32_id, up_at, nw_at, nw_s, k_Lt_term, px_iconst, px_bipush, px_sipush, px_ldc, px_ldc_w, px_lconst, px_ldc2_w, px_aconst_null, px_getstatic, px_iload_n, px_iload, px_lload_n, px_lload, px_aload_n, px_aload, px_istore_n, px_istore, px_astore_n, px_astore, px_lstore_n, px_lstore, px_iinc, px_iadd, px_isub, px_imul, px_iand, px_ior, px_ixor, px_ishl, px_ishr, px_iushr, px_ladd, px_lsub, px_lmul, px_land, px_lor, px_lcmp, px_lushr, px_lshl, px_ineg, px_i2l, px_l2i, px_idiv, px_irem, px_ldiv, px_lrem, px_dup0, px_pop0, px_dup2, px_pop2, px_dup2x, px_goto, px_if_eq, px_ic_eq, px_if_ne, px_ic_ne, px_if_lt, px_ic_lt, px_if_ge, px_ic_ge, px_if_gt, px_ic_gt, px_if_le, px_ic_le, px_ifnull, px_ifnonnull, px_lookupswitch, px_tableswitch, px_getfield, px_iaload, px_laload, px_caload, px_aaload, px_iastore, px_lastore, px_arraylength, px_putfield, px_ireturn, px_lreturn, px_areturn, px_return, px_iv0, px_is0, px_iv1, px_is1, px_iv2, px_is2, px_iv3, px_is3, px_iv4, px_is4, px_iv5, px_is5, px_iv6, px_is6, px_max, px_min, px_abs, px_maxJ, px_minJ, px_ii0, px_ii1, px_iio, px_copy, pz_cpk, pz_lk, pz_alk, pz_ask, pz_gfk, pz_lnk, pz_bx, pz_b, pz_z, pz_s1, pz_s2, pz_wt, pz_cmp, List.getElem?_cons_zero, List.getElem?_cons_succ, List.getElem?_nil, List.set_cons_zero, List.set_cons_succ, List.length_cons, List.length_nil, List.nil_append, List.cons_append, Option.toList_some, Option.toList_none, if_true, if_false, ite_true, ite_false, and_true, true_and, and_self, or_self, or_false, false_or, true_or, or_true, and_false, false_and, not_true_eq_false, not_false_eq_true, forall_const, ne_eq, reduceCtorEq, implies_true, false_implies, true_implies, Int.toNat_natCast, Nat.reduceAdd, Nat.reduceSub, Nat.reduceLT, Nat.reduceLeDiff, Nat.reduceEqDiff, Int.reduceLT, Int.reduceLE, Int.reduceToNat, Int.reduceNeg, Int.reduceEq, Int.reduceAdd, Nat.reduceMul, Int.reduceSub, Nat.reduceBEq, Int.reduceMul, Nat.add_zero, Nat.zero_add, Int.cast_ofNat_Int, Int.ofNat_eq_coe, decide_eq_true_eq, Nat.lt_irrefl, Nat.le_refl, List.getElem?_toArray, Option.elim_some, Option.elim_none, j_Lt_term_0, g_6, t3]
    rw [t9]
    exact bad M3 _ (9, 0)
set_option maxRecDepth 100000 in
theorem c_sum {g : Nat → Rs Ex} {h : Nat} {k : Int} (hg : ∀ p, p ≤ n → Gr n p h False (g p)) (hA : ∀ M p l, Sc M T n p l → LLt M → Rc M l (fun v M' => some (some (0, v), ((pz_SH, ss, 0, 0, dd), M'))) (pz_cal (d + 2) 38 [(2, 6), (0, k)] ((pz_SH, ss, 0, 0, dd), M)) (g p)) : ∀ M p l, Sc M T n p l → LLt M → Rc M l (fun v M' => some (some (0, v), ((pz_SH, ss, 0, 0, dd), M'))) (pz_cal (d + 3) 37 [(2, 6), (0, k)] ((pz_SH, ss, 0, 0, dd), M)) (sq1 T n oPm g p) := by
  intro M0 p0 l0 hS hL
  obtain ⟨hR0, hT0, h12, hp0, h62, hl0⟩ := hS
  have n240 := hT0.2.1
  have bad : ∀ (M : pz_M) (i : Int) (t : pz_V) , pz_p bl_Lt_sum (pz_cal (d + 2)) 0 0 8 [] [(2, 6), (0, k), (0, 0), (0, i), (t.1, t.2)] [] ((pz_SH, ss, 0, 0, dd), M) = some (some (0, 0), ((pz_SH, ss, 0, 0, dd), M)) := by
    intro M i t
    rw [j_Lt_sum_8]
    simp (maxSteps := 1000000) (disch := omega) only [↓reduceIte, sp_0, sp_s, Option.map_some, Option.map_none, Option.some.injEq, o_le, o_nle, o_lt, o_nlt, o_eq, o_neq, w32_id, nw_s, px_iconst, px_bipush, px_sipush, px_ldc, px_ldc_w, px_lconst, px_ldc2_w, px_aconst_null, px_getstatic, px_iload_n, px_iload, px_lload_n, px_lload, px_aload_n, px_aload, px_istore_n, px_istore, px_astore_n, px_astore, px_lstore_n, px_lstore, px_iinc, px_iadd, px_isub, px_imul, px_iand, px_ior, px_ixor, px_ishl, px_ishr, px_iushr, px_ladd, px_lsub, px_lmul, px_land, px_lor, px_lcmp, px_lushr, px_lshl, px_ineg, px_i2l, px_l2i, px_idiv, px_irem, px_ldiv, px_lrem, px_dup0, px_pop0, px_dup2, px_pop2, px_dup2x, px_goto, px_if_eq, px_ic_eq, px_if_ne, px_ic_ne, px_if_lt, px_ic_lt, px_if_ge, px_ic_ge, px_if_gt, px_ic_gt, px_if_le, px_ic_le, px_ifnull, px_ifnonnull, px_lookupswitch, px_tableswitch, px_getfield, px_iaload, px_laload, px_caload, px_aaload, px_iastore, px_lastore, px_arraylength, px_putfield, px_ireturn, px_lreturn, px_areturn, px_return, px_iv0, px_is0, px_iv1, px_is1, px_iv2, px_is2, px_iv3, px_is3, px_iv4, px_is4, px_iv5, px_is5, px_iv6, px_is6, px_max, px_min, px_abs, px_maxJ, px_minJ, px_ii0, px_ii1, px_iio, px_copy, pz_cpk, pz_lk, pz_alk, pz_ask, pz_gfk, pz_lnk, pz_bx, pz_b, pz_z, pz_s1, pz_s2, pz_wt, pz_cmp, List.getElem?_cons_zero, List.getElem?_cons_succ, List.getElem?_nil, List.set_cons_zero, List.set_cons_succ, List.length_cons, List.length_nil, List.nil_append, List.cons_append, Option.toList_some, Option.toList_none, if_true, if_false, ite_true, ite_false, and_true, true_and, and_self, or_self, or_false, false_or, true_or, or_true, and_false, false_and, not_true_eq_false, not_false_eq_true, forall_const, ne_eq, reduceCtorEq, implies_true, false_implies, true_implies, Int.toNat_natCast, Nat.reduceAdd, Nat.reduceSub, Nat.reduceLT, Nat.reduceLeDiff, Nat.reduceEqDiff, Int.reduceLT, Int.reduceLE, Int.reduceToNat, Int.reduceNeg, Int.reduceEq, Int.reduceAdd, Nat.reduceMul, Int.reduceSub, Nat.reduceBEq, Int.reduceMul, Nat.add_zero, Nat.zero_add, Int.cast_ofNat_Int, Int.ofNat_eq_coe, decide_eq_true_eq, Nat.lt_irrefl, Nat.le_refl, List.getElem?_toArray, Option.elim_some, Option.elim_none, j_Lt_sum_65]
  have lp : ∀ (f i : Nat) (e : Ex) (p : Nat) (M : pz_M) (t : pz_V), i + f = 240 → i ≤ p → p ≤ n → l0 + e.1.length ≤ p → Pf M0 M → M 1 2 = (p : Int) → M 1 3 = M0 1 3 → Ap M0 M l0 e.1 → Rc M0 l0 (fun v M' => some (some (0, v), ((pz_SH, ss, 0, 0, dd), M'))) (pz_p bl_Lt_sum (pz_cal (d + 2)) 0 0 8 [] [(2, 6), (0, k), (0, 1), (0, (i : Int)), (t.1, t.2)] [] ((pz_SH, ss, 0, 0, dd), M)) (chn T n oPm g f e p) := by
    intro f
    induction f with
    | zero =>
      intro i e p M t hi hip hp hl hF h2 h3 hAp
      have hb : bl T n p = p := bl_e (by omega)
      unfold chn
      rw [hb]
      refine ⟨M, ?_, hF, h2, h3, hAp⟩
      show _ = some (some (0, 1), ((pz_SH, ss, 0, 0, dd), M))
      rw [j_Lt_sum_8]
      simp (maxSteps := 1000000) (disch := omega) only [↓reduceIte, sp_0, sp_s, Option.map_some, Option.map_none, Option.some.injEq, o_le, o_nle, o_lt, o_nlt, o_eq, o_neq, w32_id, nw_s, px_iconst, px_bipush, px_sipush, px_ldc, px_ldc_w, px_lconst, px_ldc2_w, px_aconst_null, px_getstatic, px_iload_n, px_iload, px_lload_n, px_lload, px_aload_n, px_aload, px_istore_n, px_istore, px_astore_n, px_astore, px_lstore_n, px_lstore, px_iinc, px_iadd, px_isub, px_imul, px_iand, px_ior, px_ixor, px_ishl, px_ishr, px_iushr, px_ladd, px_lsub, px_lmul, px_land, px_lor, px_lcmp, px_lushr, px_lshl, px_ineg, px_i2l, px_l2i, px_idiv, px_irem, px_ldiv, px_lrem, px_dup0, px_pop0, px_dup2, px_pop2, px_dup2x, px_goto, px_if_eq, px_ic_eq, px_if_ne, px_ic_ne, px_if_lt, px_ic_lt, px_if_ge, px_ic_ge, px_if_gt, px_ic_gt, px_if_le, px_ic_le, px_ifnull, px_ifnonnull, px_lookupswitch, px_tableswitch, px_getfield, px_iaload, px_laload, px_caload, px_aaload, px_iastore, px_lastore, px_arraylength, px_putfield, px_ireturn, px_lreturn, px_areturn, px_return, px_iv0, px_is0, px_iv1, px_is1, px_iv2, px_is2, px_iv3, px_is3, px_iv4, px_is4, px_iv5, px_is5, px_iv6, px_is6, px_max, px_min, px_abs, px_maxJ, px_minJ, px_ii0, px_ii1, px_iio, px_copy, pz_cpk, pz_lk, pz_alk, pz_ask, pz_gfk, pz_lnk, pz_bx, pz_b, pz_z, pz_s1, pz_s2, pz_wt, pz_cmp, List.getElem?_cons_zero, List.getElem?_cons_succ, List.getElem?_nil, List.set_cons_zero, List.set_cons_succ, List.length_cons, List.length_nil, List.nil_append, List.cons_append, Option.toList_some, Option.toList_none, if_true, if_false, ite_true, ite_false, and_true, true_and, and_self, or_self, or_false, false_or, true_or, or_true, and_false, false_and, not_true_eq_false, not_false_eq_true, forall_const, ne_eq, reduceCtorEq, implies_true, false_implies, true_implies, Int.toNat_natCast, Nat.reduceAdd, Nat.reduceSub, Nat.reduceLT, Nat.reduceLeDiff, Nat.reduceEqDiff, Int.reduceLT, Int.reduceLE, Int.reduceToNat, Int.reduceNeg, Int.reduceEq, Int.reduceAdd, Nat.reduceMul, Int.reduceSub, Nat.reduceBEq, Int.reduceMul, Nat.add_zero, Nat.zero_add, Int.cast_ofNat_Int, Int.ofNat_eq_coe, decide_eq_true_eq, Nat.lt_irrefl, Nat.le_refl, List.getElem?_toArray, Option.elim_some, Option.elim_none, j_Lt_sum_65]
    | succ f ih =>
      intro i e p M t hi hip hp hl hF h2 h3 hAp
      have hR := Rf_Pf hR0 hF
      have hT := TC_Pf hT0 hF
      have b1 := bl_le (T := T) hp
      have b2 := bl_ge (T := T) (n := n) (p := p)
      have e1 := c_isEither (d := d) (ss := ss) (dd := dd) (a := 43) (b := 45) hR hT h2 hp
      have hR1 : Rf (pz_up M 1 2 (bl T n p : Int)) := Rf_up hR (by decide +kernel)
      have hT1 : TC (pz_up M 1 2 (bl T n p : Int)) T n := TC_up hT (by decide) (by decide)
      have h21 : pz_up M 1 2 (bl T n p : Int) 1 2 = (bl T n p : Int) := by rw [up_at, if_pos ⟨rfl, rfl⟩]
      have hF1 : Pf M (pz_up M 1 2 (bl T n p : Int)) := Pf_up (.inl ⟨rfl, .inl rfl⟩)
      unfold chn
      by_cases c : oPm (ch T n (bl T n p)) = 0
      · have nc : ¬(ch T n (bl T n p) = 43 ∨ ch T n (bl T n p) = 45) := fun h => by
          unfold oPm at c
          rcases h with h | h
          · rw [if_pos h] at c; omega
          · rw [if_neg (by omega), if_pos h] at c; omega
        rw [if_neg nc] at e1
        rw [if_pos c]
        refine ⟨pz_up M 1 2 (bl T n p : Int), ?_, Pf_t hF hF1, h21, by rw [up_at, if_neg (by omega)]; exact h3, ?_⟩
        · show _ = some (some (0, 1), ((pz_SH, ss, 0, 0, dd), pz_up M 1 2 (bl T n p : Int)))
          generalize pz_up M 1 2 (bl T n p : Int) = M1 at *
          rw [j_Lt_sum_8]
          simp (maxSteps := 1000000) (disch := omega) only [↓reduceIte, sp_0, sp_s, Option.map_some, Option.map_none, Option.some.injEq, o_le, o_nle, o_lt, o_nlt, o_eq, o_neq, w32_id, nw_s, px_iconst, px_bipush, px_sipush, px_ldc, px_ldc_w, px_lconst, px_ldc2_w, px_aconst_null, px_getstatic, px_iload_n, px_iload, px_lload_n, px_lload, px_aload_n, px_aload, px_istore_n, px_istore, px_astore_n, px_astore, px_lstore_n, px_lstore, px_iinc, px_iadd, px_isub, px_imul, px_iand, px_ior, px_ixor, px_ishl, px_ishr, px_iushr, px_ladd, px_lsub, px_lmul, px_land, px_lor, px_lcmp, px_lushr, px_lshl, px_ineg, px_i2l, px_l2i, px_idiv, px_irem, px_ldiv, px_lrem, px_dup0, px_pop0, px_dup2, px_pop2, px_dup2x, px_goto, px_if_eq, px_ic_eq, px_if_ne, px_ic_ne, px_if_lt, px_ic_lt, px_if_ge, px_ic_ge, px_if_gt, px_ic_gt, px_if_le, px_ic_le, px_ifnull, px_ifnonnull, px_lookupswitch, px_tableswitch, px_getfield, px_iaload, px_laload, px_caload, px_aaload, px_iastore, px_lastore, px_arraylength, px_putfield, px_ireturn, px_lreturn, px_areturn, px_return, px_iv0, px_is0, px_iv1, px_is1, px_iv2, px_is2, px_iv3, px_is3, px_iv4, px_is4, px_iv5, px_is5, px_iv6, px_is6, px_max, px_min, px_abs, px_maxJ, px_minJ, px_ii0, px_ii1, px_iio, px_copy, pz_cpk, pz_lk, pz_alk, pz_ask, pz_gfk, pz_lnk, pz_bx, pz_b, pz_z, pz_s1, pz_s2, pz_wt, pz_cmp, List.getElem?_cons_zero, List.getElem?_cons_succ, List.getElem?_nil, List.set_cons_zero, List.set_cons_succ, List.length_cons, List.length_nil, List.nil_append, List.cons_append, Option.toList_some, Option.toList_none, if_true, if_false, ite_true, ite_false, and_true, true_and, and_self, or_self, or_false, false_or, true_or, or_true, and_false, false_and, not_true_eq_false, not_false_eq_true, forall_const, ne_eq, reduceCtorEq, implies_true, false_implies, true_implies, Int.toNat_natCast, Nat.reduceAdd, Nat.reduceSub, Nat.reduceLT, Nat.reduceLeDiff, Nat.reduceEqDiff, Int.reduceLT, Int.reduceLE, Int.reduceToNat, Int.reduceNeg, Int.reduceEq, Int.reduceAdd, Nat.reduceMul, Int.reduceSub, Nat.reduceBEq, Int.reduceMul, Nat.add_zero, Nat.zero_add, Int.cast_ofNat_Int, Int.ofNat_eq_coe, decide_eq_true_eq, Nat.lt_irrefl, Nat.le_refl, List.getElem?_toArray, Option.elim_some, Option.elim_none, j_Lt_sum_65, g_6, e1]
        · exact ⟨by rw [up_at, if_neg (by omega)]; exact hAp.1, fun j hj => by rw [up_at, if_neg (by omega)]; exact hAp.2.1 j hj, fun j u hu => by rw [up_at, if_neg (by omega)]; exact hAp.2.2 j u hu⟩
      · have yc : ch T n (bl T n p) = 43 ∨ ch T n (bl T n p) = 45 := by
          by_cases g1 : ch T n (bl T n p) = 43
          · exact .inl g1
          · by_cases g2 : ch T n (bl T n p) = 45
            · exact .inr g2
            · exfalso; apply c; unfold oPm; rw [if_neg g1, if_neg g2]
        have es : sgn (oPm (ch T n (bl T n p))) = ch T n (bl T n p) := by
          unfold oPm
          rcases yc with h | h <;> rw [h] <;> decide
        have cr : 0 ≤ ch T n (bl T n p) ∧ ch T n (bl T n p) ≤ 200 := by omega
        have b3 : bl T n p < n := ch_lt (T := T) rfl (by omega)
        have en : enc (oPm (ch T n (bl T n p)), 0) = 2 * 10000 + ch T n (bl T n p) := by
          unfold enc
          have : oPm (ch T n (bl T n p)) = 2 ∨ oPm (ch T n (bl T n p)) = 3 := by
            unfold oPm
            rcases yc with h | h <;> rw [h] <;> decide
          rw [if_neg (by omega), if_neg (by omega)]
          show 20000 + sgn (oPm (ch T n (bl T n p))) = _
          rw [es]; omega
        rw [if_pos yc] at e1
        rw [if_neg c]
        have e2 := c_sign (d := d + 1) (ss := ss) (dd := dd) hR1 hT1 h21 b1
        rw [bl_bl, up_up2] at e2
        have e3 := c_step (d := d + 1) (ss := ss) (dd := dd) h21 (by omega)
        rw [up_up2] at e3
        have hF2 : Pf M0 (pz_up M 1 2 ((bl T n p : Int) + 1)) := Pf_t hF (Pf_up (.inl ⟨rfl, .inl rfl⟩))
        have hA2 : Ap M0 (pz_up M 1 2 ((bl T n p : Int) + 1)) l0 e.1 := ⟨by rw [up_at, if_neg (by omega)]; exact hAp.1, fun j hj => by rw [up_at, if_neg (by omega)]; exact hAp.2.1 j hj, fun j u hu => by rw [up_at, if_neg (by omega)]; exact hAp.2.2 j u hu⟩
        have h32 : pz_up M 1 2 ((bl T n p : Int) + 1) 1 3 = M0 1 3 := by rw [up_at, if_neg (by omega)]; exact h3
        have h22 : pz_up M 1 2 ((bl T n p : Int) + 1) 1 2 = ((bl T n p + 1 : Nat) : Int) := by rw [up_at, if_pos ⟨rfl, rfl⟩]; rfl
        have hR2 := Rf_Pf hR0 hF2
        generalize pz_up M 1 2 ((bl T n p : Int) + 1) = M2 at *
        have a1 := hA M2 (bl T n p + 1) (l0 + e.1.length) ⟨hR2, TC_Pf hT0 hF2, h22, by omega, hA2.1, by omega⟩ (by unfold LLt; rw [hF2.1 4105 (by decide) (by decide) (by decide)]; exact hL)
        have g1 := hg (bl T n p + 1) (by omega)
        generalize pz_up M 1 2 (bl T n p : Int) = M1 at *
        match hz : g (bl T n p + 1), a1, g1 with
        | .inl z, a1, g1 =>
          obtain ⟨M3, t3, f3, p3, w3, q3⟩ := a1
          have t3 : pz_cal (d + 2) 38 [(2, 6), (0, k)] ((pz_SH, ss, 0, 0, dd), M2) = some (some (0, 1), ((pz_SH, ss, 0, 0, dd), M3)) := t3
          have g2 := g1.1
          have g3 := g1.2.1
          have hF3 := Pf_t hF2 f3
          have hR3 := Rf_Pf hR0 hF3
          have hA3 := Ap_t hA2 q3
          have hA4 := Ap_t hA3 (Ap_1 (M := M3) (l := l0 + (e.1 ++ z.1.1).length) (t := (oPm (ch T n (bl T n p)), 0)) en.symm)
          have e5 := c_emit (d := d + 1) (ss := ss) (dd := dd) (s := 2) (v := ch T n (bl T n p)) hR3 hA3.1 (by rw [List.length_append]; omega) (by decide) (by omega)
          have r := ih (i + 1) (xbin (oPm (ch T n (bl T n p))) e z.1) z.2 _ (0, ch T n (bl T n p)) (by omega) (by omega) g2 (by rw [xbin_len]; omega) (Pf_t hF3 (Pf_t (Pf_up (.inr (.inr rfl))) (Pf_up (.inr (.inl ⟨rfl, rfl⟩))))) (by rw [up_at, if_neg (by omega), up_at, if_neg (by omega)]; exact p3) (by rw [up_at, if_neg (by omega), up_at, if_neg (by omega), w3]; exact h32) hA4
          generalize pz_up (pz_up M3 7 (l0 + (e.1 ++ z.1.1).length) (2 * 10000 + ch T n (bl T n p))) 6 2 (((l0 + (e.1 ++ z.1.1).length : Nat) : Int) + 1) = M4 at *
          have t9 : pz_p bl_Lt_sum (pz_cal (d + 2)) 0 0 8 [] [(2, 6), (0, k), (0, 1), (0, (i : Int)), (t.1, t.2)] [] ((pz_SH, ss, 0, 0, dd), M) = pz_p bl_Lt_sum (pz_cal (d + 2)) 0 0 8 [] [(2, 6), (0, k), (0, 1), (0, ((i + 1 : Nat) : Int)), (0, ch T n (bl T n p))] [] ((pz_SH, ss, 0, 0, dd), M4) := by
            generalize ch T n (bl T n p) = cc at *
            show _ = pz_p bl_Lt_sum (pz_cal (d + 2)) 0 0 8 [] [(2, 6), (0, k), (0, 1), (0, (i : Int) + 1), (0, cc)] [] ((pz_SH, ss, 0, 0, dd), M4)
            rw [j_Lt_sum_8]
            simp (maxSteps := 1000000) (disch := omega) only [↓reduceIte, sp_0, sp_s, Option.map_some, Option.map_none, Option.some.injEq, o_le, o_nle, o_lt, o_nlt, o_eq, o_neq, w32_id, nw_s, px_iconst, px_bipush, px_sipush, px_ldc, px_ldc_w, px_lconst, px_ldc2_w, px_aconst_null, px_getstatic, px_iload_n, px_iload, px_lload_n, px_lload, px_aload_n, px_aload, px_istore_n, px_istore, px_astore_n, px_astore, px_lstore_n, px_lstore, px_iinc, px_iadd, px_isub, px_imul, px_iand, px_ior, px_ixor, px_ishl, px_ishr, px_iushr, px_ladd, px_lsub, px_lmul, px_land, px_lor, px_lcmp, px_lushr, px_lshl, px_ineg, px_i2l, px_l2i, px_idiv, px_irem, px_ldiv, px_lrem, px_dup0, px_pop0, px_dup2, px_pop2, px_dup2x, px_goto, px_if_eq, px_ic_eq, px_if_ne, px_ic_ne, px_if_lt, px_ic_lt, px_if_ge, px_ic_ge, px_if_gt, px_ic_gt, px_if_le, px_ic_le, px_ifnull, px_ifnonnull, px_lookupswitch, px_tableswitch, px_getfield, px_iaload, px_laload, px_caload, px_aaload, px_iastore, px_lastore, px_arraylength, px_putfield, px_ireturn, px_lreturn, px_areturn, px_return, px_iv0, px_is0, px_iv1, px_is1, px_iv2, px_is2, px_iv3, px_is3, px_iv4, px_is4, px_iv5, px_is5, px_iv6, px_is6, px_max, px_min, px_abs, px_maxJ, px_minJ, px_ii0, px_ii1, px_iio, px_copy, pz_cpk, pz_lk, pz_alk, pz_ask, pz_gfk, pz_lnk, pz_bx, pz_b, pz_z, pz_s1, pz_s2, pz_wt, pz_cmp, List.getElem?_cons_zero, List.getElem?_cons_succ, List.getElem?_nil, List.set_cons_zero, List.set_cons_succ, List.length_cons, List.length_nil, List.nil_append, List.cons_append, Option.toList_some, Option.toList_none, if_true, if_false, ite_true, ite_false, and_true, true_and, and_self, or_self, or_false, false_or, true_or, or_true, and_false, false_and, not_true_eq_false, not_false_eq_true, forall_const, ne_eq, reduceCtorEq, implies_true, false_implies, true_implies, Int.toNat_natCast, Nat.reduceAdd, Nat.reduceSub, Nat.reduceLT, Nat.reduceLeDiff, Nat.reduceEqDiff, Int.reduceLT, Int.reduceLE, Int.reduceToNat, Int.reduceNeg, Int.reduceEq, Int.reduceAdd, Nat.reduceMul, Int.reduceSub, Nat.reduceBEq, Int.reduceMul, Nat.add_zero, Nat.zero_add, Int.cast_ofNat_Int, Int.ofNat_eq_coe, decide_eq_true_eq, Nat.lt_irrefl, Nat.le_refl, List.getElem?_toArray, Option.elim_some, Option.elim_none, g_6, g_1, rf_6_0 hR1, e1, e2, e3, t3, e5]
          rw [t9]
          exact r
        | .inr w, a1, g1 =>
          obtain ⟨M3, t3, f3, w3, l', q3, q4⟩ := a1
          have t3 : pz_cal (d + 2) 38 [(2, 6), (0, k)] ((pz_SH, ss, 0, 0, dd), M2) = some (some (0, 0), ((pz_SH, ss, 0, 0, dd), M3)) := t3
          have hF3 := Pf_t hF2 f3
          have hR3 := Rf_Pf hR0 hF3
          obtain ⟨M4, t4, f4, u4, l4, q5, q6⟩ := c_emit2 (d := d + 1) (ss := ss) (dd := dd) (s := 2) (v := ch T n (bl T n p)) hR3 q3 q4 (by decide) (by omega)
          refine ⟨M4, ?_, Pf_t hF3 f4, by rw [u4]; exact w3, l4, q5, q6⟩
          have t9 : pz_p bl_Lt_sum (pz_cal (d + 2)) 0 0 8 [] [(2, 6), (0, k), (0, 1), (0, (i : Int)), (t.1, t.2)] [] ((pz_SH, ss, 0, 0, dd), M) = pz_p bl_Lt_sum (pz_cal (d + 2)) 0 0 8 [] [(2, 6), (0, k), (0, 0), (0, (i : Int) + 1), (0, ch T n (bl T n p))] [] ((pz_SH, ss, 0, 0, dd), M4) := by
            generalize ch T n (bl T n p) = cc at *
            rw [j_Lt_sum_8]
            simp (maxSteps := 1000000) (disch := omega) only [↓reduceIte, sp_0, sp_s, Option.map_some, Option.map_none, Option.some.injEq, o_le, o_nle, o_lt, o_nlt, o_eq, o_neq, w32_id, nw_s, px_iconst, px_bipush, px_sipush, px_ldc, px_ldc_w, px_lconst, px_ldc2_w, px_aconst_null, px_getstatic, px_iload_n, px_iload, px_lload_n, px_lload, px_aload_n, px_aload, px_istore_n, px_istore, px_astore_n, px_astore, px_lstore_n, px_lstore, px_iinc, px_iadd, px_isub, px_imul, px_iand, px_ior, px_ixor, px_ishl, px_ishr, px_iushr, px_ladd, px_lsub, px_lmul, px_land, px_lor, px_lcmp, px_lushr, px_lshl, px_ineg, px_i2l, px_l2i, px_idiv, px_irem, px_ldiv, px_lrem, px_dup0, px_pop0, px_dup2, px_pop2, px_dup2x, px_goto, px_if_eq, px_ic_eq, px_if_ne, px_ic_ne, px_if_lt, px_ic_lt, px_if_ge, px_ic_ge, px_if_gt, px_ic_gt, px_if_le, px_ic_le, px_ifnull, px_ifnonnull, px_lookupswitch, px_tableswitch, px_getfield, px_iaload, px_laload, px_caload, px_aaload, px_iastore, px_lastore, px_arraylength, px_putfield, px_ireturn, px_lreturn, px_areturn, px_return, px_iv0, px_is0, px_iv1, px_is1, px_iv2, px_is2, px_iv3, px_is3, px_iv4, px_is4, px_iv5, px_is5, px_iv6, px_is6, px_max, px_min, px_abs, px_maxJ, px_minJ, px_ii0, px_ii1, px_iio, px_copy, pz_cpk, pz_lk, pz_alk, pz_ask, pz_gfk, pz_lnk, pz_bx, pz_b, pz_z, pz_s1, pz_s2, pz_wt, pz_cmp, List.getElem?_cons_zero, List.getElem?_cons_succ, List.getElem?_nil, List.set_cons_zero, List.set_cons_succ, List.length_cons, List.length_nil, List.nil_append, List.cons_append, Option.toList_some, Option.toList_none, if_true, if_false, ite_true, ite_false, and_true, true_and, and_self, or_self, or_false, false_or, true_or, or_true, and_false, false_and, not_true_eq_false, not_false_eq_true, forall_const, ne_eq, reduceCtorEq, implies_true, false_implies, true_implies, Int.toNat_natCast, Nat.reduceAdd, Nat.reduceSub, Nat.reduceLT, Nat.reduceLeDiff, Nat.reduceEqDiff, Int.reduceLT, Int.reduceLE, Int.reduceToNat, Int.reduceNeg, Int.reduceEq, Int.reduceAdd, Nat.reduceMul, Int.reduceSub, Nat.reduceBEq, Int.reduceMul, Nat.add_zero, Nat.zero_add, Int.cast_ofNat_Int, Int.ofNat_eq_coe, decide_eq_true_eq, Nat.lt_irrefl, Nat.le_refl, List.getElem?_toArray, Option.elim_some, Option.elim_none, g_6, g_1, rf_6_0 hR1, e1, e2, e3, t3, t4]
          rw [t9]
          exact bad M4 _ (0, _)
  have a1 := hA M0 p0 l0 ⟨hR0, hT0, h12, hp0, h62, hl0⟩ hL
  have g1 := hg p0 hp0
  unfold sq1
  match hz : g p0, a1, g1 with
  | .inl z, a1, g1 =>
    obtain ⟨M3, t3, f3, p3, w3, q3⟩ := a1
    have t3 : pz_cal (d + 2) 38 [(2, 6), (0, k)] ((pz_SH, ss, 0, 0, dd), M0) = some (some (0, 1), ((pz_SH, ss, 0, 0, dd), M3)) := t3
    have r := lp 240 0 z.1 z.2 M3 (9, 0) (by omega) (by omega) g1.1 (by have := g1.2.1; omega) f3 p3 w3 q3
    have t9 : pz_cal (d + 3) 37 [(2, 6), (0, k)] ((pz_SH, ss, 0, 0, dd), M0) = pz_p bl_Lt_sum (pz_cal (d + 2)) 0 0 8 [] [(2, 6), (0, k), (0, 1), (0, ((0 : Nat) : Int)), (9, 0)] [] ((pz_SH, ss, 0, 0, dd), M3) := by
      show _ = pz_p bl_Lt_sum (pz_cal (d + 2)) 0 0 8 [] [(2, 6), (0, k), (0, 1), (0, 0), (9, 0)] [] ((pz_SH, ss, 0, 0, dd), M3)
      simp (maxSteps := 1000000) (disch := omega) only [↓reduceIte, sp_0, sp_s, Option.map_some, Option.map_none, Option.some.injEq, o_le, o_nle, o_lt, o_nlt, o_eq, o_neq, w32_id, up_at, nw_at, nw_s, k_Lt_sum, px_iconst, px_bipush, px_sipush, px_ldc, px_ldc_w, px_lconst, px_ldc2_w, px_aconst_null, px_getstatic, px_iload_n, px_iload, px_lload_n, px_lload, px_aload_n, px_aload, px_istore_n, px_istore, px_astore_n, px_astore, px_lstore_n, px_lstore, px_iinc, px_iadd, px_isub, px_imul, px_iand, px_ior, px_ixor, px_ishl, px_ishr, px_iushr, px_ladd, px_lsub, px_lmul, px_land, px_lor, px_lcmp, px_lushr, px_lshl, px_ineg, px_i2l, px_l2i, px_idiv, px_irem, px_ldiv, px_lrem, px_dup0, px_pop0, px_dup2, px_pop2, px_dup2x, px_goto, px_if_eq, px_ic_eq, px_if_ne, px_ic_ne, px_if_lt, px_ic_lt, px_if_ge, px_ic_ge, px_if_gt, px_ic_gt, px_if_le, px_ic_le, px_ifnull, px_ifnonnull, px_lookupswitch, px_tableswitch, px_getfield, px_iaload, px_laload, px_caload, px_aaload, px_iastore, px_lastore, px_arraylength, px_putfield, px_ireturn, px_lreturn, px_areturn, px_return, px_iv0, px_is0, px_iv1, px_is1, px_iv2, px_is2, px_iv3, px_is3, px_iv4, px_is4, px_iv5, px_is5, px_iv6, px_is6, px_max, px_min, px_abs, px_maxJ, px_minJ, px_ii0, px_ii1, px_iio, px_copy, pz_cpk, pz_lk, pz_alk, pz_ask, pz_gfk, pz_lnk, pz_bx, pz_b, pz_z, pz_s1, pz_s2, pz_wt, pz_cmp, List.getElem?_cons_zero, List.getElem?_cons_succ, List.getElem?_nil, List.set_cons_zero, List.set_cons_succ, List.length_cons, List.length_nil, List.nil_append, List.cons_append, Option.toList_some, Option.toList_none, if_true, if_false, ite_true, ite_false, and_true, true_and, and_self, or_self, or_false, false_or, true_or, or_true, and_false, false_and, not_true_eq_false, not_false_eq_true, forall_const, ne_eq, reduceCtorEq, implies_true, false_implies, true_implies, Int.toNat_natCast, Nat.reduceAdd, Nat.reduceSub, Nat.reduceLT, Nat.reduceLeDiff, Nat.reduceEqDiff, Int.reduceLT, Int.reduceLE, Int.reduceToNat, Int.reduceNeg, Int.reduceEq, Int.reduceAdd, Nat.reduceMul, Int.reduceSub, Nat.reduceBEq, Int.reduceMul, Nat.add_zero, Nat.zero_add, Int.cast_ofNat_Int, Int.ofNat_eq_coe, decide_eq_true_eq, Nat.lt_irrefl, Nat.le_refl, List.getElem?_toArray, Option.elim_some, Option.elim_none, j_Lt_sum_0, g_6, t3]
    rw [t9]
    exact r
  | .inr w, a1, g1 =>
    obtain ⟨M3, t3, f3, w3, l', q3, q4⟩ := a1
    have t3 : pz_cal (d + 2) 38 [(2, 6), (0, k)] ((pz_SH, ss, 0, 0, dd), M0) = some (some (0, 0), ((pz_SH, ss, 0, 0, dd), M3)) := t3
    refine ⟨M3, ?_, f3, w3, l', q3, q4⟩
    have t9 : pz_cal (d + 3) 37 [(2, 6), (0, k)] ((pz_SH, ss, 0, 0, dd), M0) = pz_p bl_Lt_sum (pz_cal (d + 2)) 0 0 8 [] [(2, 6), (0, k), (0, 0), (0, 0), (9, 0)] [] ((pz_SH, ss, 0, 0, dd), M3) := by
      simp (maxSteps := 1000000) (disch := omega) only [↓reduceIte, sp_0, sp_s, Option.map_some, Option.map_none, Option.some.injEq, o_le, o_nle, o_lt, o_nlt, o_eq, o_neq, w32_id, up_at, nw_at, nw_s, k_Lt_sum, px_iconst, px_bipush, px_sipush, px_ldc, px_ldc_w, px_lconst, px_ldc2_w, px_aconst_null, px_getstatic, px_iload_n, px_iload, px_lload_n, px_lload, px_aload_n, px_aload, px_istore_n, px_istore, px_astore_n, px_astore, px_lstore_n, px_lstore, px_iinc, px_iadd, px_isub, px_imul, px_iand, px_ior, px_ixor, px_ishl, px_ishr, px_iushr, px_ladd, px_lsub, px_lmul, px_land, px_lor, px_lcmp, px_lushr, px_lshl, px_ineg, px_i2l, px_l2i, px_idiv, px_irem, px_ldiv, px_lrem, px_dup0, px_pop0, px_dup2, px_pop2, px_dup2x, px_goto, px_if_eq, px_ic_eq, px_if_ne, px_ic_ne, px_if_lt, px_ic_lt, px_if_ge, px_ic_ge, px_if_gt, px_ic_gt, px_if_le, px_ic_le, px_ifnull, px_ifnonnull, px_lookupswitch, px_tableswitch, px_getfield, px_iaload, px_laload, px_caload, px_aaload, px_iastore, px_lastore, px_arraylength, px_putfield, px_ireturn, px_lreturn, px_areturn, px_return, px_iv0, px_is0, px_iv1, px_is1, px_iv2, px_is2, px_iv3, px_is3, px_iv4, px_is4, px_iv5, px_is5, px_iv6, px_is6, px_max, px_min, px_abs, px_maxJ, px_minJ, px_ii0, px_ii1, px_iio, px_copy, pz_cpk, pz_lk, pz_alk, pz_ask, pz_gfk, pz_lnk, pz_bx, pz_b, pz_z, pz_s1, pz_s2, pz_wt, pz_cmp, List.getElem?_cons_zero, List.getElem?_cons_succ, List.getElem?_nil, List.set_cons_zero, List.set_cons_succ, List.length_cons, List.length_nil, List.nil_append, List.cons_append, Option.toList_some, Option.toList_none, if_true, if_false, ite_true, ite_false, and_true, true_and, and_self, or_self, or_false, false_or, true_or, or_true, and_false, false_and, not_true_eq_false, not_false_eq_true, forall_const, ne_eq, reduceCtorEq, implies_true, false_implies, true_implies, Int.toNat_natCast, Nat.reduceAdd, Nat.reduceSub, Nat.reduceLT, Nat.reduceLeDiff, Nat.reduceEqDiff, Int.reduceLT, Int.reduceLE, Int.reduceToNat, Int.reduceNeg, Int.reduceEq, Int.reduceAdd, Nat.reduceMul, Int.reduceSub, Nat.reduceBEq, Int.reduceMul, Nat.add_zero, Nat.zero_add, Int.cast_ofNat_Int, Int.ofNat_eq_coe, decide_eq_true_eq, Nat.lt_irrefl, Nat.le_refl, List.getElem?_toArray, Option.elim_some, Option.elim_none, j_Lt_sum_0, g_6, t3]
    rw [t9]
    exact bad M3 _ (9, 0)
end P64
