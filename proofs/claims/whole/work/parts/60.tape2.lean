/-! NUMBERS ON THE TAPE; how the reference reads -/
/-- what a reader finds: a thing and the place after it, or the place of the fault -/
abbrev Rs (α : Type) := Sum (α × Nat) Nat
/-- digits from a place: the value, the place after -/
def rdn (T : Nat → Int) (n : Nat) : Nat → Nat → Int → Int × Nat
  | 0, q, v => (v, q)
  | f + 1, q, v => if dg T n q = -1 then (v, q) else rdn T n f (q + 1) (v * 10 + dg T n q)
def numb (T : Nat → Int) (n D : Nat) (most : Int) (p : Nat) : Rs Int := if (rdn T n D (bl T n p) 0).2 = bl T n p ∨ dg T n (rdn T n D (bl T n p) 0).2 ≠ -1 then .inr (rdn T n D (bl T n p) 0).2 else if most < (rdn T n D (bl T n p) 0).1 then .inr ((rdn T n D (bl T n p) 0).2 - 1) else .inl ((rdn T n D (bl T n p) 0).1, (rdn T n D (bl T n p) 0).2)
section P60
variable {T : Nat → Int} {n : Nat}
theorem dg_r {p : Nat} : dg T n p = -1 ∨ 0 ≤ dg T n p ∧ dg T n p ≤ 9 ∧ p < n := by
  unfold dg
  by_cases h : p < n ∧ 48 ≤ T p ∧ T p ≤ 57
  · rw [if_pos h]; omega
  · rw [if_neg h]; exact .inl rfl
theorem rdn_r : ∀ f q (v : Int), q ≤ n → q ≤ (rdn T n f q v).2 ∧ (rdn T n f q v).2 ≤ n ∧ (rdn T n f q v).2 ≤ q + f
  | 0, q, v, h => ⟨Nat.le_refl q, h, Nat.le_refl q⟩
  | f + 1, q, v, h => by
    unfold rdn
    rcases dg_r (T := T) (n := n) (p := q) with g | g
    · rw [if_pos g]; exact ⟨Nat.le_refl q, h, by show q ≤ q + (f + 1); omega⟩
    · rw [if_neg (by omega)]
      have := rdn_r f (q + 1) (v * 10 + dg T n q) (by omega)
      omega
theorem rdn_v : ∀ f q (v B : Int), 0 ≤ v → v < B → 0 ≤ (rdn T n f q v).1 ∧ (rdn T n f q v).1 < B * 10 ^ f
  | 0, q, v, B, h, hb => ⟨h, by show v < B * 10 ^ 0; omega⟩
  | f + 1, q, v, B, h, hb => by
    unfold rdn
    have pw : (0 : Int) < 10 ^ f := Int.pow_pos (by decide)
    have e : B * 10 ^ (f + 1) = (B * 10) * 10 ^ f := by rw [Int.pow_succ, Int.mul_comm (10 ^ f) 10, ← Int.mul_assoc]
    rcases dg_r (T := T) (n := n) (p := q) with g | g
    · rw [if_pos g]
      refine ⟨h, ?_⟩
      show v < B * 10 ^ (f + 1)
      have pw2 : (1 : Int) ≤ 10 ^ (f + 1) := Int.pow_pos (by decide)
      have h1 : B * 1 ≤ B * 10 ^ (f + 1) := Int.mul_le_mul_of_nonneg_left pw2 (by omega)
      omega
    · rw [if_neg (by omega), e]
      exact rdn_v f (q + 1) _ (B * 10) (by omega) (by omega)
end P60
section P60b
variable {d : Nat} {ss : List (Nat × Nat)} {dd : Nat} {M : pz_M} {T : Nat → Int} {n : Nat}
set_option maxRecDepth 100000 in
theorem c_number_l (hR : Rf M) (hT : TC M T n) {D : Nat} {most : Int} (hD : D ≤ 4) : ∀ f r q (v B : Int), r + f = D → q ≤ n → 0 ≤ v → v < B → B * 10 ^ f ≤ 10000 → ∃ r' : Nat, pz_p bl_Ta_number (pz_cal (d + 1)) 0 0 10 [] [(2, 1), (0, (D : Int)), (0, most), (0, v), (0, (r : Int))] [] ((pz_SH, ss, 0, 0, dd), pz_up M 1 2 (q : Int)) = pz_p bl_Ta_number (pz_cal (d + 1)) 0 0 50 [] [(2, 1), (0, (D : Int)), (0, most), (0, (rdn T n f q v).1), (0, (r' : Int))] [] ((pz_SH, ss, 0, 0, dd), pz_up M 1 2 ((rdn T n f q v).2 : Int)) ∧ r' + q = (rdn T n f q v).2 + r := by
  intro f
  induction f with
  | zero =>
    intro r q v B hr hq hv hB hb
    refine ⟨r, ?_, by show r + q = q + r; omega⟩
    show _ = pz_p bl_Ta_number (pz_cal (d + 1)) 0 0 50 [] [(2, 1), (0, (D : Int)), (0, most), (0, v), (0, (r : Int))] [] ((pz_SH, ss, 0, 0, dd), pz_up M 1 2 (q : Int))
    rw [j_Ta_number_10]
    simp (maxSteps := 1000000) (disch := omega) only [↓reduceIte, sp_0, sp_s, Option.map_some, Option.map_none, Option.some.injEq, o_le, o_nle, o_lt, o_nlt, o_eq, o_neq, w32_id, nw_s, px_iconst, px_bipush, px_sipush, px_ldc, px_ldc_w, px_lconst, px_ldc2_w, px_aconst_null, px_getstatic, px_iload_n, px_iload, px_lload_n, px_lload, px_aload_n, px_aload, px_istore_n, px_istore, px_astore_n, px_astore, px_lstore_n, px_lstore, px_iinc, px_iadd, px_isub, px_imul, px_iand, px_ior, px_ixor, px_ishl, px_ishr, px_iushr, px_ladd, px_lsub, px_lmul, px_land, px_lor, px_lcmp, px_lushr, px_lshl, px_ineg, px_i2l, px_l2i, px_idiv, px_irem, px_ldiv, px_lrem, px_dup0, px_pop0, px_dup2, px_pop2, px_dup2x, px_goto, px_if_eq, px_ic_eq, px_if_ne, px_ic_ne, px_if_lt, px_ic_lt, px_if_ge, px_ic_ge, px_if_gt, px_ic_gt, px_if_le, px_ic_le, px_ifnull, px_ifnonnull, px_lookupswitch, px_tableswitch, px_getfield, px_iaload, px_laload, px_caload, px_aaload, px_iastore, px_lastore, px_arraylength, px_putfield, px_ireturn, px_lreturn, px_areturn, px_return, px_iv0, px_is0, px_iv1, px_is1, px_iv2, px_is2, px_iv3, px_is3, px_iv4, px_is4, px_iv5, px_is5, px_iv6, px_is6, px_max, px_min, px_abs, px_maxJ, px_minJ, px_ii0, px_ii1, px_iio, px_copy, pz_cpk, pz_lk, pz_alk, pz_ask, pz_gfk, pz_lnk, pz_bx, pz_b, pz_z, pz_s1, pz_s2, pz_wt, pz_cmp, List.getElem?_cons_zero, List.getElem?_cons_succ, List.getElem?_nil, List.set_cons_zero, List.set_cons_succ, List.length_cons, List.length_nil, List.nil_append, List.cons_append, Option.toList_some, Option.toList_none, if_true, if_false, ite_true, ite_false, and_true, true_and, and_self, or_self, or_false, false_or, true_or, or_true, and_false, false_and, not_true_eq_false, not_false_eq_true, forall_const, ne_eq, reduceCtorEq, implies_true, false_implies, true_implies, Int.toNat_natCast, Nat.reduceAdd, Nat.reduceSub, Nat.reduceLT, Nat.reduceLeDiff, Nat.reduceEqDiff, Int.reduceLT, Int.reduceLE, Int.reduceToNat, Int.reduceNeg, Int.reduceEq, Int.reduceAdd, Nat.reduceMul, Int.reduceSub, Nat.reduceBEq, Int.reduceMul, Nat.add_zero, Nat.zero_add, Int.cast_ofNat_Int, Int.ofNat_eq_coe, decide_eq_true_eq, Nat.lt_irrefl, Nat.le_refl, List.getElem?_toArray, Option.elim_some, Option.elim_none]
  | succ f ih =>
    intro r q v B hr hq hv hB hb
    have hR' : Rf (pz_up M 1 2 (q : Int)) := Rf_up hR (by decide +kernel)
    have h12 : pz_up M 1 2 (q : Int) 1 2 = (q : Int) := by rw [up_at, if_pos ⟨rfl, rfl⟩]
    have e1 := c_digitHere (d := d) (ss := ss) (dd := dd) hR' (TC_up hT (by decide) (by decide)) h12 hq
    have hrd : rdn T n (f + 1) q v = if dg T n q = -1 then (v, q) else rdn T n f (q + 1) (v * 10 + dg T n q) := rfl
    have n240 := hT.2.1
    rcases dg_r (T := T) (n := n) (p := q) with g | g
    · rw [hrd, if_pos g]
      rw [g] at e1
      refine ⟨r, ?_, by show r + q = q + r; omega⟩
      show _ = pz_p bl_Ta_number (pz_cal (d + 1)) 0 0 50 [] [(2, 1), (0, (D : Int)), (0, most), (0, v), (0, (r : Int))] [] ((pz_SH, ss, 0, 0, dd), pz_up M 1 2 (q : Int))
      rw [j_Ta_number_10]
      simp (maxSteps := 1000000) (disch := omega) only [↓reduceIte, sp_0, sp_s, Option.map_some, Option.map_none, Option.some.injEq, o_le, o_nle, o_lt, o_nlt, o_eq, o_neq, w32_id, nw_s, px_iconst, px_bipush, px_sipush, px_ldc, px_ldc_w, px_lconst, px_ldc2_w, px_aconst_null, px_getstatic, px_iload_n, px_iload, px_lload_n, px_lload, px_aload_n, px_aload, px_istore_n, px_istore, px_astore_n, px_astore, px_lstore_n, px_lstore, px_iinc, px_iadd, px_isub, px_imul, px_iand, px_ior, px_ixor, px_ishl, px_ishr, px_iushr, px_ladd, px_lsub, px_lmul, px_land, px_lor, px_lcmp, px_lushr, px_lshl, px_ineg, px_i2l, px_l2i, px_idiv, px_irem, px_ldiv, px_lrem, px_dup0, px_pop0, px_dup2, px_pop2, px_dup2x, px_goto, px_if_eq, px_ic_eq, px_if_ne, px_ic_ne, px_if_lt, px_ic_lt, px_if_ge, px_ic_ge, px_if_gt, px_ic_gt, px_if_le, px_ic_le, px_ifnull, px_ifnonnull, px_lookupswitch, px_tableswitch, px_getfield, px_iaload, px_laload, px_caload, px_aaload, px_iastore, px_lastore, px_arraylength, px_putfield, px_ireturn, px_lreturn, px_areturn, px_return, px_iv0, px_is0, px_iv1, px_is1, px_iv2, px_is2, px_iv3, px_is3, px_iv4, px_is4, px_iv5, px_is5, px_iv6, px_is6, px_max, px_min, px_abs, px_maxJ, px_minJ, px_ii0, px_ii1, px_iio, px_copy, pz_cpk, pz_lk, pz_alk, pz_ask, pz_gfk, pz_lnk, pz_bx, pz_b, pz_z, pz_s1, pz_s2, pz_wt, pz_cmp, List.getElem?_cons_zero, List.getElem?_cons_succ, List.getElem?_nil, List.set_cons_zero, List.set_cons_succ, List.length_cons, List.length_nil, List.nil_append, List.cons_append, Option.toList_some, Option.toList_none, if_true, if_false, ite_true, ite_false, and_true, true_and, and_self, or_self, or_false, false_or, true_or, or_true, and_false, false_and, not_true_eq_false, not_false_eq_true, forall_const, ne_eq, reduceCtorEq, implies_true, false_implies, true_implies, Int.toNat_natCast, Nat.reduceAdd, Nat.reduceSub, Nat.reduceLT, Nat.reduceLeDiff, Nat.reduceEqDiff, Int.reduceLT, Int.reduceLE, Int.reduceToNat, Int.reduceNeg, Int.reduceEq, Int.reduceAdd, Nat.reduceMul, Int.reduceSub, Nat.reduceBEq, Int.reduceMul, Nat.add_zero, Nat.zero_add, Int.cast_ofNat_Int, Int.ofNat_eq_coe, decide_eq_true_eq, Nat.lt_irrefl, Nat.le_refl, List.getElem?_toArray, Option.elim_some, Option.elim_none, g_1, e1]
    · rw [hrd, if_neg (by omega)]
      have pw : (0 : Int) < 10 ^ f := Int.pow_pos (by decide)
      have e : B * 10 ^ (f + 1) = (B * 10) * 10 ^ f := by rw [Int.pow_succ, Int.mul_comm (10 ^ f) 10, ← Int.mul_assoc]
      have hb2 : (B * 10) * 1 ≤ (B * 10) * 10 ^ f := Int.mul_le_mul_of_nonneg_left (by omega) (by omega)
      obtain ⟨r', t, h'⟩ := ih (r + 1) (q + 1) (v * 10 + dg T n q) (B * 10) (by omega) (by omega) (by omega) (by omega) (by rw [← e]; exact hb)
      refine ⟨r', ?_, by omega⟩
      rw [← t, show pz_up M 1 2 ((q + 1 : Nat) : Int) = pz_up (pz_up M 1 2 (q : Int)) 1 2 ((q : Int) + 1) by rw [up_up2]; rfl]
      show _ = pz_p bl_Ta_number (pz_cal (d + 1)) 0 0 10 [] [(2, 1), (0, (D : Int)), (0, most), (0, v * 10 + dg T n q), (0, (r : Int) + 1)] [] ((pz_SH, ss, 0, 0, dd), pz_up (pz_up M 1 2 (q : Int)) 1 2 ((q : Int) + 1))
      rw [e] at hb
      have hv2 : v < 10000 := by omega
      generalize dg T n q = u at *
      generalize pz_up M 1 2 (q : Int) = M' at *
      rw [j_Ta_number_10]
      simp (maxSteps := 1000000) (disch := omega) only [↓reduceIte, sp_0, sp_s, Option.map_some, Option.map_none, Option.some.injEq, o_le, o_nle, o_lt, o_nlt, o_eq, o_neq, w32_id, nw_s, px_iconst, px_bipush, px_sipush, px_ldc, px_ldc_w, px_lconst, px_ldc2_w, px_aconst_null, px_getstatic, px_iload_n, px_iload, px_lload_n, px_lload, px_aload_n, px_aload, px_istore_n, px_istore, px_astore_n, px_astore, px_lstore_n, px_lstore, px_iinc, px_iadd, px_isub, px_imul, px_iand, px_ior, px_ixor, px_ishl, px_ishr, px_iushr, px_ladd, px_lsub, px_lmul, px_land, px_lor, px_lcmp, px_lushr, px_lshl, px_ineg, px_i2l, px_l2i, px_idiv, px_irem, px_ldiv, px_lrem, px_dup0, px_pop0, px_dup2, px_pop2, px_dup2x, px_goto, px_if_eq, px_ic_eq, px_if_ne, px_ic_ne, px_if_lt, px_ic_lt, px_if_ge, px_ic_ge, px_if_gt, px_ic_gt, px_if_le, px_ic_le, px_ifnull, px_ifnonnull, px_lookupswitch, px_tableswitch, px_getfield, px_iaload, px_laload, px_caload, px_aaload, px_iastore, px_lastore, px_arraylength, px_putfield, px_ireturn, px_lreturn, px_areturn, px_return, px_iv0, px_is0, px_iv1, px_is1, px_iv2, px_is2, px_iv3, px_is3, px_iv4, px_is4, px_iv5, px_is5, px_iv6, px_is6, px_max, px_min, px_abs, px_maxJ, px_minJ, px_ii0, px_ii1, px_iio, px_copy, pz_cpk, pz_lk, pz_alk, pz_ask, pz_gfk, pz_lnk, pz_bx, pz_b, pz_z, pz_s1, pz_s2, pz_wt, pz_cmp, List.getElem?_cons_zero, List.getElem?_cons_succ, List.getElem?_nil, List.set_cons_zero, List.set_cons_succ, List.length_cons, List.length_nil, List.nil_append, List.cons_append, Option.toList_some, Option.toList_none, if_true, if_false, ite_true, ite_false, and_true, true_and, and_self, or_self, or_false, false_or, true_or, or_true, and_false, false_and, not_true_eq_false, not_false_eq_true, forall_const, ne_eq, reduceCtorEq, implies_true, false_implies, true_implies, Int.toNat_natCast, Nat.reduceAdd, Nat.reduceSub, Nat.reduceLT, Nat.reduceLeDiff, Nat.reduceEqDiff, Int.reduceLT, Int.reduceLE, Int.reduceToNat, Int.reduceNeg, Int.reduceEq, Int.reduceAdd, Nat.reduceMul, Int.reduceSub, Nat.reduceBEq, Int.reduceMul, Nat.add_zero, Nat.zero_add, Int.cast_ofNat_Int, Int.ofNat_eq_coe, decide_eq_true_eq, Nat.lt_irrefl, Nat.le_refl, List.getElem?_toArray, Option.elim_some, Option.elim_none, g_1, e1, h12]
set_option maxRecDepth 100000 in
theorem c_number (hR : Rf M) (hT : TC M T n) {p D : Nat} {most : Int} (h2 : M 1 2 = (p : Int)) (hp : p ≤ n) (hD : D ≤ 4) : ∃ q : Nat, q ≤ n ∧ match numb T n D most p with
    | .inl (v, p') => pz_cal (d + 2) 88 [(2, 1), (0, (D : Int)), (0, most)] ((pz_SH, ss, 0, 0, dd), M) = some (some (0, v), ((pz_SH, ss, 0, 0, dd), pz_up M 1 2 (p' : Int)))
    | .inr w => pz_cal (d + 2) 88 [(2, 1), (0, (D : Int)), (0, most)] ((pz_SH, ss, 0, 0, dd), M) = some (some (0, -1), ((pz_SH, ss, 0, 0, dd), pz_up (pz_up M 1 2 (q : Int)) 1 3 (w : Int))) := by
  have e0 := c_sign (d := d) (ss := ss) (dd := dd) hR hT h2 hp
  have hb := bl_le (T := T) hp
  have n240 := hT.2.1
  have pw : (1 : Int) * 10 ^ D ≤ 10000 := by
    rcases (by omega : D = 0 ∨ D = 1 ∨ D = 2 ∨ D = 3 ∨ D = 4) with rfl | rfl | rfl | rfl | rfl <;> decide
  obtain ⟨r', t, hr'⟩ := c_number_l (d := d) (ss := ss) (dd := dd) (most := most) hR hT hD D 0 (bl T n p) 0 1 (by omega) hb (by decide) (by decide) pw
  have rr := rdn_r (T := T) D (bl T n p) 0 hb
  have rv := rdn_v (T := T) (n := n) D (bl T n p) 0 1 (by decide) (by decide)
  have hR' : Rf (pz_up M 1 2 ((rdn T n D (bl T n p) 0).2 : Int)) := Rf_up hR (by decide +kernel)
  have h12 : pz_up M 1 2 ((rdn T n D (bl T n p) 0).2 : Int) 1 2 = ((rdn T n D (bl T n p) 0).2 : Int) := by rw [up_at, if_pos ⟨rfl, rfl⟩]
  have e1 := c_digitHere (d := d) (ss := ss) (dd := dd) hR' (TC_up hT (by decide) (by decide)) h12 rr.2.1
  refine ⟨(rdn T n D (bl T n p) 0).2, rr.2.1, ?_⟩
  have t : pz_p bl_Ta_number (pz_cal (d + 1)) 0 0 10 [] [(2, 1), (0, (D : Int)), (0, most), (0, 0), (0, 0)] [] ((pz_SH, ss, 0, 0, dd), pz_up M 1 2 (bl T n p : Int)) = _ := t
  have t9 : pz_cal (d + 2) 88 [(2, 1), (0, (D : Int)), (0, most)] ((pz_SH, ss, 0, 0, dd), M) = pz_p bl_Ta_number (pz_cal (d + 1)) 0 0 50 [] [(2, 1), (0, (D : Int)), (0, most), (0, (rdn T n D (bl T n p) 0).1), (0, (r' : Int))] [] ((pz_SH, ss, 0, 0, dd), pz_up M 1 2 ((rdn T n D (bl T n p) 0).2 : Int)) := by
    rw [← t]
    simp (maxSteps := 1000000) (disch := omega) only [↓reduceIte, sp_0, sp_s, Option.map_some, Option.map_none, Option.some.injEq, o_le, o_nle, o_lt, o_nlt, o_eq, o_neq, w32_id, up_at, nw_at, nw_s, k_Ta_number, px_iconst, px_bipush, px_sipush, px_ldc, px_ldc_w, px_lconst, px_ldc2_w, px_aconst_null, px_getstatic, px_iload_n, px_iload, px_lload_n, px_lload, px_aload_n, px_aload, px_istore_n, px_istore, px_astore_n, px_astore, px_lstore_n, px_lstore, px_iinc, px_iadd, px_isub, px_imul, px_iand, px_ior, px_ixor, px_ishl, px_ishr, px_iushr, px_ladd, px_lsub, px_lmul, px_land, px_lor, px_lcmp, px_lushr, px_lshl, px_ineg, px_i2l, px_l2i, px_idiv, px_irem, px_ldiv, px_lrem, px_dup0, px_pop0, px_dup2, px_pop2, px_dup2x, px_goto, px_if_eq, px_ic_eq, px_if_ne, px_ic_ne, px_if_lt, px_ic_lt, px_if_ge, px_ic_ge, px_if_gt, px_ic_gt, px_if_le, px_ic_le, px_ifnull, px_ifnonnull, px_lookupswitch, px_tableswitch, px_getfield, px_iaload, px_laload, px_caload, px_aaload, px_iastore, px_lastore, px_arraylength, px_putfield, px_ireturn, px_lreturn, px_areturn, px_return, px_iv0, px_is0, px_iv1, px_is1, px_iv2, px_is2, px_iv3, px_is3, px_iv4, px_is4, px_iv5, px_is5, px_iv6, px_is6, px_max, px_min, px_abs, px_maxJ, px_minJ, px_ii0, px_ii1, px_iio, px_copy, pz_cpk, pz_lk, pz_alk, pz_ask, pz_gfk, pz_lnk, pz_bx, pz_b, pz_z, pz_s1, pz_s2, pz_wt, pz_cmp, List.getElem?_cons_zero, List.getElem?_cons_succ, List.getElem?_nil, List.set_cons_zero, List.set_cons_succ, List.length_cons, List.length_nil, List.nil_append, List.cons_append, Option.toList_some, Option.toList_none, if_true, if_false, ite_true, ite_false, and_true, true_and, and_self, or_self, or_false, false_or, true_or, or_true, and_false, false_and, not_true_eq_false, not_false_eq_true, forall_const, ne_eq, reduceCtorEq, implies_true, false_implies, true_implies, Int.toNat_natCast, Nat.reduceAdd, Nat.reduceSub, Nat.reduceLT, Nat.reduceLeDiff, Nat.reduceEqDiff, Int.reduceLT, Int.reduceLE, Int.reduceToNat, Int.reduceNeg, Int.reduceEq, Int.reduceAdd, Nat.reduceMul, Int.reduceSub, Nat.reduceBEq, Int.reduceMul, Nat.add_zero, Nat.zero_add, Int.cast_ofNat_Int, Int.ofNat_eq_coe, decide_eq_true_eq, Nat.lt_irrefl, Nat.le_refl, List.getElem?_toArray, Option.elim_some, Option.elim_none, j_Ta_number_0, g_1, e0]
  rw [t9]
  unfold numb
  generalize hq : rdn T n D (bl T n p) 0 = z at *
  by_cases g1 : z.2 = bl T n p
  · rw [if_pos (.inl g1)]
    have r0 : r' = 0 := by omega
    subst r0
    show pz_p bl_Ta_number (pz_cal (d + 1)) 0 0 50 [] [(2, 1), (0, (D : Int)), (0, most), (0, z.1), (0, 0)] [] ((pz_SH, ss, 0, 0, dd), pz_up M 1 2 (z.2 : Int)) = _
    generalize pz_up M 1 2 (z.2 : Int) = M' at *
    rw [j_Ta_number_50]
    simp (maxSteps := 1000000) (disch := omega) only [↓reduceIte, sp_0, sp_s, Option.map_some, Option.map_none, Option.some.injEq, o_le, o_nle, o_lt, o_nlt, o_eq, o_neq, w32_id, nw_s, px_iconst, px_bipush, px_sipush, px_ldc, px_ldc_w, px_lconst, px_ldc2_w, px_aconst_null, px_getstatic, px_iload_n, px_iload, px_lload_n, px_lload, px_aload_n, px_aload, px_istore_n, px_istore, px_astore_n, px_astore, px_lstore_n, px_lstore, px_iinc, px_iadd, px_isub, px_imul, px_iand, px_ior, px_ixor, px_ishl, px_ishr, px_iushr, px_ladd, px_lsub, px_lmul, px_land, px_lor, px_lcmp, px_lushr, px_lshl, px_ineg, px_i2l, px_l2i, px_idiv, px_irem, px_ldiv, px_lrem, px_dup0, px_pop0, px_dup2, px_pop2, px_dup2x, px_goto, px_if_eq, px_ic_eq, px_if_ne, px_ic_ne, px_if_lt, px_ic_lt, px_if_ge, px_ic_ge, px_if_gt, px_ic_gt, px_if_le, px_ic_le, px_ifnull, px_ifnonnull, px_lookupswitch, px_tableswitch, px_getfield, px_iaload, px_laload, px_caload, px_aaload, px_iastore, px_lastore, px_arraylength, px_putfield, px_ireturn, px_lreturn, px_areturn, px_return, px_iv0, px_is0, px_iv1, px_is1, px_iv2, px_is2, px_iv3, px_is3, px_iv4, px_is4, px_iv5, px_is5, px_iv6, px_is6, px_max, px_min, px_abs, px_maxJ, px_minJ, px_ii0, px_ii1, px_iio, px_copy, pz_cpk, pz_lk, pz_alk, pz_ask, pz_gfk, pz_lnk, pz_bx, pz_b, pz_z, pz_s1, pz_s2, pz_wt, pz_cmp, List.getElem?_cons_zero, List.getElem?_cons_succ, List.getElem?_nil, List.set_cons_zero, List.set_cons_succ, List.length_cons, List.length_nil, List.nil_append, List.cons_append, Option.toList_some, Option.toList_none, if_true, if_false, ite_true, ite_false, and_true, true_and, and_self, or_self, or_false, false_or, true_or, or_true, and_false, false_and, not_true_eq_false, not_false_eq_true, forall_const, ne_eq, reduceCtorEq, implies_true, false_implies, true_implies, Int.toNat_natCast, Nat.reduceAdd, Nat.reduceSub, Nat.reduceLT, Nat.reduceLeDiff, Nat.reduceEqDiff, Int.reduceLT, Int.reduceLE, Int.reduceToNat, Int.reduceNeg, Int.reduceEq, Int.reduceAdd, Nat.reduceMul, Int.reduceSub, Nat.reduceBEq, Int.reduceMul, Nat.add_zero, Nat.zero_add, Int.cast_ofNat_Int, Int.ofNat_eq_coe, decide_eq_true_eq, Nat.lt_irrefl, Nat.le_refl, List.getElem?_toArray, Option.elim_some, Option.elim_none, j_Ta_number_63, j_Ta_number_73, j_Ta_number_90, g_1, e1, h12]
  · by_cases g2 : dg T n z.2 = -1
    · rw [if_neg (fun h => h.elim g1 (fun h => h g2))]
      rw [g2] at e1
      by_cases g3 : most < z.1
      · rw [if_pos g3]
        show _ = some (some (0, -1), ((pz_SH, ss, 0, 0, dd), pz_up (pz_up M 1 2 (z.2 : Int)) 1 3 ((z.2 - 1 : Nat) : Int)))
        rw [show ((z.2 - 1 : Nat) : Int) = (z.2 : Int) - 1 by omega]
        generalize pz_up M 1 2 (z.2 : Int) = M' at *
        rw [j_Ta_number_50]
        simp (maxSteps := 1000000) (disch := omega) only [↓reduceIte, sp_0, sp_s, Option.map_some, Option.map_none, Option.some.injEq, o_le, o_nle, o_lt, o_nlt, o_eq, o_neq, w32_id, nw_s, px_iconst, px_bipush, px_sipush, px_ldc, px_ldc_w, px_lconst, px_ldc2_w, px_aconst_null, px_getstatic, px_iload_n, px_iload, px_lload_n, px_lload, px_aload_n, px_aload, px_istore_n, px_istore, px_astore_n, px_astore, px_lstore_n, px_lstore, px_iinc, px_iadd, px_isub, px_imul, px_iand, px_ior, px_ixor, px_ishl, px_ishr, px_iushr, px_ladd, px_lsub, px_lmul, px_land, px_lor, px_lcmp, px_lushr, px_lshl, px_ineg, px_i2l, px_l2i, px_idiv, px_irem, px_ldiv, px_lrem, px_dup0, px_pop0, px_dup2, px_pop2, px_dup2x, px_goto, px_if_eq, px_ic_eq, px_if_ne, px_ic_ne, px_if_lt, px_ic_lt, px_if_ge, px_ic_ge, px_if_gt, px_ic_gt, px_if_le, px_ic_le, px_ifnull, px_ifnonnull, px_lookupswitch, px_tableswitch, px_getfield, px_iaload, px_laload, px_caload, px_aaload, px_iastore, px_lastore, px_arraylength, px_putfield, px_ireturn, px_lreturn, px_areturn, px_return, px_iv0, px_is0, px_iv1, px_is1, px_iv2, px_is2, px_iv3, px_is3, px_iv4, px_is4, px_iv5, px_is5, px_iv6, px_is6, px_max, px_min, px_abs, px_maxJ, px_minJ, px_ii0, px_ii1, px_iio, px_copy, pz_cpk, pz_lk, pz_alk, pz_ask, pz_gfk, pz_lnk, pz_bx, pz_b, pz_z, pz_s1, pz_s2, pz_wt, pz_cmp, List.getElem?_cons_zero, List.getElem?_cons_succ, List.getElem?_nil, List.set_cons_zero, List.set_cons_succ, List.length_cons, List.length_nil, List.nil_append, List.cons_append, Option.toList_some, Option.toList_none, if_true, if_false, ite_true, ite_false, and_true, true_and, and_self, or_self, or_false, false_or, true_or, or_true, and_false, false_and, not_true_eq_false, not_false_eq_true, forall_const, ne_eq, reduceCtorEq, implies_true, false_implies, true_implies, Int.toNat_natCast, Nat.reduceAdd, Nat.reduceSub, Nat.reduceLT, Nat.reduceLeDiff, Nat.reduceEqDiff, Int.reduceLT, Int.reduceLE, Int.reduceToNat, Int.reduceNeg, Int.reduceEq, Int.reduceAdd, Nat.reduceMul, Int.reduceSub, Nat.reduceBEq, Int.reduceMul, Nat.add_zero, Nat.zero_add, Int.cast_ofNat_Int, Int.ofNat_eq_coe, decide_eq_true_eq, Nat.lt_irrefl, Nat.le_refl, List.getElem?_toArray, Option.elim_some, Option.elim_none, j_Ta_number_63, j_Ta_number_73, j_Ta_number_90, g_1, e1, h12]
      · rw [if_neg g3]
        show _ = some (some (0, z.1), ((pz_SH, ss, 0, 0, dd), pz_up M 1 2 (z.2 : Int)))
        generalize pz_up M 1 2 (z.2 : Int) = M' at *
        rw [j_Ta_number_50]
        simp (maxSteps := 1000000) (disch := omega) only [↓reduceIte, sp_0, sp_s, Option.map_some, Option.map_none, Option.some.injEq, o_le, o_nle, o_lt, o_nlt, o_eq, o_neq, w32_id, nw_s, px_iconst, px_bipush, px_sipush, px_ldc, px_ldc_w, px_lconst, px_ldc2_w, px_aconst_null, px_getstatic, px_iload_n, px_iload, px_lload_n, px_lload, px_aload_n, px_aload, px_istore_n, px_istore, px_astore_n, px_astore, px_lstore_n, px_lstore, px_iinc, px_iadd, px_isub, px_imul, px_iand, px_ior, px_ixor, px_ishl, px_ishr, px_iushr, px_ladd, px_lsub, px_lmul, px_land, px_lor, px_lcmp, px_lushr, px_lshl, px_ineg, px_i2l, px_l2i, px_idiv, px_irem, px_ldiv, px_lrem, px_dup0, px_pop0, px_dup2, px_pop2, px_dup2x, px_goto, px_if_eq, px_ic_eq, px_if_ne, px_ic_ne, px_if_lt, px_ic_lt, px_if_ge, px_ic_ge, px_if_gt, px_ic_gt, px_if_le, px_ic_le, px_ifnull, px_ifnonnull, px_lookupswitch, px_tableswitch, px_getfield, px_iaload, px_laload, px_caload, px_aaload, px_iastore, px_lastore, px_arraylength, px_putfield, px_ireturn, px_lreturn, px_areturn, px_return, px_iv0, px_is0, px_iv1, px_is1, px_iv2, px_is2, px_iv3, px_is3, px_iv4, px_is4, px_iv5, px_is5, px_iv6, px_is6, px_max, px_min, px_abs, px_maxJ, px_minJ, px_ii0, px_ii1, px_iio, px_copy, pz_cpk, pz_lk, pz_alk, pz_ask, pz_gfk, pz_lnk, pz_bx, pz_b, pz_z, pz_s1, pz_s2, pz_wt, pz_cmp, List.getElem?_cons_zero, List.getElem?_cons_succ, List.getElem?_nil, List.set_cons_zero, List.set_cons_succ, List.length_cons, List.length_nil, List.nil_append, List.cons_append, Option.toList_some, Option.toList_none, if_true, if_false, ite_true, ite_false, and_true, true_and, and_self, or_self, or_false, false_or, true_or, or_true, and_false, false_and, not_true_eq_false, not_false_eq_true, forall_const, ne_eq, reduceCtorEq, implies_true, false_implies, true_implies, Int.toNat_natCast, Nat.reduceAdd, Nat.reduceSub, Nat.reduceLT, Nat.reduceLeDiff, Nat.reduceEqDiff, Int.reduceLT, Int.reduceLE, Int.reduceToNat, Int.reduceNeg, Int.reduceEq, Int.reduceAdd, Nat.reduceMul, Int.reduceSub, Nat.reduceBEq, Int.reduceMul, Nat.add_zero, Nat.zero_add, Int.cast_ofNat_Int, Int.ofNat_eq_coe, decide_eq_true_eq, Nat.lt_irrefl, Nat.le_refl, List.getElem?_toArray, Option.elim_some, Option.elim_none, j_Ta_number_63, j_Ta_number_73, j_Ta_number_90, g_1, e1, h12]
    · rw [if_pos (.inr g2)]
      show _ = some (some (0, -1), ((pz_SH, ss, 0, 0, dd), pz_up (pz_up M 1 2 (z.2 : Int)) 1 3 (z.2 : Int)))
      generalize pz_up M 1 2 (z.2 : Int) = M' at *
      generalize dg T n z.2 = u at *
      rw [j_Ta_number_50]
      simp (maxSteps := 1000000) (disch := omega) only [↓reduceIte, sp_0, sp_s, Option.map_some, Option.map_none, Option.some.injEq, o_le, o_nle, o_lt, o_nlt, o_eq, o_neq, w32_id, nw_s, px_iconst, px_bipush, px_sipush, px_ldc, px_ldc_w, px_lconst, px_ldc2_w, px_aconst_null, px_getstatic, px_iload_n, px_iload, px_lload_n, px_lload, px_aload_n, px_aload, px_istore_n, px_istore, px_astore_n, px_astore, px_lstore_n, px_lstore, px_iinc, px_iadd, px_isub, px_imul, px_iand, px_ior, px_ixor, px_ishl, px_ishr, px_iushr, px_ladd, px_lsub, px_lmul, px_land, px_lor, px_lcmp, px_lushr, px_lshl, px_ineg, px_i2l, px_l2i, px_idiv, px_irem, px_ldiv, px_lrem, px_dup0, px_pop0, px_dup2, px_pop2, px_dup2x, px_goto, px_if_eq, px_ic_eq, px_if_ne, px_ic_ne, px_if_lt, px_ic_lt, px_if_ge, px_ic_ge, px_if_gt, px_ic_gt, px_if_le, px_ic_le, px_ifnull, px_ifnonnull, px_lookupswitch, px_tableswitch, px_getfield, px_iaload, px_laload, px_caload, px_aaload, px_iastore, px_lastore, px_arraylength, px_putfield, px_ireturn, px_lreturn, px_areturn, px_return, px_iv0, px_is0, px_iv1, px_is1, px_iv2, px_is2, px_iv3, px_is3, px_iv4, px_is4, px_iv5, px_is5, px_iv6, px_is6, px_max, px_min, px_abs, px_maxJ, px_minJ, px_ii0, px_ii1, px_iio, px_copy, pz_cpk, pz_lk, pz_alk, pz_ask, pz_gfk, pz_lnk, pz_bx, pz_b, pz_z, pz_s1, pz_s2, pz_wt, pz_cmp, List.getElem?_cons_zero, List.getElem?_cons_succ, List.getElem?_nil, List.set_cons_zero, List.set_cons_succ, List.length_cons, List.length_nil, List.nil_append, List.cons_append, Option.toList_some, Option.toList_none, if_true, if_false, ite_true, ite_false, and_true, true_and, and_self, or_self, or_false, false_or, true_or, or_true, and_false, false_and, not_true_eq_false, not_false_eq_true, forall_const, ne_eq, reduceCtorEq, implies_true, false_implies, true_implies, Int.toNat_natCast, Nat.reduceAdd, Nat.reduceSub, Nat.reduceLT, Nat.reduceLeDiff, Nat.reduceEqDiff, Int.reduceLT, Int.reduceLE, Int.reduceToNat, Int.reduceNeg, Int.reduceEq, Int.reduceAdd, Nat.reduceMul, Int.reduceSub, Nat.reduceBEq, Int.reduceMul, Nat.add_zero, Nat.zero_add, Int.cast_ofNat_Int, Int.ofNat_eq_coe, decide_eq_true_eq, Nat.lt_irrefl, Nat.le_refl, List.getElem?_toArray, Option.elim_some, Option.elim_none, j_Ta_number_63, j_Ta_number_73, j_Ta_number_90, g_1, e1, h12]
end P60b
