/-! ACTS OF THE CLASS: a case, images -/
def nx1 (x : Int) : Int := pz_w64 (pz_w64 (x * 6364136223846793005) + 1442695040888963407)
def drw (x k : Int) : Int := pz_w32 (pz_lrem (pz_lushr x 33) k)
/-- one more in the log -/
def lgp (R : Nat → Int) (e : Int) : Nat → Int := fun j => if j = 143 then min 60 (R 143 + 1) else if j = 81 then e else if 81 < j ∧ (j : Int) < 81 + min 60 (R 143 + 1) then R (j - 1) else R j
/-- one case more -/
def csp (R : Nat → Int) (c : Nat) : Nat → Int := upf R (7 + 7 * c + 5) (min 99 (R (7 + 7 * c + 5) + 1))
def hrX (s : Nat) (x : Int) : Nat → Int
  | 0 => x
  | c + 1 => if s.testBit c then nx1 (hrX s x c) else hrX s x c
/-- what the cat does -/
def hrE (O : Nat → Nat → Int) (s : Nat) (x : Int) (c : Nat) : Int := dby (O c) (drw (nx1 (hrX s x c)) 1000)
def hrR (O : Nat → Nat → Int) (s a : Nat) (x : Int) (R : Nat → Int) : Nat → Nat → Int
  | 0 => R
  | c + 1 => if s.testBit c then lgp (csp (hrR O s a x R c) c) (100 * (c : Int) + 10 * (a : Int) + hrE O s x c) else hrR O s a x R c
def hrP (O : Nat → Nat → Int) (s : Nat) (x : Int) (R : Nat → Int) : Nat → Int
  | 0 => 0
  | c + 1 => if s.testBit c then hrP O s x R c + R (hrE O s x c).toNat else hrP O s x R c
theorem dby_r (o : Nat → Int) (w : Int) : 0 ≤ dby o w ∧ dby o w < 4 := by
  unfold dby
  split
  · omega
  · split
    · omega
    · split <;> omega
def gui (R : Nat → Int) (a : Nat) (x : Int) : Nat := if drw (nx1 x) 100 < R (63 + 3 * a) then 1 else 0
theorem hrR_o {O : Nat → Nat → Int} {s a : Nat} {x : Int} {R : Nat → Int} : ∀ c j, j < 81 ∨ 141 ≤ j → j ≠ 143 → (∀ c', c' < c → j ≠ 7 + 7 * c' + 5) → hrR O s a x R c j = R j
  | 0, _, _, _, _ => rfl
  | c + 1, j, h1, h2, h3 => by
    have ih := hrR_o (O := O) (s := s) (a := a) (x := x) (R := R) c j h1 h2 (fun c' hc' => h3 c' (by omega))
    unfold hrR
    split
    · unfold lgp
      rw [if_neg h2, if_neg (by omega), if_neg (by omega)]
      unfold csp
      rw [upf_o (h3 c (by omega))]
      exact ih
    · exact ih
section P40
variable {d : Nat} {ss : List (Nat × Nat)} {dd : Nat} {M : pz_M} {L : Option ((Nat → Int) → Int)} {R : Nat → Int} {nx ln : Nat} {H : Nat → Nat → Int}
set_option maxRecDepth 100000 in
theorem c_Di_begin {x : Int} : pz_cal (d + 1) 28 [(2, 134), (1, x)] ((pz_SH, ss, 0, 0, dd), M) = some (none, ((pz_SH, ss, 0, 0, dd), pz_up M 134 0 x)) := by
  simp (maxSteps := 1000000) (disch := omega) only [↓reduceIte, sp_0, sp_s, Option.map_some, Option.map_none, Option.some.injEq, o_le, o_nle, o_lt, o_nlt, o_eq, o_neq, w32_id, up_at, nw_at, nw_s, k_Di_begin, px_iconst, px_bipush, px_sipush, px_ldc, px_ldc_w, px_lconst, px_ldc2_w, px_aconst_null, px_getstatic, px_iload_n, px_iload, px_lload_n, px_lload, px_aload_n, px_aload, px_istore_n, px_istore, px_astore_n, px_astore, px_lstore_n, px_lstore, px_iinc, px_iadd, px_isub, px_imul, px_iand, px_ior, px_ixor, px_ishl, px_ishr, px_iushr, px_ladd, px_lsub, px_lmul, px_land, px_lor, px_lcmp, px_lushr, px_lshl, px_ineg, px_i2l, px_l2i, px_idiv, px_irem, px_ldiv, px_lrem, px_dup0, px_pop0, px_dup2, px_pop2, px_dup2x, px_goto, px_if_eq, px_ic_eq, px_if_ne, px_ic_ne, px_if_lt, px_ic_lt, px_if_ge, px_ic_ge, px_if_gt, px_ic_gt, px_if_le, px_ic_le, px_ifnull, px_ifnonnull, px_lookupswitch, px_tableswitch, px_getfield, px_iaload, px_laload, px_caload, px_aaload, px_iastore, px_lastore, px_arraylength, px_putfield, px_ireturn, px_lreturn, px_areturn, px_return, px_iv0, px_is0, px_iv1, px_is1, px_iv2, px_is2, px_iv3, px_is3, px_iv4, px_is4, px_iv5, px_is5, px_iv6, px_is6, px_max, px_min, px_abs, px_maxJ, px_minJ, px_ii0, px_ii1, px_iio, px_copy, pz_cpk, pz_lk, pz_alk, pz_ask, pz_gfk, pz_lnk, pz_bx, pz_b, pz_z, pz_s1, pz_s2, pz_wt, pz_cmp, List.getElem?_cons_zero, List.getElem?_cons_succ, List.getElem?_nil, List.set_cons_zero, List.set_cons_succ, List.length_cons, List.length_nil, List.nil_append, List.cons_append, Option.toList_some, Option.toList_none, if_true, if_false, ite_true, ite_false, and_true, true_and, and_self, or_self, or_false, false_or, true_or, or_true, and_false, false_and, not_true_eq_false, not_false_eq_true, forall_const, ne_eq, reduceCtorEq, implies_true, false_implies, true_implies, Int.toNat_natCast, Nat.reduceAdd, Nat.reduceSub, Nat.reduceLT, Nat.reduceLeDiff, Nat.reduceEqDiff, Int.reduceLT, Int.reduceLE, Int.reduceToNat, Int.reduceNeg, Int.reduceEq, Int.reduceAdd, Nat.reduceMul, Int.reduceSub, Nat.reduceBEq, Int.reduceMul, Nat.add_zero, Nat.zero_add, Int.cast_ofNat_Int, Int.ofNat_eq_coe, decide_eq_true_eq, Nat.lt_irrefl, Nat.le_refl, List.getElem?_toArray, Option.elim_some, Option.elim_none, j_Di_begin_0, g_134]
set_option maxRecDepth 100000 in
theorem c_Di_draw {k : Int} (hk : 0 < k) : pz_cal (d + 1) 29 [(2, 134), (0, k)] ((pz_SH, ss, 0, 0, dd), M) = some (some (0, drw (nx1 (M 134 0)) k), ((pz_SH, ss, 0, 0, dd), pz_up M 134 0 (nx1 (M 134 0)))) := by
  have e1 : pz_w64 (pz_w64 (M 134 0 * 6364136223846793005) + 1442695040888963407) = nx1 (M 134 0) := rfl
  have e2 : pz_w32 (pz_lrem (pz_lushr (nx1 (M 134 0)) 33) k) = drw (nx1 (M 134 0)) k := rfl
  simp (maxSteps := 1000000) (disch := omega) only [↓reduceIte, sp_0, sp_s, Option.map_some, Option.map_none, Option.some.injEq, o_le, o_nle, o_lt, o_nlt, o_eq, o_neq, up_at, nw_at, nw_s, k_Di_draw, px_iconst, px_bipush, px_sipush, px_ldc, px_ldc_w, px_lconst, px_ldc2_w, px_aconst_null, px_getstatic, px_iload_n, px_iload, px_lload_n, px_lload, px_aload_n, px_aload, px_istore_n, px_istore, px_astore_n, px_astore, px_lstore_n, px_lstore, px_iinc, px_iadd, px_isub, px_imul, px_iand, px_ior, px_ixor, px_ishl, px_ishr, px_iushr, px_ladd, px_lsub, px_lmul, px_land, px_lor, px_lcmp, px_lushr, px_lshl, px_ineg, px_i2l, px_l2i, px_idiv, px_irem, px_ldiv, px_lrem, px_dup0, px_pop0, px_dup2, px_pop2, px_dup2x, px_goto, px_if_eq, px_ic_eq, px_if_ne, px_ic_ne, px_if_lt, px_ic_lt, px_if_ge, px_ic_ge, px_if_gt, px_ic_gt, px_if_le, px_ic_le, px_ifnull, px_ifnonnull, px_lookupswitch, px_tableswitch, px_getfield, px_iaload, px_laload, px_caload, px_aaload, px_iastore, px_lastore, px_arraylength, px_putfield, px_ireturn, px_lreturn, px_areturn, px_return, px_iv0, px_is0, px_iv1, px_is1, px_iv2, px_is2, px_iv3, px_is3, px_iv4, px_is4, px_iv5, px_is5, px_iv6, px_is6, px_max, px_min, px_abs, px_maxJ, px_minJ, px_ii0, px_ii1, px_iio, px_copy, pz_cpk, pz_lk, pz_alk, pz_ask, pz_gfk, pz_lnk, pz_bx, pz_b, pz_z, pz_s1, pz_s2, pz_wt, pz_cmp, List.getElem?_cons_zero, List.getElem?_cons_succ, List.getElem?_nil, List.set_cons_zero, List.set_cons_succ, List.length_cons, List.length_nil, List.nil_append, List.cons_append, Option.toList_some, Option.toList_none, if_true, if_false, ite_true, ite_false, and_true, true_and, and_self, or_self, or_false, false_or, true_or, or_true, and_false, false_and, not_true_eq_false, not_false_eq_true, forall_const, ne_eq, reduceCtorEq, implies_true, false_implies, true_implies, Int.toNat_natCast, Nat.reduceAdd, Nat.reduceSub, Nat.reduceLT, Nat.reduceLeDiff, Nat.reduceEqDiff, Int.reduceLT, Int.reduceLE, Int.reduceToNat, Int.reduceNeg, Int.reduceEq, Int.reduceAdd, Nat.reduceMul, Int.reduceSub, Nat.reduceBEq, Int.reduceMul, Nat.add_zero, Nat.zero_add, Int.cast_ofNat_Int, Int.ofNat_eq_coe, decide_eq_true_eq, Nat.lt_irrefl, Nat.le_refl, List.getElem?_toArray, Option.elim_some, Option.elim_none, j_Di_draw_0, j_Di_draw_34, j_Di_draw_35, g_134, e1, e2]
set_option maxRecDepth 100000 in
/-- a put into the row of now -/
theorem c_put9 {M1 : pz_M} {R1 : Nat → Int} {j : Nat} {v : Int} (hR : Rf M1) (hj : j < 144) : pz_cal (d + 1) 3 [(2, 9), (0, (j : Int)), (0, v)] ((pz_SH, ss, 0, 0, dd), M1) = some (none, ((pz_SH, ss, 0, 0, dd), pz_up M1 10 j v)) := by
  have e := c_Co_put (d := d) (ss := ss) (dd := dd) (M := M1) (r := 9) (j := (j : Int)) (v := v) g_9 (by show pz_sh _ (M1 9 0) = _; rw [rf_9_0 hR]; exact g_10) (by decide) (by show M1 9 0 < 4096; rw [rf_9_0 hR]; decide) ⟨by omega, by omega⟩
  have e : pz_cal (d + 1) 3 [(2, 9), (0, (j : Int)), (0, v)] ((pz_SH, ss, 0, 0, dd), M1) = some (none, ((pz_SH, ss, 0, 0, dd), pz_up M1 (M1 9 0).toNat (j : Int).toNat v)) := e
  rw [rf_9_0 hR, Int.toNat_natCast] at e
  exact e
set_option maxRecDepth 100000 in
/-- the log moves on by one place, from the end -/
theorem c_write_l {M0 : pz_M} {nl : Nat} {e : Int} {t : pz_V} (hR0 : Rf M0) (hn : nl ≤ 60) : ∀ (k : Nat) (f : Nat → Int), k ≤ nl - 1 → (∀ j, j < 144 → f j = if 81 + k < j ∧ j < 81 + nl then M0 10 (j - 1) else M0 10 j) → ∃ f', pz_p bl_Co_write (pz_cal (d + 1)) 0 0 16 [] [(2, 9), (0, e), (0, (nl : Int)), (0, (k : Int))] [] ((pz_SH, ss, 0, 0, dd), pz_nw M0 10 f) = pz_p bl_Co_write (pz_cal (d + 1)) 0 0 16 [] [(2, 9), (0, e), (0, (nl : Int)), (0, 0)] [] ((pz_SH, ss, 0, 0, dd), pz_nw M0 10 f') ∧ ∀ j, j < 144 → f' j = if 81 < j ∧ j < 81 + nl then M0 10 (j - 1) else M0 10 j
  | 0, f, _, hf => ⟨f, rfl, hf⟩
  | k + 1, f, hk, hf => by
    have hR1 : Rf (pz_nw M0 10 f) := Rf_of hR0 (fun q hq => by rw [nw_o ((by decide +kernel : ∀ q ∈ rf_L, q.1 ≠ 10) q hq)])
    have c1 : Ct (pz_nw M0 10 f) 9 10 := ⟨rf_9_0 hR1, .inl ⟨rfl, rfl⟩⟩
    have e1 := k_entryAt (d := d) (ss := ss) (dd := dd) (i := k) c1 (by omega)
    rw [nw_s] at e1
    have hv : f (81 + k) = M0 10 (81 + k) := by rw [hf _ (by omega), if_neg (by omega)]
    have e2 := c_put9 (d := d) (ss := ss) (dd := dd) (R1 := f) (j := 81 + (k + 1)) (v := f (81 + k)) hR1 (by omega)
    rw [nw_u] at e2
    obtain ⟨f', e3, h3⟩ := c_write_l (e := e) (t := t) hR0 hn k (upf f (81 + (k + 1)) (f (81 + k))) (by omega) (by
      intro j hj
      rw [upf_at]
      by_cases e : j = 81 + (k + 1)
      · rw [if_pos e, if_pos (by omega), hv, e]
        rfl
      · rw [if_neg e, hf j hj]
        by_cases h1 : 81 + (k + 1) < j ∧ j < 81 + nl
        · rw [if_pos h1, if_pos (by omega)]
        · rw [if_neg h1, if_neg (by omega)])
    refine ⟨f', ?_, h3⟩
    rw [← e3]
    show pz_p bl_Co_write (pz_cal (d + 1)) 0 0 16 [] [(2, 9), (0, e), (0, (nl : Int)), (0, (k : Int) + 1)] [] ((pz_SH, ss, 0, 0, dd), pz_nw M0 10 f) = _
    rw [show ((81 + (k + 1) : Nat) : Int) = 81 + ((k : Int) + 1) by omega] at e2
    rw [j_Co_write_16]
    simp (maxSteps := 1000000) (disch := omega) only [↓reduceIte, sp_0, sp_s, Option.map_some, Option.map_none, Option.some.injEq, o_le, o_nle, o_lt, o_nlt, o_eq, o_neq, w32_id, nw_s, px_iconst, px_bipush, px_sipush, px_ldc, px_ldc_w, px_lconst, px_ldc2_w, px_aconst_null, px_getstatic, px_iload_n, px_iload, px_lload_n, px_lload, px_aload_n, px_aload, px_istore_n, px_istore, px_astore_n, px_astore, px_lstore_n, px_lstore, px_iinc, px_iadd, px_isub, px_imul, px_iand, px_ior, px_ixor, px_ishl, px_ishr, px_iushr, px_ladd, px_lsub, px_lmul, px_land, px_lor, px_lcmp, px_lushr, px_lshl, px_ineg, px_i2l, px_l2i, px_idiv, px_irem, px_ldiv, px_lrem, px_dup0, px_pop0, px_dup2, px_pop2, px_dup2x, px_goto, px_if_eq, px_ic_eq, px_if_ne, px_ic_ne, px_if_lt, px_ic_lt, px_if_ge, px_ic_ge, px_if_gt, px_ic_gt, px_if_le, px_ic_le, px_ifnull, px_ifnonnull, px_lookupswitch, px_tableswitch, px_getfield, px_iaload, px_laload, px_caload, px_aaload, px_iastore, px_lastore, px_arraylength, px_putfield, px_ireturn, px_lreturn, px_areturn, px_return, px_iv0, px_is0, px_iv1, px_is1, px_iv2, px_is2, px_iv3, px_is3, px_iv4, px_is4, px_iv5, px_is5, px_iv6, px_is6, px_max, px_min, px_abs, px_maxJ, px_minJ, px_ii0, px_ii1, px_iio, px_copy, pz_cpk, pz_lk, pz_alk, pz_ask, pz_gfk, pz_lnk, pz_bx, pz_b, pz_z, pz_s1, pz_s2, pz_wt, pz_cmp, List.getElem?_cons_zero, List.getElem?_cons_succ, List.getElem?_nil, List.set_cons_zero, List.set_cons_succ, List.length_cons, List.length_nil, List.nil_append, List.cons_append, Option.toList_some, Option.toList_none, if_true, if_false, ite_true, ite_false, and_true, true_and, and_self, or_self, or_false, false_or, true_or, or_true, and_false, false_and, not_true_eq_false, not_false_eq_true, forall_const, ne_eq, reduceCtorEq, implies_true, false_implies, true_implies, Int.toNat_natCast, Nat.reduceAdd, Nat.reduceSub, Nat.reduceLT, Nat.reduceLeDiff, Nat.reduceEqDiff, Int.reduceLT, Int.reduceLE, Int.reduceToNat, Int.reduceNeg, Int.reduceEq, Int.reduceAdd, Nat.reduceMul, Int.reduceSub, Nat.reduceBEq, Int.reduceMul, Nat.add_zero, Nat.zero_add, Int.cast_ofNat_Int, Int.ofNat_eq_coe, decide_eq_true_eq, Nat.lt_irrefl, Nat.le_refl, List.getElem?_toArray, Option.elim_some, Option.elim_none, g_9, e1, e2, Int.add_sub_cancel, Int.add_neg_cancel_right]
set_option maxRecDepth 100000 in
theorem c_write {M0 : pz_M} {e : Int} (hR0 : Rf M0) (hRo : 0 ≤ M0 10 143 ∧ M0 10 143 ≤ 60) : ∃ f, pz_cal (d + 2) 18 [(2, 9), (0, e)] ((pz_SH, ss, 0, 0, dd), M0) = some (none, ((pz_SH, ss, 0, 0, dd), pz_nw M0 10 f)) ∧ ∀ j, j < 144 → f j = lgp (M0 10) e j := by
  have c1 : Ct M0 9 10 := ⟨rf_9_0 hR0, .inl ⟨rfl, rfl⟩⟩
  have e0 := k_logged (d := d) (ss := ss) (dd := dd) c1
  obtain ⟨nl, hnl⟩ : ∃ nl : Nat, min 60 (M0 10 143 + 1) = (nl : Int) := ⟨(min 60 (M0 10 143 + 1)).toNat, by omega⟩
  obtain ⟨f, e1, h1⟩ := c_write_l (d := d) (ss := ss) (dd := dd) (e := e) (t := (9, 0)) (nl := nl) hR0 (by omega) (nl - 1) (M0 10) (Nat.le_refl _) (fun j hj => by rw [if_neg (by omega)])
  rw [nw_id] at e1
  have hR1 : Rf (pz_nw M0 10 f) := Rf_of hR0 (fun q hq => by rw [nw_o ((by decide +kernel : ∀ q ∈ rf_L, q.1 ≠ 10) q hq)])
  have e2 := c_put9 (d := d) (ss := ss) (dd := dd) (R1 := f) (j := 81) (v := e) hR1 (by omega)
  rw [nw_u] at e2
  have hR2 : Rf (pz_nw M0 10 (upf f 81 e)) := Rf_of hR0 (fun q hq => by rw [nw_o ((by decide +kernel : ∀ q ∈ rf_L, q.1 ≠ 10) q hq)])
  have e3 := c_put9 (d := d) (ss := ss) (dd := dd) (R1 := f) (j := 143) (v := (nl : Int)) hR2 (by omega)
  rw [nw_u] at e3
  refine ⟨upf (upf f 81 e) 143 (nl : Int), ?_, ?_⟩
  · have e2 : pz_cal (d + 1) 3 [(2, 9), (0, 81), (0, e)] ((pz_SH, ss, 0, 0, dd), pz_nw M0 10 f) = _ := e2
    have e3 : pz_cal (d + 1) 3 [(2, 9), (0, 143), (0, (nl : Int))] ((pz_SH, ss, 0, 0, dd), pz_nw M0 10 (upf f 81 e)) = _ := e3
    have e4 : pz_p bl_Co_write (pz_cal (d + 1)) 0 0 16 [] [(2, 9), (0, e), (0, (nl : Int)), (0, 0)] [] ((pz_SH, ss, 0, 0, dd), pz_nw M0 10 f) = some (none, ((pz_SH, ss, 0, 0, dd), pz_nw M0 10 (upf (upf f 81 e) 143 (nl : Int)))) := by
      rw [j_Co_write_16]
      simp (maxSteps := 1000000) (disch := omega) only [↓reduceIte, sp_0, sp_s, Option.map_some, Option.map_none, Option.some.injEq, o_le, o_nle, o_lt, o_nlt, o_eq, o_neq, w32_id, nw_s, px_iconst, px_bipush, px_sipush, px_ldc, px_ldc_w, px_lconst, px_ldc2_w, px_aconst_null, px_getstatic, px_iload_n, px_iload, px_lload_n, px_lload, px_aload_n, px_aload, px_istore_n, px_istore, px_astore_n, px_astore, px_lstore_n, px_lstore, px_iinc, px_iadd, px_isub, px_imul, px_iand, px_ior, px_ixor, px_ishl, px_ishr, px_iushr, px_ladd, px_lsub, px_lmul, px_land, px_lor, px_lcmp, px_lushr, px_lshl, px_ineg, px_i2l, px_l2i, px_idiv, px_irem, px_ldiv, px_lrem, px_dup0, px_pop0, px_dup2, px_pop2, px_dup2x, px_goto, px_if_eq, px_ic_eq, px_if_ne, px_ic_ne, px_if_lt, px_ic_lt, px_if_ge, px_ic_ge, px_if_gt, px_ic_gt, px_if_le, px_ic_le, px_ifnull, px_ifnonnull, px_lookupswitch, px_tableswitch, px_getfield, px_iaload, px_laload, px_caload, px_aaload, px_iastore, px_lastore, px_arraylength, px_putfield, px_ireturn, px_lreturn, px_areturn, px_return, px_iv0, px_is0, px_iv1, px_is1, px_iv2, px_is2, px_iv3, px_is3, px_iv4, px_is4, px_iv5, px_is5, px_iv6, px_is6, px_max, px_min, px_abs, px_maxJ, px_minJ, px_ii0, px_ii1, px_iio, px_copy, pz_cpk, pz_lk, pz_alk, pz_ask, pz_gfk, pz_lnk, pz_bx, pz_b, pz_z, pz_s1, pz_s2, pz_wt, pz_cmp, List.getElem?_cons_zero, List.getElem?_cons_succ, List.getElem?_nil, List.set_cons_zero, List.set_cons_succ, List.length_cons, List.length_nil, List.nil_append, List.cons_append, Option.toList_some, Option.toList_none, if_true, if_false, ite_true, ite_false, and_true, true_and, and_self, or_self, or_false, false_or, true_or, or_true, and_false, false_and, not_true_eq_false, not_false_eq_true, forall_const, ne_eq, reduceCtorEq, implies_true, false_implies, true_implies, Int.toNat_natCast, Nat.reduceAdd, Nat.reduceSub, Nat.reduceLT, Nat.reduceLeDiff, Nat.reduceEqDiff, Int.reduceLT, Int.reduceLE, Int.reduceToNat, Int.reduceNeg, Int.reduceEq, Int.reduceAdd, Nat.reduceMul, Int.reduceSub, Nat.reduceBEq, Int.reduceMul, Nat.add_zero, Nat.zero_add, Int.cast_ofNat_Int, Int.ofNat_eq_coe, decide_eq_true_eq, Nat.lt_irrefl, Nat.le_refl, List.getElem?_toArray, Option.elim_some, Option.elim_none, j_Co_write_41, g_9, e2, e3]
    rw [← e4, ← e1, show ((nl - 1 : Nat) : Int) = (nl : Int) - 1 by omega]
    simp (maxSteps := 1000000) (disch := omega) only [↓reduceIte, sp_0, sp_s, Option.map_some, Option.map_none, Option.some.injEq, o_le, o_nle, o_lt, o_nlt, o_eq, o_neq, w32_id, nw_s, px_iconst, px_bipush, px_sipush, px_ldc, px_ldc_w, px_lconst, px_ldc2_w, px_aconst_null, px_getstatic, px_iload_n, px_iload, px_lload_n, px_lload, px_aload_n, px_aload, px_istore_n, px_istore, px_astore_n, px_astore, px_lstore_n, px_lstore, px_iinc, px_iadd, px_isub, px_imul, px_iand, px_ior, px_ixor, px_ishl, px_ishr, px_iushr, px_ladd, px_lsub, px_lmul, px_land, px_lor, px_lcmp, px_lushr, px_lshl, px_ineg, px_i2l, px_l2i, px_idiv, px_irem, px_ldiv, px_lrem, px_dup0, px_pop0, px_dup2, px_pop2, px_dup2x, px_goto, px_if_eq, px_ic_eq, px_if_ne, px_ic_ne, px_if_lt, px_ic_lt, px_if_ge, px_ic_ge, px_if_gt, px_ic_gt, px_if_le, px_ic_le, px_ifnull, px_ifnonnull, px_lookupswitch, px_tableswitch, px_getfield, px_iaload, px_laload, px_caload, px_aaload, px_iastore, px_lastore, px_arraylength, px_putfield, px_ireturn, px_lreturn, px_areturn, px_return, px_iv0, px_is0, px_iv1, px_is1, px_iv2, px_is2, px_iv3, px_is3, px_iv4, px_is4, px_iv5, px_is5, px_iv6, px_is6, px_max, px_min, px_abs, px_maxJ, px_minJ, px_ii0, px_ii1, px_iio, px_copy, pz_cpk, pz_lk, pz_alk, pz_ask, pz_gfk, pz_lnk, pz_bx, pz_b, pz_z, pz_s1, pz_s2, pz_wt, pz_cmp, List.getElem?_cons_zero, List.getElem?_cons_succ, List.getElem?_nil, List.set_cons_zero, List.set_cons_succ, List.length_cons, List.length_nil, List.nil_append, List.cons_append, Option.toList_some, Option.toList_none, if_true, if_false, ite_true, ite_false, and_true, true_and, and_self, or_self, or_false, false_or, true_or, or_true, and_false, false_and, not_true_eq_false, not_false_eq_true, forall_const, ne_eq, reduceCtorEq, implies_true, false_implies, true_implies, Int.toNat_natCast, Nat.reduceAdd, Nat.reduceSub, Nat.reduceLT, Nat.reduceLeDiff, Nat.reduceEqDiff, Int.reduceLT, Int.reduceLE, Int.reduceToNat, Int.reduceNeg, Int.reduceEq, Int.reduceAdd, Nat.reduceMul, Int.reduceSub, Nat.reduceBEq, Int.reduceMul, Nat.add_zero, Nat.zero_add, Int.cast_ofNat_Int, Int.ofNat_eq_coe, decide_eq_true_eq, Nat.lt_irrefl, Nat.le_refl, List.getElem?_toArray, Option.elim_some, Option.elim_none, k_Co_write, j_Co_write_0, g_9, e0, hnl]
  · intro j hj
    unfold lgp
    rw [upf_at]
    by_cases j1 : j = 143
    · rw [if_pos j1, if_pos j1, hnl]
    · rw [if_neg j1, if_neg j1, upf_at]
      by_cases j2 : j = 81
      · rw [if_pos j2, if_pos j2]
      · rw [if_neg j2, if_neg j2, h1 j hj, hnl]
        by_cases j3 : 81 < j ∧ j < 81 + nl
        · rw [if_pos j3, if_pos (by omega)]
        · rw [if_neg j3, if_neg (by omega)]
theorem Ps_Q {M' : pz_M} (h : Ps M nx ln H) (q : Qu M M') : Ps M' nx ln H := by
  obtain ⟨p1, p2, p3, p4, p5⟩ := h
  have hq : ∀ c, 15 ≤ c → c ≤ 96 → M' c = M c := fun c c1 c2 => q.1 c (fun h => by
    have : c = 99 ∨ c = 12 ∨ c = 98 ∨ 100 ≤ c := (by decide : ∀ c ∈ QMS, c = 99 ∨ c = 12 ∨ c = 98 ∨ 100 ≤ c) c h
    omega)
  refine ⟨by rw [hq 15 (by omega) (by omega)]; exact p1, p2, by rw [hq 15 (by omega) (by omega)]; exact p3, p4, fun i hi j hj => ?_⟩
  rw [hq _ (by omega) (by omega)]
  exact p5 i hi j hj
theorem We_o {M1 M2 : pz_M} {a s : Nat} (h : We M1 L R a s) (f : ∀ c, 106 ≤ c → c ≤ 133 → M2 c = M1 c) : We M2 L R a s := fun g hg => SpI_fr (h g hg) (fun c c1 c2 => by
  have hb2 := Sd_le (sdb_Sd g)
  exact f c (by omega) (by omega))
/-- the court's row and the dice change, nothing else -/
def HI (M2 M' : pz_M) (L : Option ((Nat → Int) → Int)) (R : Nat → Int) (O : Nat → Nat → Int) (s a : Nat) (x : Int) (c : Nat) : Prop := Rf M' ∧ (∀ j, j < 144 → M' 10 j = hrR O s a x R c j) ∧ M' 134 0 = hrX s x c ∧ We M' L R a s ∧ ∀ k, k ≠ 10 → k ≠ 134 → M' k = M2 k
theorem hrR_143 {O : Nat → Nat → Int} {s a : Nat} {x : Int} (h : 0 ≤ R 143 ∧ R 143 ≤ 60) : ∀ c, 0 ≤ hrR O s a x R c 143 ∧ hrR O s a x R c 143 ≤ 60
  | 0 => h
  | c + 1 => by
    have ih := hrR_143 (O := O) (s := s) (a := a) (x := x) h c
    unfold hrR
    split
    · show 0 ≤ min 60 (csp (hrR O s a x R c) c 143 + 1) ∧ min 60 (csp (hrR O s a x R c) c 143 + 1) ≤ 60
      unfold csp
      by_cases e : 143 = 7 + 7 * c + 5
      · rw [← e, upf_s]; omega
      · rw [upf_o e]; omega
    · exact ih
theorem hrP_r {O : Nat → Nat → Int} {s : Nat} {x : Int} (hR : Ro R) : ∀ c, 0 ≤ hrP O s x R c ∧ hrP O s x R c ≤ 9 * c
  | 0 => ⟨Int.le_refl 0, Int.le_refl 0⟩
  | c + 1 => by
    have ih := hrP_r (O := O) (s := s) (x := x) hR c
    have d1 := dby_r (O c) (drw (nx1 (hrX s x c)) 1000)
    have h4 := hR.2.1 (hrE O s x c).toNat (by unfold hrE; omega)
    have h5 := hR.1 (hrE O s x c).toNat (by unfold hrE; omega)
    unfold hrP
    split <;> omega
set_option maxRecDepth 100000 in
theorem c_hear_1 {M2 M1 : pz_M} {s a g c : Nat} {x sd : Int} {t8 : pz_V} (hRo : Ro R) (hs : s < 256) (ha : a < 6) (hg : g < 2) (hc : c < 8) (h : HI M2 M1 L R (OO L R a g) s a x c) : ∃ M3 t8', pz_p bl_CC_hear (pz_cal (d + 4)) 0 0 81 [] [(2, 0), (0, (s : Int)), (0, (a : Int)), (1, sd), (9, 0), (0, (g : Int)), (0, hrP (OO L R a g) s x R c), (0, (c : Int)), (t8.1, t8.2)] [] ((pz_SH, ss, 0, 0, dd), M1) = pz_p bl_CC_hear (pz_cal (d + 4)) 0 0 81 [] [(2, 0), (0, (s : Int)), (0, (a : Int)), (1, sd), (9, 0), (0, (g : Int)), (0, hrP (OO L R a g) s x R (c + 1)), (0, (c : Int) + 1), t8'] [] ((pz_SH, ss, 0, 0, dd), M3) ∧ HI M2 M3 L R (OO L R a g) s a x (c + 1) := by
  obtain ⟨hR, hr, hx, hW, hf⟩ := h
  have hin := c_isIn (d := d + 3) (ss := ss) (dd := dd) (M := M1) (s := s) (k := c) (by omega) (by omega)
  by_cases hb : s.testBit c = true
  · rw [if_pos hb] at hin
    have e1 := c_Di_draw (d := d + 3) (ss := ss) (dd := dd) (M := M1) (k := 1000) (by decide)
    rw [hx] at e1
    have rdice : rf_L.all (fun q => q.1 != 134) = true := by decide +kernel
    have hR1 : Rf (pz_up M1 134 0 (nx1 (hrX s x c))) := Rf_up hR (fun q hq => .inl ((by decide +kernel : ∀ q ∈ rf_L, q.1 ≠ 134) q hq))
    have hW1 : We (pz_up M1 134 0 (nx1 (hrX s x c))) L R a s := We_o hW (fun k k1 k2 => by funext j; rw [up_at, if_neg (by omega)])
    have v1 : ∀ j, j < 144 → pz_up M1 134 0 (nx1 (hrX s x c)) 10 j = hrR (OO L R a g) s a x R c j := fun j hj => by rw [up_at, if_neg (by omega)]; exact hr j hj
    have x1 : pz_up M1 134 0 (nx1 (hrX s x c)) 134 0 = nx1 (hrX s x c) := rfl
    have f1 : ∀ k, k ≠ 10 → k ≠ 134 → pz_up M1 134 0 (nx1 (hrX s x c)) k = M2 k := fun k k1 k2 => by rw [← hf k k1 k2]; funext j; rw [up_at, if_neg (fun h => k2 h.1)]
    generalize pz_up M1 134 0 (nx1 (hrX s x c)) = Ma at *
    have e2 := c_Sc_deedBy (d := d + 1) (ss := ss) (dd := dd) (w := drw (nx1 (hrX s x c)) 1000) hR1 hW1 hg hb hc
    have e2 : pz_cal (d + 4) 71 [(2, 103), (0, (c : Int)), (0, (g : Int)), (0, drw (nx1 (hrX s x c)) 1000)] ((pz_SH, ss, 0, 0, dd), Ma) = some (some (0, hrE (OO L R a g) s x c), ((pz_SH, ss, 0, 0, dd), Ma)) := e2
    have der := dby_r (OO L R a g c) (drw (nx1 (hrX s x c)) 1000)
    have der : 0 ≤ hrE (OO L R a g) s x c ∧ hrE (OO L R a g) s x c < 4 := der
    have ca : Ct Ma 9 10 := ⟨rf_9_0 hR1, .inl ⟨rfl, rfl⟩⟩
    have e3 := k_ofCat (d := d + 3) (ss := ss) (dd := dd) (c := c) (w := 5) ca hc (by decide)
    rw [v1 _ (by omega), hrR_o c _ (by omega) (by omega) (fun c' _ => by omega)] at e3
    have e3 : pz_cal (d + 4) 15 [(2, 9), (0, (c : Int)), (0, 5)] ((pz_SH, ss, 0, 0, dd), Ma) = some (some (0, R (7 + 7 * c + 5)), ((pz_SH, ss, 0, 0, dd), Ma)) := e3
    have b5 := hRo.1 (7 + 7 * c + 5) (by omega)
    have e4 := k_setCat (d := d + 2) (ss := ss) (dd := dd) (c := c) (w := 5) (v := min 99 (R (7 + 7 * c + 5) + 1)) ca hc (by decide)
    have e4 : pz_cal (d + 4) 5 [(2, 9), (0, (c : Int)), (0, 5), (0, min 99 (R (7 + 7 * c + 5) + 1))] ((pz_SH, ss, 0, 0, dd), Ma) = some (none, ((pz_SH, ss, 0, 0, dd), pz_up Ma 10 (7 + 7 * c + 5) (min 99 (R (7 + 7 * c + 5) + 1)))) := e4
    have hR2 : Rf (pz_up Ma 10 (7 + 7 * c + 5) (min 99 (R (7 + 7 * c + 5) + 1))) := Rf_up hR1 (fun q hq => .inl ((by decide +kernel : ∀ q ∈ rf_L, q.1 ≠ 10) q hq))
    have v2 : ∀ j, j < 144 → pz_up Ma 10 (7 + 7 * c + 5) (min 99 (R (7 + 7 * c + 5) + 1)) 10 j = csp (hrR (OO L R a g) s a x R c) c j := by
      intro j hj
      unfold csp
      rw [up_f, nw_s, hrR_o c _ (by omega) (by omega) (fun c' _ => by omega)]
      exact upf_c v1 j hj
    have f2 : ∀ k, k ≠ 10 → pz_up Ma 10 (7 + 7 * c + 5) (min 99 (R (7 + 7 * c + 5) + 1)) k = Ma k := fun k k1 => by funext j; rw [up_at, if_neg (fun h => k1 h.1)]
    generalize pz_up Ma 10 (7 + 7 * c + 5) (min 99 (R (7 + 7 * c + 5) + 1)) = Mb at *
    have e5 := c_CC_entry (d := d + 3) (X := ((pz_SH, ss, 0, 0, dd), Mb)) (a := (c : Int)) (b := (a : Int)) (e := hrE (OO L R a g) s x c) rfl rfl (by omega) (by omega) (by omega)
    rw [show (c : Int) * 100 + (a : Int) * 10 + hrE (OO L R a g) s x c = 100 * (c : Int) + 10 * (a : Int) + hrE (OO L R a g) s x c by omega] at e5
    have b143 : 0 ≤ Mb 10 143 ∧ Mb 10 143 ≤ 60 := by
      rw [v2 143 (by decide)]
      unfold csp
      rw [upf_o (by omega)]
      exact hrR_143 ⟨(hRo.1 143 (by decide)).1, hRo.2.2.2.2.2.2⟩ c
    obtain ⟨f, e6, vf⟩ := c_write (d := d + 2) (ss := ss) (dd := dd) (e := 100 * (c : Int) + 10 * (a : Int) + hrE (OO L R a g) s x c) hR2 b143
    have hR3 : Rf (pz_nw Mb 10 f) := Rf_of hR2 (fun q hq => by rw [nw_o ((by decide +kernel : ∀ q ∈ rf_L, q.1 ≠ 10) q hq)])
    have v3 : ∀ j, j < 144 → pz_nw Mb 10 f 10 j = hrR (OO L R a g) s a x R (c + 1) j := by
      intro j hj
      rw [nw_s, vf j hj]
      show _ = (if s.testBit c then lgp (csp (hrR (OO L R a g) s a x R c) c) (100 * (c : Int) + 10 * (a : Int) + hrE (OO L R a g) s x c) else hrR (OO L R a g) s a x R c) j
      rw [if_pos hb]
      unfold lgp
      rw [v2 143 (by decide), v2 j hj]
      by_cases j3 : 81 < j ∧ (j : Int) < 81 + min 60 (csp (hrR (OO L R a g) s a x R c) c 143 + 1)
      · rw [v2 (j - 1) (by omega)]
      · rw [if_neg j3, if_neg j3]
    have cf : Ct (pz_nw Mb 10 f) 9 10 := ⟨rf_9_0 hR3, .inl ⟨rfl, rfl⟩⟩
    have e7 := k_ofBench (d := d + 3) (ss := ss) (dd := dd) (w := (hrE (OO L R a g) s x c).toNat) cf (by omega)
    rw [v3 _ (by omega), hrR_o _ _ (by omega) (by omega) (fun c' _ => by omega), show (((hrE (OO L R a g) s x c).toNat : Nat) : Int) = hrE (OO L R a g) s x c by omega] at e7
    have pr := hrP_r (O := OO L R a g) (s := s) (x := x) hRo c
    have h4 := hRo.2.1 (hrE (OO L R a g) s x c).toNat (by omega)
    have h5 := hRo.1 (hrE (OO L R a g) s x c).toNat (by omega)
    have hps : hrP (OO L R a g) s x R (c + 1) = hrP (OO L R a g) s x R c + R (hrE (OO L R a g) s x c).toNat := by rw [hrP, if_pos hb]
    refine ⟨pz_nw Mb 10 f, (0, hrE (OO L R a g) s x c), ?_, hR3, v3, ?_, We_o hW1 (fun k k1 k2 => by rw [nw_o (by omega), f2 k (by omega)]), fun k k1 k2 => by rw [nw_o k1, f2 k k1]; exact f1 k k1 k2⟩
    · rw [hps, j_CC_hear_81]
      simp (maxSteps := 1000000) (disch := omega) only [↓reduceIte, sp_0, sp_s, Option.map_some, Option.map_none, Option.some.injEq, o_le, o_nle, o_lt, o_nlt, o_eq, o_neq, w32_id, nw_s, px_iconst, px_bipush, px_sipush, px_ldc, px_ldc_w, px_lconst, px_ldc2_w, px_aconst_null, px_getstatic, px_iload_n, px_iload, px_lload_n, px_lload, px_aload_n, px_aload, px_istore_n, px_istore, px_astore_n, px_astore, px_lstore_n, px_lstore, px_iinc, px_iadd, px_isub, px_imul, px_iand, px_ior, px_ixor, px_ishl, px_ishr, px_iushr, px_ladd, px_lsub, px_lmul, px_land, px_lor, px_lcmp, px_lushr, px_lshl, px_ineg, px_i2l, px_l2i, px_idiv, px_irem, px_ldiv, px_lrem, px_dup0, px_pop0, px_dup2, px_pop2, px_dup2x, px_goto, px_if_eq, px_ic_eq, px_if_ne, px_ic_ne, px_if_lt, px_ic_lt, px_if_ge, px_ic_ge, px_if_gt, px_ic_gt, px_if_le, px_ic_le, px_ifnull, px_ifnonnull, px_lookupswitch, px_tableswitch, px_getfield, px_iaload, px_laload, px_caload, px_aaload, px_iastore, px_lastore, px_arraylength, px_putfield, px_ireturn, px_lreturn, px_areturn, px_return, px_iv0, px_is0, px_iv1, px_is1, px_iv2, px_is2, px_iv3, px_is3, px_iv4, px_is4, px_iv5, px_is5, px_iv6, px_is6, px_max, px_min, px_abs, px_maxJ, px_minJ, px_ii0, px_ii1, px_iio, px_copy, pz_cpk, pz_lk, pz_alk, pz_ask, pz_gfk, pz_lnk, pz_bx, pz_b, pz_z, pz_s1, pz_s2, pz_wt, pz_cmp, List.getElem?_cons_zero, List.getElem?_cons_succ, List.getElem?_nil, List.set_cons_zero, List.set_cons_succ, List.length_cons, List.length_nil, List.nil_append, List.cons_append, Option.toList_some, Option.toList_none, if_true, if_false, ite_true, ite_false, and_true, true_and, and_self, or_self, or_false, false_or, true_or, or_true, and_false, false_and, not_true_eq_false, not_false_eq_true, forall_const, ne_eq, reduceCtorEq, implies_true, false_implies, true_implies, Int.toNat_natCast, Nat.reduceAdd, Nat.reduceSub, Nat.reduceLT, Nat.reduceLeDiff, Nat.reduceEqDiff, Int.reduceLT, Int.reduceLE, Int.reduceToNat, Int.reduceNeg, Int.reduceEq, Int.reduceAdd, Nat.reduceMul, Int.reduceSub, Nat.reduceBEq, Int.reduceMul, Nat.add_zero, Nat.zero_add, Int.cast_ofNat_Int, Int.ofNat_eq_coe, decide_eq_true_eq, Nat.lt_irrefl, Nat.le_refl, List.getElem?_toArray, Option.elim_some, Option.elim_none, j_CC_hear_176, g_0, g_9, g_103, g_134, rf_0_15 hR, rf_0_16 hR, rf_0_6 hR1, rf_0_6 hR2, rf_0_6 hR3, hin, e1, e2, e3, e4, e5, e6, e7]
    · rw [nw_o (by decide), f2 134 (by decide), x1, hrX, if_pos hb]
  · rw [if_neg hb] at hin
    refine ⟨M1, t8, ?_, hR, ?_, ?_, hW, hf⟩
    · have hps : hrP (OO L R a g) s x R (c + 1) = hrP (OO L R a g) s x R c := by rw [hrP, if_neg hb]
      rw [hps, j_CC_hear_81]
      simp (maxSteps := 1000000) (disch := omega) only [↓reduceIte, sp_0, sp_s, Option.map_some, Option.map_none, Option.some.injEq, o_le, o_nle, o_lt, o_nlt, o_eq, o_neq, w32_id, nw_s, px_iconst, px_bipush, px_sipush, px_ldc, px_ldc_w, px_lconst, px_ldc2_w, px_aconst_null, px_getstatic, px_iload_n, px_iload, px_lload_n, px_lload, px_aload_n, px_aload, px_istore_n, px_istore, px_astore_n, px_astore, px_lstore_n, px_lstore, px_iinc, px_iadd, px_isub, px_imul, px_iand, px_ior, px_ixor, px_ishl, px_ishr, px_iushr, px_ladd, px_lsub, px_lmul, px_land, px_lor, px_lcmp, px_lushr, px_lshl, px_ineg, px_i2l, px_l2i, px_idiv, px_irem, px_ldiv, px_lrem, px_dup0, px_pop0, px_dup2, px_pop2, px_dup2x, px_goto, px_if_eq, px_ic_eq, px_if_ne, px_ic_ne, px_if_lt, px_ic_lt, px_if_ge, px_ic_ge, px_if_gt, px_ic_gt, px_if_le, px_ic_le, px_ifnull, px_ifnonnull, px_lookupswitch, px_tableswitch, px_getfield, px_iaload, px_laload, px_caload, px_aaload, px_iastore, px_lastore, px_arraylength, px_putfield, px_ireturn, px_lreturn, px_areturn, px_return, px_iv0, px_is0, px_iv1, px_is1, px_iv2, px_is2, px_iv3, px_is3, px_iv4, px_is4, px_iv5, px_is5, px_iv6, px_is6, px_max, px_min, px_abs, px_maxJ, px_minJ, px_ii0, px_ii1, px_iio, px_copy, pz_cpk, pz_lk, pz_alk, pz_ask, pz_gfk, pz_lnk, pz_bx, pz_b, pz_z, pz_s1, pz_s2, pz_wt, pz_cmp, List.getElem?_cons_zero, List.getElem?_cons_succ, List.getElem?_nil, List.set_cons_zero, List.set_cons_succ, List.length_cons, List.length_nil, List.nil_append, List.cons_append, Option.toList_some, Option.toList_none, if_true, if_false, ite_true, ite_false, and_true, true_and, and_self, or_self, or_false, false_or, true_or, or_true, and_false, false_and, not_true_eq_false, not_false_eq_true, forall_const, ne_eq, reduceCtorEq, implies_true, false_implies, true_implies, Int.toNat_natCast, Nat.reduceAdd, Nat.reduceSub, Nat.reduceLT, Nat.reduceLeDiff, Nat.reduceEqDiff, Int.reduceLT, Int.reduceLE, Int.reduceToNat, Int.reduceNeg, Int.reduceEq, Int.reduceAdd, Nat.reduceMul, Int.reduceSub, Nat.reduceBEq, Int.reduceMul, Nat.add_zero, Nat.zero_add, Int.cast_ofNat_Int, Int.ofNat_eq_coe, decide_eq_true_eq, Nat.lt_irrefl, Nat.le_refl, List.getElem?_toArray, Option.elim_some, Option.elim_none, j_CC_hear_176, hin]
    · intro j hj
      rw [hr j hj, hrR, if_neg hb]
    · rw [hx, hrX, if_neg hb]
def aHear (L : Option ((Nat → Int) → Int)) (R : Nat → Int) (s a : Nat) (x : Int) : Int := if R 4 ≤ hrP (OO L R a (gui R a x)) s (nx1 x) R 8 then 1 else 0
set_option maxRecDepth 100000 in
theorem c_CC_hear (h : Ev M L R) (hP : Ps M nx ln H) {s a x : Int} (hs : I32 s) : if StP R s ∧ AcP R a then ∃ M', pz_cal (d + 7) 133 [(2, 0), (0, s), (0, a), (1, x)] ((pz_SH, ss, 0, 0, dd), M) = some (some (0, aHear L R s.toNat a.toNat x), ((pz_SH, ss, 0, 0, dd), M')) ∧ Rf M' ∧ Z0 M' ∧ (∀ j, j < 144 → M' 10 j = hrR (OO L R a.toNat (gui R a.toNat x)) s.toNat a.toNat (nx1 x) R 8 j) ∧ Ps M' ((nx + 1) % 40) (min 40 (ln + 1)) (psh R H) ∧ (∀ c, c ∉ QMS → c ≠ 10 → c ≠ 134 → (c < 15 ∨ 97 ≤ c) → M' c = M c) else pz_cal (d + 7) 133 [(2, 0), (0, s), (0, a), (1, x)] ((pz_SH, ss, 0, 0, dd), M) = some (some (0, -1), ((pz_SH, ss, 0, 0, dd), M)) := by
  have e1 := c_isCase (d := d + 2) (ss := ss) (dd := dd) h (s := s) (a := a) hs
  have hR := h.1
  have hRo := h.2.2.2.1
  by_cases p1 : StP R s ∧ AcP R a
  · rw [if_pos p1] at e1
    rw [if_pos p1]
    obtain ⟨s, rfl, hs1, hs2, hs3⟩ := Ev_s h p1.1
    obtain ⟨a, rfl, ha⟩ := Ev_a h p1.2
    simp only [Int.toNat_natCast]
    obtain ⟨M1, M2, t1, t2, q1, q2, m2, w2⟩ := c_prep (d := d) (ss := ss) (dd := dd) h hs1 ha
    have h2 := Ev_Q h q2
    obtain ⟨M3, t3, r3, s3, v3, f3⟩ := c_keep (d := d + 4) (ss := ss) (dd := dd) h2.1 (Ps_Q hP q2)
    rw [h2.2.2.1] at s3 v3
    have t4 := c_Di_begin (d := d + 5) (ss := ss) (dd := dd) (M := M3) (x := x)
    have t5 := c_Di_draw (d := d + 5) (ss := ss) (dd := dd) (M := pz_up M3 134 0 x) (k := 100) (by decide)
    rw [show pz_up M3 134 0 x 134 0 = x from rfl] at t5
    have f5 : ∀ k, k ≠ 134 → pz_up (pz_up M3 134 0 x) 134 0 (nx1 x) k = M3 k := fun k hk => by funext j; rw [up_at, if_neg (fun h => hk h.1), up_at, if_neg (fun h => hk h.1)]
    have x5 : pz_up (pz_up M3 134 0 x) 134 0 (nx1 x) 134 0 = nx1 x := rfl
    have n134 : ∀ q ∈ rf_L, q.1 ≠ 134 := by decide +kernel
    have r4 : Rf (pz_up M3 134 0 x) := Rf_up r3 (fun q hq => .inl (n134 q hq))
    have r5 : Rf (pz_up (pz_up M3 134 0 x) 134 0 (nx1 x)) := Rf_up r4 (fun q hq => .inl (n134 q hq))
    generalize pz_up (pz_up M3 134 0 x) 134 0 (nx1 x) = M5 at *
    have c5 : Ct M5 9 10 := ⟨rf_9_0 r5, .inl ⟨rfl, rfl⟩⟩
    have t6 := k_ofAccused (d := d + 5) (ss := ss) (dd := dd) (c := a) (w := 0) c5 ha (by decide)
    rw [f5 10 (by decide), v3] at t6
    have t6 : pz_cal (d + 6) 13 [(2, 9), (0, (a : Int)), (0, 0)] ((pz_SH, ss, 0, 0, dd), M5) = some (some (0, R (63 + 3 * a)), ((pz_SH, ss, 0, 0, dd), M5)) := t6
    have hg2 : gui R a x < 2 := by unfold gui; split <;> decide
    have i5 : HI M5 M5 L R (OO L R a (gui R a x)) s a (nx1 x) 0 := ⟨r5, fun j hj => by rw [f5 10 (by decide), v3]; rfl, x5, We_o w2 (fun k k1 k2 => by rw [f5 k (by omega), f3 k (by omega) (by omega)]), fun _ _ _ => rfl⟩
    obtain ⟨⟨M6, x6⟩, i6, t7⟩ := lp0 (σ := pz_M × pz_V) 8 (s := (M5, (9, 0))) (F := fun c z => pz_p bl_CC_hear (pz_cal (d + 6)) 0 0 81 [] [(2, 0), (0, (s : Int)), (0, (a : Int)), (1, x), (9, 0), (0, (gui R a x : Int)), (0, hrP (OO L R a (gui R a x)) s (nx1 x) R c), (0, (c : Int)), (z.2.1, z.2.2)] [] ((pz_SH, ss, 0, 0, dd), z.1)) (fun c z => HI M5 z.1 L R (OO L R a (gui R a x)) s a (nx1 x) c) i5 (by
      intro c ⟨M1, y1⟩ hc i1
      obtain ⟨M3, y3, e3, i3⟩ := c_hear_1 (d := d + 2) (ss := ss) (dd := dd) (sd := x) (t8 := y1) hRo hs1 ha hg2 hc i1
      exact ⟨(M3, y3), i3, e3⟩)
    obtain ⟨r6, v6, x6', w6, f6⟩ := i6
    have r6 : Rf M6 := r6
    have v6 : ∀ j, j < 144 → M6 10 j = hrR (OO L R a (gui R a x)) s a (nx1 x) R 8 j := v6
    have f6 : ∀ k, k ≠ 10 → k ≠ 134 → M6 k = M5 k := f6
    have c6 : Ct M6 9 10 := ⟨rf_9_0 r6, .inl ⟨rfl, rfl⟩⟩
    have t8 := k_ofBench (d := d + 5) (ss := ss) (dd := dd) (w := 4) c6 (by decide)
    rw [v6 4 (by decide), hrR_o _ _ (by omega) (by omega) (fun c' _ => by omega)] at t8
    have t8 : pz_cal (d + 6) 11 [(2, 9), (0, 4)] ((pz_SH, ss, 0, 0, dd), M6) = some (some (0, R 4), ((pz_SH, ss, 0, 0, dd), M6)) := t8
    refine ⟨M6, ?_, r6, ?_, v6, ?_, ?_⟩
    · have t7 : pz_p bl_CC_hear (pz_cal (d + 6)) 0 0 81 [] [(2, 0), (0, (s : Int)), (0, (a : Int)), (1, x), (9, 0), (0, (gui R a x : Int)), (0, 0), (0, 0), (9, 0)] [] ((pz_SH, ss, 0, 0, dd), M5) = pz_p bl_CC_hear (pz_cal (d + 6)) 0 0 81 [] [(2, 0), (0, (s : Int)), (0, (a : Int)), (1, x), (9, 0), (0, (gui R a x : Int)), (0, hrP (OO L R a (gui R a x)) s (nx1 x) R 8), (0, 8), (x6.1, x6.2)] [] ((pz_SH, ss, 0, 0, dd), M6) := t7
      have t9 : pz_p bl_CC_hear (pz_cal (d + 6)) 0 0 81 [] [(2, 0), (0, (s : Int)), (0, (a : Int)), (1, x), (9, 0), (0, (gui R a x : Int)), (0, hrP (OO L R a (gui R a x)) s (nx1 x) R 8), (0, 8), (x6.1, x6.2)] [] ((pz_SH, ss, 0, 0, dd), M6) = some (some (0, aHear L R s a x), ((pz_SH, ss, 0, 0, dd), M6)) := by
        unfold aHear
        rw [j_CC_hear_81]
        by_cases hv : R 4 ≤ hrP (OO L R a (gui R a x)) s (nx1 x) R 8
        · rw [if_pos hv]
          simp (maxSteps := 1000000) (disch := omega) only [↓reduceIte, sp_0, sp_s, Option.map_some, Option.map_none, Option.some.injEq, o_le, o_nle, o_lt, o_nlt, o_eq, o_neq, w32_id, nw_s, px_iconst, px_bipush, px_sipush, px_ldc, px_ldc_w, px_lconst, px_ldc2_w, px_aconst_null, px_getstatic, px_iload_n, px_iload, px_lload_n, px_lload, px_aload_n, px_aload, px_istore_n, px_istore, px_astore_n, px_astore, px_lstore_n, px_lstore, px_iinc, px_iadd, px_isub, px_imul, px_iand, px_ior, px_ixor, px_ishl, px_ishr, px_iushr, px_ladd, px_lsub, px_lmul, px_land, px_lor, px_lcmp, px_lushr, px_lshl, px_ineg, px_i2l, px_l2i, px_idiv, px_irem, px_ldiv, px_lrem, px_dup0, px_pop0, px_dup2, px_pop2, px_dup2x, px_goto, px_if_eq, px_ic_eq, px_if_ne, px_ic_ne, px_if_lt, px_ic_lt, px_if_ge, px_ic_ge, px_if_gt, px_ic_gt, px_if_le, px_ic_le, px_ifnull, px_ifnonnull, px_lookupswitch, px_tableswitch, px_getfield, px_iaload, px_laload, px_caload, px_aaload, px_iastore, px_lastore, px_arraylength, px_putfield, px_ireturn, px_lreturn, px_areturn, px_return, px_iv0, px_is0, px_iv1, px_is1, px_iv2, px_is2, px_iv3, px_is3, px_iv4, px_is4, px_iv5, px_is5, px_iv6, px_is6, px_max, px_min, px_abs, px_maxJ, px_minJ, px_ii0, px_ii1, px_iio, px_copy, pz_cpk, pz_lk, pz_alk, pz_ask, pz_gfk, pz_lnk, pz_bx, pz_b, pz_z, pz_s1, pz_s2, pz_wt, pz_cmp, List.getElem?_cons_zero, List.getElem?_cons_succ, List.getElem?_nil, List.set_cons_zero, List.set_cons_succ, List.length_cons, List.length_nil, List.nil_append, List.cons_append, Option.toList_some, Option.toList_none, if_true, if_false, ite_true, ite_false, and_true, true_and, and_self, or_self, or_false, false_or, true_or, or_true, and_false, false_and, not_true_eq_false, not_false_eq_true, forall_const, ne_eq, reduceCtorEq, implies_true, false_implies, true_implies, Int.toNat_natCast, Nat.reduceAdd, Nat.reduceSub, Nat.reduceLT, Nat.reduceLeDiff, Nat.reduceEqDiff, Int.reduceLT, Int.reduceLE, Int.reduceToNat, Int.reduceNeg, Int.reduceEq, Int.reduceAdd, Nat.reduceMul, Int.reduceSub, Nat.reduceBEq, Int.reduceMul, Nat.add_zero, Nat.zero_add, Int.cast_ofNat_Int, Int.ofNat_eq_coe, decide_eq_true_eq, Nat.lt_irrefl, Nat.le_refl, List.getElem?_toArray, Option.elim_some, Option.elim_none, j_CC_hear_182, j_CC_hear_199, j_CC_hear_200, g_0, g_9, rf_0_6 r6, t8]
        · rw [if_neg hv]
          simp (maxSteps := 1000000) (disch := omega) only [↓reduceIte, sp_0, sp_s, Option.map_some, Option.map_none, Option.some.injEq, o_le, o_nle, o_lt, o_nlt, o_eq, o_neq, w32_id, nw_s, px_iconst, px_bipush, px_sipush, px_ldc, px_ldc_w, px_lconst, px_ldc2_w, px_aconst_null, px_getstatic, px_iload_n, px_iload, px_lload_n, px_lload, px_aload_n, px_aload, px_istore_n, px_istore, px_astore_n, px_astore, px_lstore_n, px_lstore, px_iinc, px_iadd, px_isub, px_imul, px_iand, px_ior, px_ixor, px_ishl, px_ishr, px_iushr, px_ladd, px_lsub, px_lmul, px_land, px_lor, px_lcmp, px_lushr, px_lshl, px_ineg, px_i2l, px_l2i, px_idiv, px_irem, px_ldiv, px_lrem, px_dup0, px_pop0, px_dup2, px_pop2, px_dup2x, px_goto, px_if_eq, px_ic_eq, px_if_ne, px_ic_ne, px_if_lt, px_ic_lt, px_if_ge, px_ic_ge, px_if_gt, px_ic_gt, px_if_le, px_ic_le, px_ifnull, px_ifnonnull, px_lookupswitch, px_tableswitch, px_getfield, px_iaload, px_laload, px_caload, px_aaload, px_iastore, px_lastore, px_arraylength, px_putfield, px_ireturn, px_lreturn, px_areturn, px_return, px_iv0, px_is0, px_iv1, px_is1, px_iv2, px_is2, px_iv3, px_is3, px_iv4, px_is4, px_iv5, px_is5, px_iv6, px_is6, px_max, px_min, px_abs, px_maxJ, px_minJ, px_ii0, px_ii1, px_iio, px_copy, pz_cpk, pz_lk, pz_alk, pz_ask, pz_gfk, pz_lnk, pz_bx, pz_b, pz_z, pz_s1, pz_s2, pz_wt, pz_cmp, List.getElem?_cons_zero, List.getElem?_cons_succ, List.getElem?_nil, List.set_cons_zero, List.set_cons_succ, List.length_cons, List.length_nil, List.nil_append, List.cons_append, Option.toList_some, Option.toList_none, if_true, if_false, ite_true, ite_false, and_true, true_and, and_self, or_self, or_false, false_or, true_or, or_true, and_false, false_and, not_true_eq_false, not_false_eq_true, forall_const, ne_eq, reduceCtorEq, implies_true, false_implies, true_implies, Int.toNat_natCast, Nat.reduceAdd, Nat.reduceSub, Nat.reduceLT, Nat.reduceLeDiff, Nat.reduceEqDiff, Int.reduceLT, Int.reduceLE, Int.reduceToNat, Int.reduceNeg, Int.reduceEq, Int.reduceAdd, Nat.reduceMul, Int.reduceSub, Nat.reduceBEq, Int.reduceMul, Nat.add_zero, Nat.zero_add, Int.cast_ofNat_Int, Int.ofNat_eq_coe, decide_eq_true_eq, Nat.lt_irrefl, Nat.le_refl, List.getElem?_toArray, Option.elim_some, Option.elim_none, j_CC_hear_182, j_CC_hear_199, j_CC_hear_200, g_0, g_9, rf_0_6 r6, t8]
      rw [← t9, ← t7]
      unfold gui
      by_cases hgu : drw (nx1 x) 100 < R (63 + 3 * a)
      · rw [if_pos hgu]
        simp (maxSteps := 1000000) (disch := omega) only [↓reduceIte, sp_0, sp_s, Option.map_some, Option.map_none, Option.some.injEq, o_le, o_nle, o_lt, o_nlt, o_eq, o_neq, w32_id, nw_s, px_iconst, px_bipush, px_sipush, px_ldc, px_ldc_w, px_lconst, px_ldc2_w, px_aconst_null, px_getstatic, px_iload_n, px_iload, px_lload_n, px_lload, px_aload_n, px_aload, px_istore_n, px_istore, px_astore_n, px_astore, px_lstore_n, px_lstore, px_iinc, px_iadd, px_isub, px_imul, px_iand, px_ior, px_ixor, px_ishl, px_ishr, px_iushr, px_ladd, px_lsub, px_lmul, px_land, px_lor, px_lcmp, px_lushr, px_lshl, px_ineg, px_i2l, px_l2i, px_idiv, px_irem, px_ldiv, px_lrem, px_dup0, px_pop0, px_dup2, px_pop2, px_dup2x, px_goto, px_if_eq, px_ic_eq, px_if_ne, px_ic_ne, px_if_lt, px_ic_lt, px_if_ge, px_ic_ge, px_if_gt, px_ic_gt, px_if_le, px_ic_le, px_ifnull, px_ifnonnull, px_lookupswitch, px_tableswitch, px_getfield, px_iaload, px_laload, px_caload, px_aaload, px_iastore, px_lastore, px_arraylength, px_putfield, px_ireturn, px_lreturn, px_areturn, px_return, px_iv0, px_is0, px_iv1, px_is1, px_iv2, px_is2, px_iv3, px_is3, px_iv4, px_is4, px_iv5, px_is5, px_iv6, px_is6, px_max, px_min, px_abs, px_maxJ, px_minJ, px_ii0, px_ii1, px_iio, px_copy, pz_cpk, pz_lk, pz_alk, pz_ask, pz_gfk, pz_lnk, pz_bx, pz_b, pz_z, pz_s1, pz_s2, pz_wt, pz_cmp, List.getElem?_cons_zero, List.getElem?_cons_succ, List.getElem?_nil, List.set_cons_zero, List.set_cons_succ, List.length_cons, List.length_nil, List.nil_append, List.cons_append, Option.toList_some, Option.toList_none, if_true, if_false, ite_true, ite_false, and_true, true_and, and_self, or_self, or_false, false_or, true_or, or_true, and_false, false_and, not_true_eq_false, not_false_eq_true, forall_const, ne_eq, reduceCtorEq, implies_true, false_implies, true_implies, Int.toNat_natCast, Nat.reduceAdd, Nat.reduceSub, Nat.reduceLT, Nat.reduceLeDiff, Nat.reduceEqDiff, Int.reduceLT, Int.reduceLE, Int.reduceToNat, Int.reduceNeg, Int.reduceEq, Int.reduceAdd, Nat.reduceMul, Int.reduceSub, Nat.reduceBEq, Int.reduceMul, Nat.add_zero, Nat.zero_add, Int.cast_ofNat_Int, Int.ofNat_eq_coe, decide_eq_true_eq, Nat.lt_irrefl, Nat.le_refl, List.getElem?_toArray, Option.elim_some, Option.elim_none, k_CC_hear, j_CC_hear_0, j_CC_hear_11, j_CC_hear_72, j_CC_hear_73, g_0, g_9, g_103, g_15, g_134, rf_0_6 hR, rf_0_15 q1.2.1, rf_0_10 q2.2.1, rf_0_6 q2.2.1, rf_0_16 r3, rf_0_16 r4, rf_0_6 r5, e1, t1, t2, t3, t4, t5, t6]
      · rw [if_neg hgu]
        simp (maxSteps := 1000000) (disch := omega) only [↓reduceIte, sp_0, sp_s, Option.map_some, Option.map_none, Option.some.injEq, o_le, o_nle, o_lt, o_nlt, o_eq, o_neq, w32_id, nw_s, px_iconst, px_bipush, px_sipush, px_ldc, px_ldc_w, px_lconst, px_ldc2_w, px_aconst_null, px_getstatic, px_iload_n, px_iload, px_lload_n, px_lload, px_aload_n, px_aload, px_istore_n, px_istore, px_astore_n, px_astore, px_lstore_n, px_lstore, px_iinc, px_iadd, px_isub, px_imul, px_iand, px_ior, px_ixor, px_ishl, px_ishr, px_iushr, px_ladd, px_lsub, px_lmul, px_land, px_lor, px_lcmp, px_lushr, px_lshl, px_ineg, px_i2l, px_l2i, px_idiv, px_irem, px_ldiv, px_lrem, px_dup0, px_pop0, px_dup2, px_pop2, px_dup2x, px_goto, px_if_eq, px_ic_eq, px_if_ne, px_ic_ne, px_if_lt, px_ic_lt, px_if_ge, px_ic_ge, px_if_gt, px_ic_gt, px_if_le, px_ic_le, px_ifnull, px_ifnonnull, px_lookupswitch, px_tableswitch, px_getfield, px_iaload, px_laload, px_caload, px_aaload, px_iastore, px_lastore, px_arraylength, px_putfield, px_ireturn, px_lreturn, px_areturn, px_return, px_iv0, px_is0, px_iv1, px_is1, px_iv2, px_is2, px_iv3, px_is3, px_iv4, px_is4, px_iv5, px_is5, px_iv6, px_is6, px_max, px_min, px_abs, px_maxJ, px_minJ, px_ii0, px_ii1, px_iio, px_copy, pz_cpk, pz_lk, pz_alk, pz_ask, pz_gfk, pz_lnk, pz_bx, pz_b, pz_z, pz_s1, pz_s2, pz_wt, pz_cmp, List.getElem?_cons_zero, List.getElem?_cons_succ, List.getElem?_nil, List.set_cons_zero, List.set_cons_succ, List.length_cons, List.length_nil, List.nil_append, List.cons_append, Option.toList_some, Option.toList_none, if_true, if_false, ite_true, ite_false, and_true, true_and, and_self, or_self, or_false, false_or, true_or, or_true, and_false, false_and, not_true_eq_false, not_false_eq_true, forall_const, ne_eq, reduceCtorEq, implies_true, false_implies, true_implies, Int.toNat_natCast, Nat.reduceAdd, Nat.reduceSub, Nat.reduceLT, Nat.reduceLeDiff, Nat.reduceEqDiff, Int.reduceLT, Int.reduceLE, Int.reduceToNat, Int.reduceNeg, Int.reduceEq, Int.reduceAdd, Nat.reduceMul, Int.reduceSub, Nat.reduceBEq, Int.reduceMul, Nat.add_zero, Nat.zero_add, Int.cast_ofNat_Int, Int.ofNat_eq_coe, decide_eq_true_eq, Nat.lt_irrefl, Nat.le_refl, List.getElem?_toArray, Option.elim_some, Option.elim_none, k_CC_hear, j_CC_hear_0, j_CC_hear_11, j_CC_hear_72, j_CC_hear_73, g_0, g_9, g_103, g_15, g_134, rf_0_6 hR, rf_0_15 q1.2.1, rf_0_10 q2.2.1, rf_0_6 q2.2.1, rf_0_16 r3, rf_0_16 r4, rf_0_6 r5, e1, t1, t2, t3, t4, t5, t6]
    · intro k k1 k2
      rw [f6 106 (by decide) (by decide), f6 121 (by decide) (by decide), f5 106 (by decide), f5 121 (by decide), f3 106 (by decide) (by decide), f3 121 (by decide) (by decide)]
      exact h2.2.1 k k1 k2
    · obtain ⟨p1, p2, p3, p4, p5⟩ := s3
      have g6 : ∀ c, 15 ≤ c → c ≤ 96 → M6 c = M3 c := fun c c1 c2 => by rw [f6 c (by omega) (by omega), f5 c (by omega)]
      refine ⟨by rw [g6 15 (by omega) (by omega)]; exact p1, p2, by rw [g6 15 (by omega) (by omega)]; exact p3, p4, fun i hi j hj => ?_⟩
      rw [g6 _ (by omega) (by omega)]
      exact p5 i hi j hj
    · intro c c1 c2 c3 c4
      rw [f6 c c2 c3, f5 c c3, f3 c c2 c4, q2.1 c c1]
  · rw [if_neg p1] at e1
    rw [if_neg p1]
    simp (maxSteps := 1000000) (disch := omega) only [↓reduceIte, sp_0, sp_s, Option.map_some, Option.map_none, Option.some.injEq, o_le, o_nle, o_lt, o_nlt, o_eq, o_neq, w32_id, up_at, nw_at, nw_s, k_CC_hear, px_iconst, px_bipush, px_sipush, px_ldc, px_ldc_w, px_lconst, px_ldc2_w, px_aconst_null, px_getstatic, px_iload_n, px_iload, px_lload_n, px_lload, px_aload_n, px_aload, px_istore_n, px_istore, px_astore_n, px_astore, px_lstore_n, px_lstore, px_iinc, px_iadd, px_isub, px_imul, px_iand, px_ior, px_ixor, px_ishl, px_ishr, px_iushr, px_ladd, px_lsub, px_lmul, px_land, px_lor, px_lcmp, px_lushr, px_lshl, px_ineg, px_i2l, px_l2i, px_idiv, px_irem, px_ldiv, px_lrem, px_dup0, px_pop0, px_dup2, px_pop2, px_dup2x, px_goto, px_if_eq, px_ic_eq, px_if_ne, px_ic_ne, px_if_lt, px_ic_lt, px_if_ge, px_ic_ge, px_if_gt, px_ic_gt, px_if_le, px_ic_le, px_ifnull, px_ifnonnull, px_lookupswitch, px_tableswitch, px_getfield, px_iaload, px_laload, px_caload, px_aaload, px_iastore, px_lastore, px_arraylength, px_putfield, px_ireturn, px_lreturn, px_areturn, px_return, px_iv0, px_is0, px_iv1, px_is1, px_iv2, px_is2, px_iv3, px_is3, px_iv4, px_is4, px_iv5, px_is5, px_iv6, px_is6, px_max, px_min, px_abs, px_maxJ, px_minJ, px_ii0, px_ii1, px_iio, px_copy, pz_cpk, pz_lk, pz_alk, pz_ask, pz_gfk, pz_lnk, pz_bx, pz_b, pz_z, pz_s1, pz_s2, pz_wt, pz_cmp, List.getElem?_cons_zero, List.getElem?_cons_succ, List.getElem?_nil, List.set_cons_zero, List.set_cons_succ, List.length_cons, List.length_nil, List.nil_append, List.cons_append, Option.toList_some, Option.toList_none, if_true, if_false, ite_true, ite_false, and_true, true_and, and_self, or_self, or_false, false_or, true_or, or_true, and_false, false_and, not_true_eq_false, not_false_eq_true, forall_const, ne_eq, reduceCtorEq, implies_true, false_implies, true_implies, Int.toNat_natCast, Nat.reduceAdd, Nat.reduceSub, Nat.reduceLT, Nat.reduceLeDiff, Nat.reduceEqDiff, Int.reduceLT, Int.reduceLE, Int.reduceToNat, Int.reduceNeg, Int.reduceEq, Int.reduceAdd, Nat.reduceMul, Int.reduceSub, Nat.reduceBEq, Int.reduceMul, Nat.add_zero, Nat.zero_add, Int.cast_ofNat_Int, Int.ofNat_eq_coe, decide_eq_true_eq, Nat.lt_irrefl, Nat.le_refl, List.getElem?_toArray, Option.elim_some, Option.elim_none, j_CC_hear_0, g_0, e1]
end P40
