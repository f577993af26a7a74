/-! THE REFERENCE READS A LAW: the whole of it -/
/-- what reading text t leaves -/
def Pl (t : Nat) (M M' : pz_M) : Prop := (∀ c, c ≠ 147 → (c < 149 ∨ 155 < c) → M' c = M c) ∧ (∀ j, j ≠ 3 → j ≠ 4 → j ≠ 5 → j ≠ 14 → M' 147 j = M 147 j) ∧ (∀ i, (i < 520 * t ∨ 520 * t + 520 ≤ i) → M' 149 i = M 149 i ∧ M' 150 i = M 150 i) ∧ (∀ i, i ≠ t → M' 151 i = M 151 i ∧ M' 152 i = M 152 i) ∧ ∀ i, (i < 140 * t ∨ 140 * t + 140 ≤ i) → M' 153 i = M 153 i ∧ M' 154 i = M 154 i ∧ M' 155 i = M 155 i
theorem Pl_Pr {t : Nat} {M M1 M2 : pz_M} (h : Pl t M M1) (g : Pr t M1 M2) : Pl t M M2 := ⟨fun c a b => (g.1 c a b).trans (h.1 c a b), fun j a b x _ => (g.2.1 j a b x).trans (h.2.1 j a b x (by assumption)), fun i a => ⟨(g.2.2.1 i a).1.trans (h.2.2.1 i a).1, (g.2.2.1 i a).2.trans (h.2.2.1 i a).2⟩, fun i a => ⟨(g.2.2.2.1 i a).1.trans (h.2.2.2.1 i a).1, (g.2.2.2.1 i a).2.trans (h.2.2.2.1 i a).2⟩, fun i a => ⟨(g.2.2.2.2 i a).1.trans (h.2.2.2.2 i a).1, (g.2.2.2.2 i a).2.1.trans (h.2.2.2.2 i a).2.1, (g.2.2.2.2 i a).2.2.trans (h.2.2.2.2 i a).2.2⟩⟩
theorem Rf_Pl {t : Nat} {M M' : pz_M} (h : Rf M) (q : Pl t M M') : Rf M' := Rf_of h (fun x hx => by
  have h1 : (x.1 < 149 ∨ 155 < x.1) ∧ (x.1 = 147 → x.2.1 ≠ 3 ∧ x.2.1 ≠ 4 ∧ x.2.1 ≠ 5 ∧ x.2.1 ≠ 14) := (by decide +kernel : ∀ x ∈ rf_L, (x.1 < 149 ∨ 155 < x.1) ∧ (x.1 = 147 → x.2.1 ≠ 3 ∧ x.2.1 ≠ 4 ∧ x.2.1 ≠ 5 ∧ x.2.1 ≠ 14)) x hx
  by_cases e : x.1 = 147
  · rw [e]; exact q.2.1 _ (h1.2 e).1 (h1.2 e).2.1 (h1.2 e).2.2.1 (h1.2 e).2.2.2
  · rw [q.1 _ e h1.1])
/-- how many codes stand ahead of clause i -/
def prl : List (Option Ex × Ex) → Nat → Nat
  | _, 0 => 0
  | [], _ + 1 => 0
  | x :: r, i + 1 => (xc x).length + prl r i
theorem prl_app : ∀ (a : List (Option Ex × Ex)) (x : Option Ex × Ex) (i : Nat), i ≤ a.length → prl (a ++ [x]) i = prl a i
  | [], x, 0, _ => rfl
  | [], x, i + 1, h => by simp at h
  | y :: r, x, 0, _ => rfl
  | y :: r, x, i + 1, h => by
    show (xc y).length + prl (r ++ [x]) i = (xc y).length + prl r i
    rw [prl_app r x i (by simpa using h)]
theorem prl_end : ∀ (a : List (Option Ex × Ex)) (x : Option Ex × Ex), prl (a ++ [x]) (a.length + 1) = prl a a.length + (xc x).length
  | [], x => by show (xc x).length + prl [] 0 = 0 + (xc x).length; show (xc x).length + 0 = _; omega
  | y :: r, x => by
    show (xc y).length + prl (r ++ [x]) (r.length + 1) = (xc y).length + prl r r.length + (xc x).length
    rw [prl_end r x]; omega
theorem prl_le : ∀ (a : List (Option Ex × Ex)) (i : Nat) (x : Option Ex × Ex), a[i]? = some x → prl a i + (xc x).length ≤ prl a a.length
  | [], i, x, h => by simp at h
  | y :: r, 0, x, h => by
    have h : some y = some x := h
    rw [← Option.some.inj h]
    show 0 + (xc y).length ≤ (xc y).length + prl r r.length
    omega
  | y :: r, i + 1, x, h => by
    have := prl_le r i x h
    show (xc y).length + prl r i + (xc x).length ≤ (xc y).length + prl r r.length
    omega
/-- text t of the reference is the law lw -/
def LRm (M : pz_M) (t : Nat) (lw : List (Option Ex × Ex)) : Prop := M 152 t = (lw.length : Int) ∧ lw.length ≤ 120 ∧ prl lw lw.length ≤ 240 ∧ ∀ i x, lw[i]? = some x → CL M t i (prl lw i) x
theorem CL_old {M M' : pz_M} {t i l m L : Nat} {x : Option Ex × Ex} (h : CL M t i l x) (hi : i < m) (hl : l + (xc x).length ≤ L) (h1 : ∀ i, i < L → M' 149 (520 * t + i) = M 149 (520 * t + i) ∧ M' 150 (520 * t + i) = M 150 (520 * t + i)) (h2 : ∀ i, i < m → M' 153 (140 * t + i) = M 153 (140 * t + i) ∧ M' 154 (140 * t + i) = M 154 (140 * t + i) ∧ M' 155 (140 * t + i) = M 155 (140 * t + i)) : CL M' t i l x := by
  obtain ⟨a, b, c, e⟩ := h
  have g := h2 i hi
  refine ⟨g.1.trans a, g.2.1.trans b, g.2.2.trans c, fun k u hk => ?_⟩
  have hk2 : k < (xc x).length := by
    by_cases q : k < (xc x).length
    · exact q
    · rw [List.getElem?_eq_none (by omega)] at hk; simp at hk
  have f := h1 (l + k) (by omega)
  have e := e k u hk
  exact ⟨f.1.trans e.1, f.2.trans e.2⟩
theorem LRm_fr {M M' : pz_M} {t : Nat} {lw : List (Option Ex × Ex)} (h : LRm M t lw) (h2 : M' 152 t = M 152 t) (h1 : ∀ i, i < 240 → M' 149 (520 * t + i) = M 149 (520 * t + i) ∧ M' 150 (520 * t + i) = M 150 (520 * t + i)) (h3 : ∀ i, i < 120 → M' 153 (140 * t + i) = M 153 (140 * t + i) ∧ M' 154 (140 * t + i) = M 154 (140 * t + i) ∧ M' 155 (140 * t + i) = M 155 (140 * t + i)) : LRm M' t lw := by
  obtain ⟨a, b, c, e⟩ := h
  refine ⟨h2.trans a, b, c, fun i x hx => ?_⟩
  have hi : i < lw.length := by
    by_cases q : i < lw.length
    · exact q
    · rw [List.getElem?_eq_none (by omega)] at hx; simp at hx
  exact CL_old (m := 120) (L := 240) (e i x hx) (by omega) (by have := prl_le lw i x hx; omega) h1 h3
/-- the answer of a reading -/
def Rv {α : Type} (r : Rs α) : Int := match r with
  | .inl _ => -1
  | .inr w => (w : Int)
def gEd (T : Nat → Int) (n : Nat) (r : Rs (List (Option Ex × Ex))) : Rs (List (Option Ex × Ex)) := match r with
  | .inl y => if ch T n (bl T n y.2) = -1 then .inl (y.1, bl T n y.2) else .inr (bl T n y.2)
  | .inr w => .inr w
def gNx (T : Nat → Int) (n f : Nat) (a : List (Option Ex × Ex)) (r : Rs (Option Ex × Ex)) : Rs (List (Option Ex × Ex)) := match r with
  | .inl z => gLs T n f (a ++ [z.1]) z.2
  | .inr w => .inr w
theorem gLw_eq {T : Nat → Int} {n : Nat} : gLw T n = gEd T n (gNx T n 240 [] (gCl T n 0)) := by
  unfold gLw
  match gCl T n 0 with
  | .inl z => rfl
  | .inr w => rfl
section P82
variable {d : Nat} {ss : List (Nat × Nat)} {dd : Nat} {T : Nat → Int} {n : Nat} {M : pz_M}
set_option maxRecDepth 100000 in
theorem m_open {t : Nat} (hR : Rf M) (ht : t ≤ 4) : pz_cal (d + 1) 197 [(2, 147), (0, (t : Int))] ((pz_SH, ss, 0, 0, dd), M) = some (none, ((pz_SH, ss, 0, 0, dd), pz_up (pz_up (pz_up (pz_up (pz_up (pz_up M 147 14 (t : Int)) 147 3 0) 147 4 (-1)) 147 5 0) 151 t 0) 152 t 0)) := by
  simp (maxSteps := 1000000) (disch := omega) only [↓reduceIte, sp_0, sp_s, Option.map_some, Option.map_none, Option.some.injEq, o_le, o_nle, o_lt, o_nlt, o_eq, o_neq, w32_id, up_at, nw_at, nw_s, k_Mo_open, px_iconst, px_bipush, px_sipush, px_ldc, px_ldc_w, px_lconst, px_ldc2_w, px_aconst_null, px_getstatic, px_iload_n, px_iload, px_lload_n, px_lload, px_aload_n, px_aload, px_istore_n, px_istore, px_astore_n, px_astore, px_lstore_n, px_lstore, px_iinc, px_iadd, px_isub, px_imul, px_iand, px_ior, px_ixor, px_ishl, px_ishr, px_iushr, px_ladd, px_lsub, px_lmul, px_land, px_lor, px_lcmp, px_lushr, px_lshl, px_ineg, px_i2l, px_l2i, px_idiv, px_irem, px_ldiv, px_lrem, px_dup0, px_pop0, px_dup2, px_pop2, px_dup2x, px_goto, px_if_eq, px_ic_eq, px_if_ne, px_ic_ne, px_if_lt, px_ic_lt, px_if_ge, px_ic_ge, px_if_gt, px_ic_gt, px_if_le, px_ic_le, px_ifnull, px_ifnonnull, px_lookupswitch, px_tableswitch, px_getfield, px_iaload, px_laload, px_caload, px_aaload, px_iastore, px_lastore, px_arraylength, px_putfield, px_ireturn, px_lreturn, px_areturn, px_return, px_iv0, px_is0, px_iv1, px_is1, px_iv2, px_is2, px_iv3, px_is3, px_iv4, px_is4, px_iv5, px_is5, px_iv6, px_is6, px_max, px_min, px_abs, px_maxJ, px_minJ, px_ii0, px_ii1, px_iio, px_copy, pz_cpk, pz_lk, pz_alk, pz_ask, pz_gfk, pz_lnk, pz_bx, pz_b, pz_z, pz_s1, pz_s2, pz_wt, pz_cmp, List.getElem?_cons_zero, List.getElem?_cons_succ, List.getElem?_nil, List.set_cons_zero, List.set_cons_succ, List.length_cons, List.length_nil, List.nil_append, List.cons_append, Option.toList_some, Option.toList_none, if_true, if_false, ite_true, ite_false, and_true, true_and, and_self, or_self, or_false, false_or, true_or, or_true, and_false, false_and, not_true_eq_false, not_false_eq_true, forall_const, ne_eq, reduceCtorEq, implies_true, false_implies, true_implies, Int.toNat_natCast, Nat.reduceAdd, Nat.reduceSub, Nat.reduceLT, Nat.reduceLeDiff, Nat.reduceEqDiff, Int.reduceLT, Int.reduceLE, Int.reduceToNat, Int.reduceNeg, Int.reduceEq, Int.reduceAdd, Nat.reduceMul, Int.reduceSub, Nat.reduceBEq, Int.reduceMul, Nat.add_zero, Nat.zero_add, Int.cast_ofNat_Int, Int.ofNat_eq_coe, decide_eq_true_eq, Nat.lt_irrefl, Nat.le_refl, List.getElem?_toArray, Option.elim_some, Option.elim_none, j_Mo_open_0, g_147, g_151, g_152, rf_147_8 hR, rf_147_9 hR]
set_option maxRecDepth 100000 in
theorem m_atEnd_w {w : Nat} (h4 : M 147 4 = (w : Int)) : pz_cal (d + 1) 213 [(2, 147)] ((pz_SH, ss, 0, 0, dd), M) = some (some (0, (w : Int)), ((pz_SH, ss, 0, 0, dd), M)) := by
  simp (maxSteps := 1000000) (disch := omega) only [↓reduceIte, sp_0, sp_s, Option.map_some, Option.map_none, Option.some.injEq, o_le, o_nle, o_lt, o_nlt, o_eq, o_neq, w32_id, up_at, nw_at, nw_s, k_Mo_atEnd, px_iconst, px_bipush, px_sipush, px_ldc, px_ldc_w, px_lconst, px_ldc2_w, px_aconst_null, px_getstatic, px_iload_n, px_iload, px_lload_n, px_lload, px_aload_n, px_aload, px_istore_n, px_istore, px_astore_n, px_astore, px_lstore_n, px_lstore, px_iinc, px_iadd, px_isub, px_imul, px_iand, px_ior, px_ixor, px_ishl, px_ishr, px_iushr, px_ladd, px_lsub, px_lmul, px_land, px_lor, px_lcmp, px_lushr, px_lshl, px_ineg, px_i2l, px_l2i, px_idiv, px_irem, px_ldiv, px_lrem, px_dup0, px_pop0, px_dup2, px_pop2, px_dup2x, px_goto, px_if_eq, px_ic_eq, px_if_ne, px_ic_ne, px_if_lt, px_ic_lt, px_if_ge, px_ic_ge, px_if_gt, px_ic_gt, px_if_le, px_ic_le, px_ifnull, px_ifnonnull, px_lookupswitch, px_tableswitch, px_getfield, px_iaload, px_laload, px_caload, px_aaload, px_iastore, px_lastore, px_arraylength, px_putfield, px_ireturn, px_lreturn, px_areturn, px_return, px_iv0, px_is0, px_iv1, px_is1, px_iv2, px_is2, px_iv3, px_is3, px_iv4, px_is4, px_iv5, px_is5, px_iv6, px_is6, px_max, px_min, px_abs, px_maxJ, px_minJ, px_ii0, px_ii1, px_iio, px_copy, pz_cpk, pz_lk, pz_alk, pz_ask, pz_gfk, pz_lnk, pz_bx, pz_b, pz_z, pz_s1, pz_s2, pz_wt, pz_cmp, List.getElem?_cons_zero, List.getElem?_cons_succ, List.getElem?_nil, List.set_cons_zero, List.set_cons_succ, List.length_cons, List.length_nil, List.nil_append, List.cons_append, Option.toList_some, Option.toList_none, if_true, if_false, ite_true, ite_false, and_true, true_and, and_self, or_self, or_false, false_or, true_or, or_true, and_false, false_and, not_true_eq_false, not_false_eq_true, forall_const, ne_eq, reduceCtorEq, implies_true, false_implies, true_implies, Int.toNat_natCast, Nat.reduceAdd, Nat.reduceSub, Nat.reduceLT, Nat.reduceLeDiff, Nat.reduceEqDiff, Int.reduceLT, Int.reduceLE, Int.reduceToNat, Int.reduceNeg, Int.reduceEq, Int.reduceAdd, Nat.reduceMul, Int.reduceSub, Nat.reduceBEq, Int.reduceMul, Nat.add_zero, Nat.zero_add, Int.cast_ofNat_Int, Int.ofNat_eq_coe, decide_eq_true_eq, Nat.lt_irrefl, Nat.le_refl, List.getElem?_toArray, Option.elim_some, Option.elim_none, j_Mo_atEnd_0, j_Mo_atEnd_20, g_147, h4]
set_option maxRecDepth 100000 in
theorem m_atEnd {p : Nat} (hR : Rf M) (hT : TR M T n) (h3 : M 147 3 = (p : Int)) (hp : p ≤ n) (h4 : M 147 4 = -1) : pz_cal (d + 3) 213 [(2, 147)] ((pz_SH, ss, 0, 0, dd), M) = if ch T n (bl T n p) = -1 then some (some (0, -1), ((pz_SH, ss, 0, 0, dd), pz_up M 147 3 (bl T n p : Int))) else some (some (0, (bl T n p : Int)), ((pz_SH, ss, 0, 0, dd), pz_up (pz_up M 147 3 (bl T n p : Int)) 147 4 (bl T n p : Int))) := by
  have e1 := m_look (d := d) (ss := ss) (dd := dd) hR hT h3 hp
  have h31 : pz_up M 147 3 (bl T n p : Int) 147 3 = (bl T n p : Int) := u7_3
  have h41 : pz_up M 147 3 (bl T n p : Int) 147 4 = -1 := by rw [u7_o (by decide)]; exact h4
  by_cases c : ch T n (bl T n p) = -1
  · rw [if_pos c]
    rw [c] at e1
    generalize pz_up M 147 3 (bl T n p : Int) = M1 at *
    simp (maxSteps := 1000000) (disch := omega) only [↓reduceIte, sp_0, sp_s, Option.map_some, Option.map_none, Option.some.injEq, o_le, o_nle, o_lt, o_nlt, o_eq, o_neq, w32_id, up_at, nw_at, nw_s, k_Mo_atEnd, px_iconst, px_bipush, px_sipush, px_ldc, px_ldc_w, px_lconst, px_ldc2_w, px_aconst_null, px_getstatic, px_iload_n, px_iload, px_lload_n, px_lload, px_aload_n, px_aload, px_istore_n, px_istore, px_astore_n, px_astore, px_lstore_n, px_lstore, px_iinc, px_iadd, px_isub, px_imul, px_iand, px_ior, px_ixor, px_ishl, px_ishr, px_iushr, px_ladd, px_lsub, px_lmul, px_land, px_lor, px_lcmp, px_lushr, px_lshl, px_ineg, px_i2l, px_l2i, px_idiv, px_irem, px_ldiv, px_lrem, px_dup0, px_pop0, px_dup2, px_pop2, px_dup2x, px_goto, px_if_eq, px_ic_eq, px_if_ne, px_ic_ne, px_if_lt, px_ic_lt, px_if_ge, px_ic_ge, px_if_gt, px_ic_gt, px_if_le, px_ic_le, px_ifnull, px_ifnonnull, px_lookupswitch, px_tableswitch, px_getfield, px_iaload, px_laload, px_caload, px_aaload, px_iastore, px_lastore, px_arraylength, px_putfield, px_ireturn, px_lreturn, px_areturn, px_return, px_iv0, px_is0, px_iv1, px_is1, px_iv2, px_is2, px_iv3, px_is3, px_iv4, px_is4, px_iv5, px_is5, px_iv6, px_is6, px_max, px_min, px_abs, px_maxJ, px_minJ, px_ii0, px_ii1, px_iio, px_copy, pz_cpk, pz_lk, pz_alk, pz_ask, pz_gfk, pz_lnk, pz_bx, pz_b, pz_z, pz_s1, pz_s2, pz_wt, pz_cmp, List.getElem?_cons_zero, List.getElem?_cons_succ, List.getElem?_nil, List.set_cons_zero, List.set_cons_succ, List.length_cons, List.length_nil, List.nil_append, List.cons_append, Option.toList_some, Option.toList_none, if_true, if_false, ite_true, ite_false, and_true, true_and, and_self, or_self, or_false, false_or, true_or, or_true, and_false, false_and, not_true_eq_false, not_false_eq_true, forall_const, ne_eq, reduceCtorEq, implies_true, false_implies, true_implies, Int.toNat_natCast, Nat.reduceAdd, Nat.reduceSub, Nat.reduceLT, Nat.reduceLeDiff, Nat.reduceEqDiff, Int.reduceLT, Int.reduceLE, Int.reduceToNat, Int.reduceNeg, Int.reduceEq, Int.reduceAdd, Nat.reduceMul, Int.reduceSub, Nat.reduceBEq, Int.reduceMul, Nat.add_zero, Nat.zero_add, Int.cast_ofNat_Int, Int.ofNat_eq_coe, decide_eq_true_eq, Nat.lt_irrefl, Nat.le_refl, List.getElem?_toArray, Option.elim_some, Option.elim_none, j_Mo_atEnd_0, j_Mo_atEnd_20, g_147, h4, e1, h41]
  · rw [if_neg c]
    have e2 := m_bad (d := d + 1) (ss := ss) (dd := dd) h31 h41
    have h42 : pz_up (pz_up M 147 3 (bl T n p : Int)) 147 4 (bl T n p : Int) 147 4 = (bl T n p : Int) := u7_4
    generalize ch T n (bl T n p) = cc at *
    generalize pz_up (pz_up M 147 3 (bl T n p : Int)) 147 4 (bl T n p : Int) = M2 at *
    generalize pz_up M 147 3 (bl T n p : Int) = M1 at *
    simp (maxSteps := 1000000) (disch := omega) only [↓reduceIte, sp_0, sp_s, Option.map_some, Option.map_none, Option.some.injEq, o_le, o_nle, o_lt, o_nlt, o_eq, o_neq, w32_id, up_at, nw_at, nw_s, k_Mo_atEnd, px_iconst, px_bipush, px_sipush, px_ldc, px_ldc_w, px_lconst, px_ldc2_w, px_aconst_null, px_getstatic, px_iload_n, px_iload, px_lload_n, px_lload, px_aload_n, px_aload, px_istore_n, px_istore, px_astore_n, px_astore, px_lstore_n, px_lstore, px_iinc, px_iadd, px_isub, px_imul, px_iand, px_ior, px_ixor, px_ishl, px_ishr, px_iushr, px_ladd, px_lsub, px_lmul, px_land, px_lor, px_lcmp, px_lushr, px_lshl, px_ineg, px_i2l, px_l2i, px_idiv, px_irem, px_ldiv, px_lrem, px_dup0, px_pop0, px_dup2, px_pop2, px_dup2x, px_goto, px_if_eq, px_ic_eq, px_if_ne, px_ic_ne, px_if_lt, px_ic_lt, px_if_ge, px_ic_ge, px_if_gt, px_ic_gt, px_if_le, px_ic_le, px_ifnull, px_ifnonnull, px_lookupswitch, px_tableswitch, px_getfield, px_iaload, px_laload, px_caload, px_aaload, px_iastore, px_lastore, px_arraylength, px_putfield, px_ireturn, px_lreturn, px_areturn, px_return, px_iv0, px_is0, px_iv1, px_is1, px_iv2, px_is2, px_iv3, px_is3, px_iv4, px_is4, px_iv5, px_is5, px_iv6, px_is6, px_max, px_min, px_abs, px_maxJ, px_minJ, px_ii0, px_ii1, px_iio, px_copy, pz_cpk, pz_lk, pz_alk, pz_ask, pz_gfk, pz_lnk, pz_bx, pz_b, pz_z, pz_s1, pz_s2, pz_wt, pz_cmp, List.getElem?_cons_zero, List.getElem?_cons_succ, List.getElem?_nil, List.set_cons_zero, List.set_cons_succ, List.length_cons, List.length_nil, List.nil_append, List.cons_append, Option.toList_some, Option.toList_none, if_true, if_false, ite_true, ite_false, and_true, true_and, and_self, or_self, or_false, false_or, true_or, or_true, and_false, false_and, not_true_eq_false, not_false_eq_true, forall_const, ne_eq, reduceCtorEq, implies_true, false_implies, true_implies, Int.toNat_natCast, Nat.reduceAdd, Nat.reduceSub, Nat.reduceLT, Nat.reduceLeDiff, Nat.reduceEqDiff, Int.reduceLT, Int.reduceLE, Int.reduceToNat, Int.reduceNeg, Int.reduceEq, Int.reduceAdd, Nat.reduceMul, Int.reduceSub, Nat.reduceBEq, Int.reduceMul, Nat.add_zero, Nat.zero_add, Int.cast_ofNat_Int, Int.ofNat_eq_coe, decide_eq_true_eq, Nat.lt_irrefl, Nat.le_refl, List.getElem?_toArray, Option.elim_some, Option.elim_none, j_Mo_atEnd_0, j_Mo_atEnd_20, g_147, h4, e1, e2, h42]
/-- the reference stands behind clauses a -/
def Sl (M : pz_M) (T : Nat → Int) (n t p : Nat) (a : List (Option Ex × Ex)) : Prop := Sr M T n p (prl a a.length) t 0 ∧ M 152 t = (a.length : Int) ∧ 2 * a.length ≤ p ∧ ∀ i x, a[i]? = some x → CL M t i (prl a i) x
theorem Sl_next {M M' : pz_M} {t p p1 : Nat} {a : List (Option Ex × Ex)} {z : (Option Ex × Ex) × Nat} (hR' : Rf M') (hT' : TR M' T n) (h14 : M' 147 14 = (t : Int)) (hs : Sl M T n t p a) (hp : p ≤ p1) (r : Rqc M t a.length (prl a a.length) (.inl z) M') (g : Gc n p1 (.inl z)) : Sl M' T n t z.2 (a ++ [z.1]) := by
  obtain ⟨f, q1, q2, q3, q4, q5, q6, q7, q8⟩ := r
  obtain ⟨S, c, l, C⟩ := hs
  have hl : (a ++ [z.1]).length = a.length + 1 := by simp
  have e := prl_end a z.1
  have hp0 := S.2.2.2.2.2.2.2.2
  have g1 := g.1
  have g2 := g.2.1
  have gl : (xc z.1).length + 1 ≤ cln z.1 ∧ 2 ≤ cln z.1 := by
    have gx := g.2.2.1.2.1
    match hz : z.1, gx with
    | (none, s), gx => exact ⟨Nat.le_refl _, by have gx : 1 ≤ s.1.length := gx; show 2 ≤ s.1.length + 1; omega⟩
    | (some c, s), gx => exact ⟨by show (c.1 ++ s.1).length + 1 ≤ c.1.length + s.1.length + 2; rw [List.length_append]; omega, by show 2 ≤ c.1.length + s.1.length + 2; omega⟩
  refine ⟨⟨hR', hT', q1, g1, q2, q3, h14, by rw [hl, e]; exact q5, by rw [hl, e]; omega⟩, by rw [hl]; exact q4, by rw [hl]; omega, fun i x hx => ?_⟩
  by_cases hi : i < a.length
  · rw [List.getElem?_append_left hi] at hx
    rw [prl_app a z.1 i (by omega)]
    exact CL_old (C i x hx) hi (prl_le a i x hx) q7 q8
  · have hi2 : i = a.length := by
      by_cases q : i < a.length + 1
      · omega
      · rw [List.getElem?_eq_none (by rw [hl]; omega)] at hx; simp at hx
    subst hi2
    rw [List.getElem?_append_right (Nat.le_refl _), Nat.sub_self] at hx
    have hx : some z.1 = some x := hx
    rw [← Option.some.inj hx, prl_app a z.1 _ (Nat.le_refl _)]
    exact q6
set_option maxRecDepth 100000 in
theorem m_readLaw {t : Nat} (hR : Rf M) (hT : TR M T n) (ht : t ≤ 4) : ∃ M', pz_cal (d + 37) 196 [(2, 147), (0, (t : Int))] ((pz_SH, ss, 0, 0, dd), M) = some (some (0, Rv (gLw T n)), ((pz_SH, ss, 0, 0, dd), M')) ∧ Pl t M M' ∧ ∀ z, gLw T n = .inl z → LRm M' t z.1 := by
  have n240 := hT.2.1
  have e1 := m_open (d := d + 35) (ss := ss) (dd := dd) hR ht
  have hP1 : Pl t M (pz_up (pz_up (pz_up (pz_up (pz_up (pz_up M 147 14 (t : Int)) 147 3 0) 147 4 (-1)) 147 5 0) 151 t 0) 152 t 0) := by
    refine ⟨fun c a b => ?_, fun j a b x y => ?_, fun i a => ⟨?_, ?_⟩, fun i a => ⟨?_, ?_⟩, fun i a => ⟨?_, ?_, ?_⟩⟩
    · funext z
      rw [up_at, if_neg (by omega), up_at, if_neg (by omega), up_at, if_neg (by omega), up_at, if_neg (by omega), up_at, if_neg (by omega), up_at, if_neg (by omega)]
    all_goals rw [up_at, if_neg (by omega), up_at, if_neg (by omega), up_at, if_neg (by omega), up_at, if_neg (by omega), up_at, if_neg (by omega), up_at, if_neg (by omega)]
  have v3 : pz_up (pz_up (pz_up (pz_up (pz_up (pz_up M 147 14 (t : Int)) 147 3 0) 147 4 (-1)) 147 5 0) 151 t 0) 152 t 0 147 3 = ((0 : Nat) : Int) := by rw [up_at, if_neg (by omega), up_at, if_neg (by omega), up_at, if_neg (by omega), up_at, if_neg (by omega), up_at, if_pos ⟨rfl, rfl⟩]; rfl
  have v4 : pz_up (pz_up (pz_up (pz_up (pz_up (pz_up M 147 14 (t : Int)) 147 3 0) 147 4 (-1)) 147 5 0) 151 t 0) 152 t 0 147 4 = -1 := by rw [up_at, if_neg (by omega), up_at, if_neg (by omega), up_at, if_neg (by omega), up_at, if_pos ⟨rfl, rfl⟩]
  have v5 : pz_up (pz_up (pz_up (pz_up (pz_up (pz_up M 147 14 (t : Int)) 147 3 0) 147 4 (-1)) 147 5 0) 151 t 0) 152 t 0 147 5 = 0 := by rw [up_at, if_neg (by omega), up_at, if_neg (by omega), up_at, if_pos ⟨rfl, rfl⟩]
  have v14 : pz_up (pz_up (pz_up (pz_up (pz_up (pz_up M 147 14 (t : Int)) 147 3 0) 147 4 (-1)) 147 5 0) 151 t 0) 152 t 0 147 14 = (t : Int) := by rw [up_at, if_neg (by omega), up_at, if_neg (by omega), up_at, if_neg (by omega), up_at, if_neg (by omega), up_at, if_neg (by omega), up_at, if_pos ⟨rfl, rfl⟩]
  have v51 : pz_up (pz_up (pz_up (pz_up (pz_up (pz_up M 147 14 (t : Int)) 147 3 0) 147 4 (-1)) 147 5 0) 151 t 0) 152 t 0 151 t = ((0 : Nat) : Int) := by rw [up_at, if_neg (by omega), up_at, if_pos ⟨rfl, rfl⟩]; rfl
  have v52 : pz_up (pz_up (pz_up (pz_up (pz_up (pz_up M 147 14 (t : Int)) 147 3 0) 147 4 (-1)) 147 5 0) 151 t 0) 152 t 0 152 t = ((0 : Nat) : Int) := by rw [up_at, if_pos ⟨rfl, rfl⟩]; rfl
  generalize pz_up (pz_up (pz_up (pz_up (pz_up (pz_up M 147 14 (t : Int)) 147 3 0) 147 4 (-1)) 147 5 0) 151 t 0) 152 t 0 = M1 at *
  have hR1 := Rf_Pl hR hP1
  have hT1 : TR M1 T n := ⟨by rw [hP1.2.1 2 (by decide) (by decide) (by decide) (by decide)]; exact hT.1, hT.2.1, fun i hi => by rw [hP1.1 148 (by decide) (by decide)]; exact hT.2.2 i hi⟩
  have bad : ∀ (M2 : pz_M) (w : Nat), Pr t M1 M2 → M2 147 4 = (w : Int) → ∃ M', pz_p bl_Mo_readLaw (pz_cal (d + 36)) 0 0 9 [] [(2, 147), (0, (t : Int))] [] ((pz_SH, ss, 0, 0, dd), M2) = some (some (0, (w : Int)), ((pz_SH, ss, 0, 0, dd), M')) ∧ Pr t M1 M' := fun M2 w f h4 => by
    have e := m_atEnd_w (d := d + 35) (ss := ss) (dd := dd) h4
    refine ⟨M2, ?_, f⟩
    rw [j_Mo_readLaw_9]
    simp (maxSteps := 1000000) (disch := omega) only [↓reduceIte, sp_0, sp_s, Option.map_some, Option.map_none, Option.some.injEq, o_le, o_nle, o_lt, o_nlt, o_eq, o_neq, w32_id, nw_s, px_iconst, px_bipush, px_sipush, px_ldc, px_ldc_w, px_lconst, px_ldc2_w, px_aconst_null, px_getstatic, px_iload_n, px_iload, px_lload_n, px_lload, px_aload_n, px_aload, px_istore_n, px_istore, px_astore_n, px_astore, px_lstore_n, px_lstore, px_iinc, px_iadd, px_isub, px_imul, px_iand, px_ior, px_ixor, px_ishl, px_ishr, px_iushr, px_ladd, px_lsub, px_lmul, px_land, px_lor, px_lcmp, px_lushr, px_lshl, px_ineg, px_i2l, px_l2i, px_idiv, px_irem, px_ldiv, px_lrem, px_dup0, px_pop0, px_dup2, px_pop2, px_dup2x, px_goto, px_if_eq, px_ic_eq, px_if_ne, px_ic_ne, px_if_lt, px_ic_lt, px_if_ge, px_ic_ge, px_if_gt, px_ic_gt, px_if_le, px_ic_le, px_ifnull, px_ifnonnull, px_lookupswitch, px_tableswitch, px_getfield, px_iaload, px_laload, px_caload, px_aaload, px_iastore, px_lastore, px_arraylength, px_putfield, px_ireturn, px_lreturn, px_areturn, px_return, px_iv0, px_is0, px_iv1, px_is1, px_iv2, px_is2, px_iv3, px_is3, px_iv4, px_is4, px_iv5, px_is5, px_iv6, px_is6, px_max, px_min, px_abs, px_maxJ, px_minJ, px_ii0, px_ii1, px_iio, px_copy, pz_cpk, pz_lk, pz_alk, pz_ask, pz_gfk, pz_lnk, pz_bx, pz_b, pz_z, pz_s1, pz_s2, pz_wt, pz_cmp, List.getElem?_cons_zero, List.getElem?_cons_succ, List.getElem?_nil, List.set_cons_zero, List.set_cons_succ, List.length_cons, List.length_nil, List.nil_append, List.cons_append, Option.toList_some, Option.toList_none, if_true, if_false, ite_true, ite_false, and_true, true_and, and_self, or_self, or_false, false_or, true_or, or_true, and_false, false_and, not_true_eq_false, not_false_eq_true, forall_const, ne_eq, reduceCtorEq, implies_true, false_implies, true_implies, Int.toNat_natCast, Nat.reduceAdd, Nat.reduceSub, Nat.reduceLT, Nat.reduceLeDiff, Nat.reduceEqDiff, Int.reduceLT, Int.reduceLE, Int.reduceToNat, Int.reduceNeg, Int.reduceEq, Int.reduceAdd, Nat.reduceMul, Int.reduceSub, Nat.reduceBEq, Int.reduceMul, Nat.add_zero, Nat.zero_add, Int.cast_ofNat_Int, Int.ofNat_eq_coe, decide_eq_true_eq, Nat.lt_irrefl, Nat.le_refl, List.getElem?_toArray, Option.elim_some, Option.elim_none, j_Mo_readLaw_43, g_147, h4, e]
  have lp : ∀ (f i : Nat) (a : List (Option Ex × Ex)) (p : Nat) (M2 : pz_M), i + f = 240 → i ≤ p → Pr t M1 M2 → Sl M2 T n t p a → ∃ M', pz_p bl_Mo_readLaw (pz_cal (d + 36)) 0 0 9 [] [(2, 147), (0, (t : Int))] [] ((pz_SH, ss, 0, 0, dd), M2) = some (some (0, Rv (gEd T n (gLs T n f a p))), ((pz_SH, ss, 0, 0, dd), M')) ∧ Pr t M1 M' ∧ ∀ z, gEd T n (gLs T n f a p) = .inl z → LRm M' t z.1 := by
    intro f
    have done : ∀ (a : List (Option Ex × Ex)) (p : Nat) (M2 : pz_M), Pr t M1 M2 → Sl M2 T n t p a → ch T n (bl T n p) ≠ 59 → ∃ M', pz_p bl_Mo_readLaw (pz_cal (d + 36)) 0 0 9 [] [(2, 147), (0, (t : Int))] [] ((pz_SH, ss, 0, 0, dd), M2) = some (some (0, Rv (gEd T n (.inl (a, bl T n p)))), ((pz_SH, ss, 0, 0, dd), M')) ∧ Pr t M1 M' ∧ ∀ z, gEd T n (.inl (a, bl T n p)) = .inl z → LRm M' t z.1 := by
      intro a p M2 hP hs c
      obtain ⟨⟨s1, s2, s3, s4, s5, s6, s7, s8, s9⟩, c1, l1, C1⟩ := hs
      have e2 := m_look (d := d + 34) (ss := ss) (dd := dd) s1 s2 s3 s4
      have b1 := bl_le (T := T) s4
      have f2 : Pe t M2 (pz_up M2 147 3 (bl T n p : Int)) := Pe_3
      have h42 : pz_up M2 147 3 (bl T n p : Int) 147 4 = -1 := by rw [u7_o (by decide)]; exact s5
      have e3 := m_atEnd (d := d + 33) (ss := ss) (dd := dd) (M := pz_up M2 147 3 (bl T n p : Int)) (p := bl T n p) (Rf_Pe s1 f2) (TR_Pe s2 f2) u7_3 b1 h42
      rw [bl_bl, up_up2] at e3
      have ed : gEd T n (.inl (a, bl T n p)) = if ch T n (bl T n p) = -1 then .inl (a, bl T n p) else .inr (bl T n p) := by
        show (if ch T n (bl T n (bl T n p)) = -1 then _ else _) = _
        rw [bl_bl]
      rw [ed]
      by_cases c2 : ch T n (bl T n p) = -1
      · rw [if_pos c2] at e3 ⊢
        refine ⟨pz_up M2 147 3 (bl T n p : Int), ?_, Pr_t hP (Pr_Pe f2), fun z hz => ?_⟩
        · show _ = some (some (0, -1), ((pz_SH, ss, 0, 0, dd), pz_up M2 147 3 (bl T n p : Int)))
          rw [c2] at e2
          generalize pz_up M2 147 3 (bl T n p : Int) = M3 at *
          rw [j_Mo_readLaw_9]
          simp (maxSteps := 1000000) (disch := omega) only [↓reduceIte, sp_0, sp_s, Option.map_some, Option.map_none, Option.some.injEq, o_le, o_nle, o_lt, o_nlt, o_eq, o_neq, w32_id, nw_s, px_iconst, px_bipush, px_sipush, px_ldc, px_ldc_w, px_lconst, px_ldc2_w, px_aconst_null, px_getstatic, px_iload_n, px_iload, px_lload_n, px_lload, px_aload_n, px_aload, px_istore_n, px_istore, px_astore_n, px_astore, px_lstore_n, px_lstore, px_iinc, px_iadd, px_isub, px_imul, px_iand, px_ior, px_ixor, px_ishl, px_ishr, px_iushr, px_ladd, px_lsub, px_lmul, px_land, px_lor, px_lcmp, px_lushr, px_lshl, px_ineg, px_i2l, px_l2i, px_idiv, px_irem, px_ldiv, px_lrem, px_dup0, px_pop0, px_dup2, px_pop2, px_dup2x, px_goto, px_if_eq, px_ic_eq, px_if_ne, px_ic_ne, px_if_lt, px_ic_lt, px_if_ge, px_ic_ge, px_if_gt, px_ic_gt, px_if_le, px_ic_le, px_ifnull, px_ifnonnull, px_lookupswitch, px_tableswitch, px_getfield, px_iaload, px_laload, px_caload, px_aaload, px_iastore, px_lastore, px_arraylength, px_putfield, px_ireturn, px_lreturn, px_areturn, px_return, px_iv0, px_is0, px_iv1, px_is1, px_iv2, px_is2, px_iv3, px_is3, px_iv4, px_is4, px_iv5, px_is5, px_iv6, px_is6, px_max, px_min, px_abs, px_maxJ, px_minJ, px_ii0, px_ii1, px_iio, px_copy, pz_cpk, pz_lk, pz_alk, pz_ask, pz_gfk, pz_lnk, pz_bx, pz_b, pz_z, pz_s1, pz_s2, pz_wt, pz_cmp, List.getElem?_cons_zero, List.getElem?_cons_succ, List.getElem?_nil, List.set_cons_zero, List.set_cons_succ, List.length_cons, List.length_nil, List.nil_append, List.cons_append, Option.toList_some, Option.toList_none, if_true, if_false, ite_true, ite_false, and_true, true_and, and_self, or_self, or_false, false_or, true_or, or_true, and_false, false_and, not_true_eq_false, not_false_eq_true, forall_const, ne_eq, reduceCtorEq, implies_true, false_implies, true_implies, Int.toNat_natCast, Nat.reduceAdd, Nat.reduceSub, Nat.reduceLT, Nat.reduceLeDiff, Nat.reduceEqDiff, Int.reduceLT, Int.reduceLE, Int.reduceToNat, Int.reduceNeg, Int.reduceEq, Int.reduceAdd, Nat.reduceMul, Int.reduceSub, Nat.reduceBEq, Int.reduceMul, Nat.add_zero, Nat.zero_add, Int.cast_ofNat_Int, Int.ofNat_eq_coe, decide_eq_true_eq, Nat.lt_irrefl, Nat.le_refl, List.getElem?_toArray, Option.elim_some, Option.elim_none, j_Mo_readLaw_43, g_147, s5, e2, e3]
        · have hz := Sum.inl.inj hz
          rw [← hz]
          refine ⟨by rw [u7_c (by decide)]; exact c1, by show a.length ≤ 120; omega, by show prl a a.length ≤ 240; omega, fun i x hx => ?_⟩
          have k := C1 i x hx
          unfold CL at k ⊢
          rw [u7_c (by decide), u7_c (by decide), u7_c (by decide), u7_c (by decide), u7_c (by decide)]
          exact k
      · rw [if_neg c2] at e3 ⊢
        refine ⟨pz_up (pz_up M2 147 3 (bl T n p : Int)) 147 4 (bl T n p : Int), ?_, Pr_t hP (Pr_Pe (Pe_t f2 Pe_4)), fun z hz => by simp at hz⟩
        show _ = some (some (0, (bl T n p : Int)), ((pz_SH, ss, 0, 0, dd), pz_up (pz_up M2 147 3 (bl T n p : Int)) 147 4 (bl T n p : Int)))
        generalize ch T n (bl T n p) = cc at *
        generalize pz_up (pz_up M2 147 3 (bl T n p : Int)) 147 4 (bl T n p : Int) = M4 at *
        generalize pz_up M2 147 3 (bl T n p : Int) = M3 at *
        rw [j_Mo_readLaw_9]
        simp (maxSteps := 1000000) (disch := omega) only [↓reduceIte, sp_0, sp_s, Option.map_some, Option.map_none, Option.some.injEq, o_le, o_nle, o_lt, o_nlt, o_eq, o_neq, w32_id, nw_s, px_iconst, px_bipush, px_sipush, px_ldc, px_ldc_w, px_lconst, px_ldc2_w, px_aconst_null, px_getstatic, px_iload_n, px_iload, px_lload_n, px_lload, px_aload_n, px_aload, px_istore_n, px_istore, px_astore_n, px_astore, px_lstore_n, px_lstore, px_iinc, px_iadd, px_isub, px_imul, px_iand, px_ior, px_ixor, px_ishl, px_ishr, px_iushr, px_ladd, px_lsub, px_lmul, px_land, px_lor, px_lcmp, px_lushr, px_lshl, px_ineg, px_i2l, px_l2i, px_idiv, px_irem, px_ldiv, px_lrem, px_dup0, px_pop0, px_dup2, px_pop2, px_dup2x, px_goto, px_if_eq, px_ic_eq, px_if_ne, px_ic_ne, px_if_lt, px_ic_lt, px_if_ge, px_ic_ge, px_if_gt, px_ic_gt, px_if_le, px_ic_le, px_ifnull, px_ifnonnull, px_lookupswitch, px_tableswitch, px_getfield, px_iaload, px_laload, px_caload, px_aaload, px_iastore, px_lastore, px_arraylength, px_putfield, px_ireturn, px_lreturn, px_areturn, px_return, px_iv0, px_is0, px_iv1, px_is1, px_iv2, px_is2, px_iv3, px_is3, px_iv4, px_is4, px_iv5, px_is5, px_iv6, px_is6, px_max, px_min, px_abs, px_maxJ, px_minJ, px_ii0, px_ii1, px_iio, px_copy, pz_cpk, pz_lk, pz_alk, pz_ask, pz_gfk, pz_lnk, pz_bx, pz_b, pz_z, pz_s1, pz_s2, pz_wt, pz_cmp, List.getElem?_cons_zero, List.getElem?_cons_succ, List.getElem?_nil, List.set_cons_zero, List.set_cons_succ, List.length_cons, List.length_nil, List.nil_append, List.cons_append, Option.toList_some, Option.toList_none, if_true, if_false, ite_true, ite_false, and_true, true_and, and_self, or_self, or_false, false_or, true_or, or_true, and_false, false_and, not_true_eq_false, not_false_eq_true, forall_const, ne_eq, reduceCtorEq, implies_true, false_implies, true_implies, Int.toNat_natCast, Nat.reduceAdd, Nat.reduceSub, Nat.reduceLT, Nat.reduceLeDiff, Nat.reduceEqDiff, Int.reduceLT, Int.reduceLE, Int.reduceToNat, Int.reduceNeg, Int.reduceEq, Int.reduceAdd, Nat.reduceMul, Int.reduceSub, Nat.reduceBEq, Int.reduceMul, Nat.add_zero, Nat.zero_add, Int.cast_ofNat_Int, Int.ofNat_eq_coe, decide_eq_true_eq, Nat.lt_irrefl, Nat.le_refl, List.getElem?_toArray, Option.elim_some, Option.elim_none, j_Mo_readLaw_43, g_147, s5, e2, e3]
    induction f with
    | zero =>
      intro i a p M2 hi hip hP hs
      refine done a p M2 hP hs ?_
      have := hs.1.2.2.2.1
      have b2 := bl_ge (T := T) (n := n) (p := p)
      unfold ch
      rw [if_neg (by omega)]
      decide
    | succ f ih =>
      intro i a p M2 hi hip hP hs
      unfold gLs
      by_cases c : ch T n (bl T n p) = 59
      · rw [if_pos c]
        obtain ⟨⟨s1, s2, s3, s4, s5, s6, s7, s8, s9⟩, c1, l1, C1⟩ := id hs
        have b1 := bl_le (T := T) s4
        have b2 := bl_ge (T := T) (n := n) (p := p)
        have b3 : bl T n p < n := ch_lt c (by decide)
        have e2 := m_look (d := d + 34) (ss := ss) (dd := dd) s1 s2 s3 s4
        rw [c] at e2
        have h33 : pz_up M2 147 3 (bl T n p : Int) 147 3 = (bl T n p : Int) := u7_3
        have k8 : pz_up (pz_up M2 147 3 (bl T n p : Int)) 147 3 ((bl T n p : Int) + 1) = pz_up M2 147 3 ((bl T n p : Int) + 1) := up_up2
        have f4 : Pe t M2 (pz_up M2 147 3 ((bl T n p : Int) + 1)) := Pe_3
        have hs4 : Sl (pz_up M2 147 3 ((bl T n p : Int) + 1)) T n t (bl T n p + 1) a := by
          refine ⟨⟨Rf_Pe s1 f4, TR_Pe s2 f4, u7_3, by omega, by rw [u7_o (by decide)]; exact s5, by rw [u7_o (by decide)]; exact s6, by rw [u7_o (by decide)]; exact s7, by rw [u7_c (by decide)]; exact s8, by omega⟩, by rw [u7_c (by decide)]; exact c1, by omega, fun i x hx => ?_⟩
          have k := C1 i x hx
          unfold CL at k ⊢
          rw [u7_c (by decide), u7_c (by decide), u7_c (by decide), u7_c (by decide), u7_c (by decide)]
          exact k
        have hP4 := Pr_t hP (Pr_Pe f4)
        generalize pz_up M2 147 3 ((bl T n p : Int) + 1) = M4 at *
        obtain ⟨M5, t5, r5⟩ := m_clause (d := d) (ss := ss) (dd := dd) ht (by omega) hs4.1 hs4.2.1
        have g5 := Gc_gCl (T := T) (n := n) (p := bl T n p + 1) (by omega)
        have hP5 := Pr_t hP4 r5.1
        have run : pz_p bl_Mo_readLaw (pz_cal (d + 36)) 0 0 9 [] [(2, 147), (0, (t : Int))] [] ((pz_SH, ss, 0, 0, dd), M2) = pz_p bl_Mo_readLaw (pz_cal (d + 36)) 0 0 9 [] [(2, 147), (0, (t : Int))] [] ((pz_SH, ss, 0, 0, dd), M5) := by
          generalize pz_up M2 147 3 (bl T n p : Int) = M3 at *
          conv => lhs; rw [j_Mo_readLaw_9]
          simp (maxSteps := 1000000) (disch := omega) only [↓reduceIte, sp_0, sp_s, Option.map_some, Option.map_none, Option.some.injEq, o_le, o_nle, o_lt, o_nlt, o_eq, o_neq, w32_id, nw_s, px_iconst, px_bipush, px_sipush, px_ldc, px_ldc_w, px_lconst, px_ldc2_w, px_aconst_null, px_getstatic, px_iload_n, px_iload, px_lload_n, px_lload, px_aload_n, px_aload, px_istore_n, px_istore, px_astore_n, px_astore, px_lstore_n, px_lstore, px_iinc, px_iadd, px_isub, px_imul, px_iand, px_ior, px_ixor, px_ishl, px_ishr, px_iushr, px_ladd, px_lsub, px_lmul, px_land, px_lor, px_lcmp, px_lushr, px_lshl, px_ineg, px_i2l, px_l2i, px_idiv, px_irem, px_ldiv, px_lrem, px_dup0, px_pop0, px_dup2, px_pop2, px_dup2x, px_goto, px_if_eq, px_ic_eq, px_if_ne, px_ic_ne, px_if_lt, px_ic_lt, px_if_ge, px_ic_ge, px_if_gt, px_ic_gt, px_if_le, px_ic_le, px_ifnull, px_ifnonnull, px_lookupswitch, px_tableswitch, px_getfield, px_iaload, px_laload, px_caload, px_aaload, px_iastore, px_lastore, px_arraylength, px_putfield, px_ireturn, px_lreturn, px_areturn, px_return, px_iv0, px_is0, px_iv1, px_is1, px_iv2, px_is2, px_iv3, px_is3, px_iv4, px_is4, px_iv5, px_is5, px_iv6, px_is6, px_max, px_min, px_abs, px_maxJ, px_minJ, px_ii0, px_ii1, px_iio, px_copy, pz_cpk, pz_lk, pz_alk, pz_ask, pz_gfk, pz_lnk, pz_bx, pz_b, pz_z, pz_s1, pz_s2, pz_wt, pz_cmp, List.getElem?_cons_zero, List.getElem?_cons_succ, List.getElem?_nil, List.set_cons_zero, List.set_cons_succ, List.length_cons, List.length_nil, List.nil_append, List.cons_append, Option.toList_some, Option.toList_none, if_true, if_false, ite_true, ite_false, and_true, true_and, and_self, or_self, or_false, false_or, true_or, or_true, and_false, false_and, not_true_eq_false, not_false_eq_true, forall_const, ne_eq, reduceCtorEq, implies_true, false_implies, true_implies, Int.toNat_natCast, Nat.reduceAdd, Nat.reduceSub, Nat.reduceLT, Nat.reduceLeDiff, Nat.reduceEqDiff, Int.reduceLT, Int.reduceLE, Int.reduceToNat, Int.reduceNeg, Int.reduceEq, Int.reduceAdd, Nat.reduceMul, Int.reduceSub, Nat.reduceBEq, Int.reduceMul, Nat.add_zero, Nat.zero_add, Int.cast_ofNat_Int, Int.ofNat_eq_coe, decide_eq_true_eq, Nat.lt_irrefl, Nat.le_refl, List.getElem?_toArray, Option.elim_some, Option.elim_none, g_147, s5, e2, h33, k8, t5]
        rw [run]
        match hz : gCl T n (bl T n p + 1), r5, g5 with
        | .inl z, r5, g5 =>
          have hs5 := Sl_next (Rf_Pr hR1 hP5) (TR_Pr hT1 hP5) (by rw [hP5.2.1 14 (by decide) (by decide) (by decide)]; exact v14) hs4 (Nat.le_refl _) r5 g5
          have g2 := g5.2.1
          exact ih (i + 1) (a ++ [z.1]) z.2 M5 (by omega) (by omega) hP5 hs5
        | .inr w, r5, g5 =>
          obtain ⟨M6, t6, f6⟩ := bad M5 w hP5 r5.2
          exact ⟨M6, t6, f6, fun z hz => by simp [gEd] at hz⟩
      · rw [if_neg c]
        exact done a p M2 hP hs c
  have S1 : Sl M1 T n t 0 [] := ⟨⟨hR1, hT1, v3, by omega, v4, v5, v14, v51, by show 0 ≤ 0; omega⟩, v52, by show 0 ≤ 0; omega, fun i x hx => by simp at hx⟩
  obtain ⟨M5, t5, r5⟩ := m_clause (d := d) (ss := ss) (dd := dd) ht (by decide : 0 < 140) S1.1 S1.2.1
  have g5 := Gc_gCl (T := T) (n := n) (p := 0) (by omega)
  have run : pz_cal (d + 37) 196 [(2, 147), (0, (t : Int))] ((pz_SH, ss, 0, 0, dd), M) = pz_p bl_Mo_readLaw (pz_cal (d + 36)) 0 0 9 [] [(2, 147), (0, (t : Int))] [] ((pz_SH, ss, 0, 0, dd), M5) := by
    simp (maxSteps := 1000000) (disch := omega) only [↓reduceIte, sp_0, sp_s, Option.map_some, Option.map_none, Option.some.injEq, o_le, o_nle, o_lt, o_nlt, o_eq, o_neq, w32_id, up_at, nw_at, nw_s, k_Mo_readLaw, px_iconst, px_bipush, px_sipush, px_ldc, px_ldc_w, px_lconst, px_ldc2_w, px_aconst_null, px_getstatic, px_iload_n, px_iload, px_lload_n, px_lload, px_aload_n, px_aload, px_istore_n, px_istore, px_astore_n, px_astore, px_lstore_n, px_lstore, px_iinc, px_iadd, px_isub, px_imul, px_iand, px_ior, px_ixor, px_ishl, px_ishr, px_iushr, px_ladd, px_lsub, px_lmul, px_land, px_lor, px_lcmp, px_lushr, px_lshl, px_ineg, px_i2l, px_l2i, px_idiv, px_irem, px_ldiv, px_lrem, px_dup0, px_pop0, px_dup2, px_pop2, px_dup2x, px_goto, px_if_eq, px_ic_eq, px_if_ne, px_ic_ne, px_if_lt, px_ic_lt, px_if_ge, px_ic_ge, px_if_gt, px_ic_gt, px_if_le, px_ic_le, px_ifnull, px_ifnonnull, px_lookupswitch, px_tableswitch, px_getfield, px_iaload, px_laload, px_caload, px_aaload, px_iastore, px_lastore, px_arraylength, px_putfield, px_ireturn, px_lreturn, px_areturn, px_return, px_iv0, px_is0, px_iv1, px_is1, px_iv2, px_is2, px_iv3, px_is3, px_iv4, px_is4, px_iv5, px_is5, px_iv6, px_is6, px_max, px_min, px_abs, px_maxJ, px_minJ, px_ii0, px_ii1, px_iio, px_copy, pz_cpk, pz_lk, pz_alk, pz_ask, pz_gfk, pz_lnk, pz_bx, pz_b, pz_z, pz_s1, pz_s2, pz_wt, pz_cmp, List.getElem?_cons_zero, List.getElem?_cons_succ, List.getElem?_nil, List.set_cons_zero, List.set_cons_succ, List.length_cons, List.length_nil, List.nil_append, List.cons_append, Option.toList_some, Option.toList_none, if_true, if_false, ite_true, ite_false, and_true, true_and, and_self, or_self, or_false, false_or, true_or, or_true, and_false, false_and, not_true_eq_false, not_false_eq_true, forall_const, ne_eq, reduceCtorEq, implies_true, false_implies, true_implies, Int.toNat_natCast, Nat.reduceAdd, Nat.reduceSub, Nat.reduceLT, Nat.reduceLeDiff, Nat.reduceEqDiff, Int.reduceLT, Int.reduceLE, Int.reduceToNat, Int.reduceNeg, Int.reduceEq, Int.reduceAdd, Nat.reduceMul, Int.reduceSub, Nat.reduceBEq, Int.reduceMul, Nat.add_zero, Nat.zero_add, Int.cast_ofNat_Int, Int.ofNat_eq_coe, decide_eq_true_eq, Nat.lt_irrefl, Nat.le_refl, List.getElem?_toArray, Option.elim_some, Option.elim_none, j_Mo_readLaw_0, g_147, e1, t5]
  rw [gLw_eq, run]
  match hz : gCl T n 0, r5, g5 with
  | .inl z, r5, g5 =>
    have hs5 := Sl_next (Rf_Pr hR1 r5.1) (TR_Pr hT1 r5.1) (by rw [r5.1.2.1 14 (by decide) (by decide) (by decide)]; exact v14) S1 (Nat.le_refl _) r5 g5
    obtain ⟨M6, t6, f6, r6⟩ := lp 240 0 [z.1] z.2 M5 (by omega) (by omega) r5.1 hs5
    exact ⟨M6, t6, Pl_Pr hP1 f6, r6⟩
  | .inr w, r5, g5 =>
    obtain ⟨M6, t6, f6⟩ := bad M5 w r5.1 r5.2
    exact ⟨M6, t6, Pl_Pr hP1 f6, fun z hz => by simp [gNx, gEd] at hz⟩
end P82
/-! WHAT A TEXT IS WORTH: its codes on a stack of numbers -/
/-- a sign on two numbers as it may be -/
def okb (o l r : Int) : Prop := (-1000000 ≤ l ∧ l ≤ 1000000) ∧ (-1000000 ≤ r ∧ r ≤ 1000000) ∧ (10 ≤ o → (l = 0 ∨ l = 1) ∧ (r = 0 ∨ r = 1)) ∧ 2 ≤ o ∧ o ≤ 11 ∧ o ≠ 9
/-- codes take a stack to a stack -/
def exs (lt : Nat → Int) : List (Int × Int) → List Int → List Int → Prop
  | [], st, st' => st' = st
  | t :: c, st, st' => (t.1 = 0 ∧ 0 ≤ t.2 ∧ t.2 ≤ 9999 ∧ st.length < 38 ∧ exs lt c (t.2 :: st) st') ∨ (t.1 = 1 ∧ 0 ≤ t.2 ∧ t.2 < 8 ∧ st.length < 38 ∧ exs lt c (lt t.2.toNat :: st) st') ∨ (t.1 = 9 ∧ ∃ a r, st = a :: r ∧ (a = 0 ∨ a = 1) ∧ exs lt c ((1 - a) :: r) st') ∨ ∃ b a r, st = b :: a :: r ∧ okb t.1 a b ∧ exs lt c (jn t.1 a b :: r) st'
theorem exs_app {lt : Nat → Int} : ∀ (a b : List (Int × Int)) (st st1 st2 : List Int), exs lt a st st1 → exs lt b st1 st2 → exs lt (a ++ b) st st2
  | [], b, st, st1, st2, h, g => by
    have h : st1 = st := h
    rw [← h]; exact g
  | t :: c, b, st, st1, st2, h, g => by
    rcases h with ⟨h1, h2, h3, h4, h5⟩ | ⟨h1, h2, h3, h4, h5⟩ | ⟨h1, a, r, h2, h3, h4⟩ | ⟨x, y, r, h1, h2, h3⟩
    · exact .inl ⟨h1, h2, h3, h4, exs_app c b _ _ _ h5 g⟩
    · exact .inr (.inl ⟨h1, h2, h3, h4, exs_app c b _ _ _ h5 g⟩)
    · exact .inr (.inr (.inl ⟨h1, a, r, h2, h3, exs_app c b _ _ _ h4 g⟩))
    · exact .inr (.inr (.inr ⟨x, y, r, h1, h2, exs_app c b _ _ _ h3 g⟩))
/-- a thing whose codes work out its worth; q: it is a truth -/
def Sw (q : Prop) (e : Ex) : Prop := ∀ lt, LtO lt → (∀ st, st.length + e.2.2 ≤ 38 → exs lt e.1 st (e.2.1 lt :: st)) ∧ (-1000000 ≤ e.2.1 lt ∧ e.2.1 lt ≤ 1000000) ∧ (q → e.2.1 lt = 0 ∨ e.2.1 lt = 1)
theorem Sw_bin {q1 q2 q : Prop} {o : Int} {a b : Ex} (x : Sw q1 a) (y : Sw q2 b) (ho : 2 ≤ o ∧ o ≤ 11 ∧ o ≠ 9) (h10 : 10 ≤ o → q1 ∧ q2) (hq : q → 6 ≤ o) : Sw q (xbin o a b) := by
  intro lt hl
  obtain ⟨x1, x2, x3⟩ := x lt hl
  obtain ⟨y1, y2, y3⟩ := y lt hl
  refine ⟨fun st hs => ?_, jn_r x2, fun h => jn_t (hq h)⟩
  have hs : st.length + max a.2.2 (b.2.2 + 1) ≤ 38 := hs
  show exs lt (a.1 ++ b.1 ++ [(o, 0)]) st (jn o (a.2.1 lt) (b.2.1 lt) :: st)
  refine exs_app _ _ _ _ _ (exs_app _ _ _ _ _ (x1 st (by omega)) (y1 _ (by show st.length + 1 + b.2.2 ≤ 38; omega))) ?_
  exact .inr (.inr (.inr ⟨_, _, st, rfl, ⟨x2, y2, fun h => ⟨x3 (h10 h).1, y3 (h10 h).2⟩, ho⟩, rfl⟩))
/-- all that is read is so -/
def PR (P : Ex → Prop) (r : Rs Ex) : Prop := match r with
  | .inl z => P z.1
  | .inr _ => True
section P83
variable {T : Nat → Int} {n : Nat}
theorem PR_chn {P Q : Ex → Prop} {op : Int → Int} {g : Nat → Rs Ex} (hg : ∀ p, PR Q (g p)) (hb : ∀ a b c, op c ≠ 0 → P a → Q b → P (xbin (op c) a b)) : ∀ f e p, P e → PR P (chn T n op g f e p)
  | 0, e, p, h => h
  | f + 1, e, p, h => by
    unfold chn
    by_cases c : op (ch T n (bl T n p)) = 0
    · rw [if_pos c]; exact h
    · rw [if_neg c]
      have g1 := hg (bl T n p + 1)
      match hz : g (bl T n p + 1), g1 with
      | .inl z, g1 => exact PR_chn hg hb f _ z.2 (hb _ _ _ c h g1)
      | .inr w, g1 => exact trivial
theorem PR_sq1 {P Q : Ex → Prop} {op : Int → Int} {g : Nat → Rs Ex} (hg : ∀ p, PR Q (g p)) (hq : ∀ e, Q e → P e) (hb : ∀ a b c, op c ≠ 0 → P a → Q b → P (xbin (op c) a b)) : ∀ p, PR P (sq1 T n op g p) := by
  intro p
  unfold sq1
  have g1 := hg p
  match hz : g p, g1 with
  | .inl z, g1 => exact PR_chn hg hb 240 z.1 z.2 (hq _ g1)
  | .inr w, g1 => exact trivial
theorem PR_inb {P : Ex → Prop} {s : Nat → Rs Ex} {c : Int} (hg : ∀ p, PR P (s p)) (p : Nat) : PR P (inb T n s c p) := by
  unfold inb
  have g1 := hg p
  match hz : s p, g1 with
  | .inl z, g1 =>
    show PR P (if ch T n (bl T n z.2) = c then _ else _)
    by_cases e : ch T n (bl T n z.2) = c
    · rw [if_pos e]; exact g1
    · rw [if_neg e]; exact trivial
  | .inr w, g1 => exact trivial
theorem PR_flt {P : Ex → Prop} (p : Nat) : PR P (flt T n p) := trivial
theorem rdn_4 {p : Nat} : 0 ≤ (rdn T n 4 p 0).1 ∧ (rdn T n 4 p 0).1 < 10000 := by
  have := rdn_v (T := T) (n := n) 4 p 0 1 (by decide) (by decide)
  omega
theorem PR_atm {inn : Nat → Rs Ex} (hg : ∀ p, PR (Sw False) (inn p)) (p : Nat) : PR (Sw False) (atm T n inn p) := by
  unfold atm
  by_cases c1 : ch T n (bl T n p) = 91
  · rw [if_pos c1]; exact hg p
  · rw [if_neg c1]
    by_cases c2 : ltr (ch T n (bl T n p)) ≠ -1
    · rw [if_pos c2]
      have lr := ltr_r (ch T n (bl T n p))
      intro lt hl
      have h := hl (ltr (ch T n (bl T n p))).toNat (by omega)
      refine ⟨fun st hs => .inr (.inl ⟨rfl, by show 0 ≤ ltr _; omega, by show ltr _ < 8; omega, ?_, rfl⟩), by show -1000000 ≤ lt (ltr (ch T n (bl T n p))).toNat ∧ lt (ltr (ch T n (bl T n p))).toNat ≤ 1000000; omega, fun f => f.elim⟩
      have hs : st.length + 1 ≤ 38 := hs
      omega
    · rw [if_neg c2]
      unfold numb
      have rv := rdn_4 (T := T) (n := n) (p := bl T n p)
      generalize rdn T n 4 (bl T n p) 0 = z at *
      by_cases c3 : z.2 = bl T n p ∨ dg T n z.2 ≠ -1
      · rw [if_pos c3]; exact trivial
      · rw [if_neg c3]
        by_cases c4 : (9999 : Int) < z.1
        · rw [if_pos c4]; exact trivial
        · rw [if_neg c4]
          intro lt hl
          refine ⟨fun st hs => .inl ⟨rfl, rv.1, by show z.1 ≤ 9999; omega, ?_, rfl⟩, by show -1000000 ≤ z.1 ∧ z.1 ≤ 1000000; omega, fun f => f.elim⟩
          have hs : st.length + 1 ≤ 38 := hs
          omega
theorem oTd_r {c : Int} (h : oTd c ≠ 0) : oTd c = 4 ∨ oTd c = 5 := by
  unfold oTd at *
  repeat' split at *
  all_goals omega
theorem oPm_r {c : Int} (h : oPm c ≠ 0) : oPm c = 2 ∨ oPm c = 3 := by
  unfold oPm at *
  repeat' split at *
  all_goals omega
theorem oCm_r {c : Int} (h : oCm c ≠ 0) : oCm c = 6 ∨ oCm c = 7 ∨ oCm c = 8 := by
  unfold oCm at *
  repeat' split at *
  all_goals omega
theorem oAn_r {c : Int} (h : oAn c ≠ 0) : oAn c = 10 := by
  unfold oAn at *
  split at * <;> omega
theorem oOr_r {c : Int} (h : oOr c ≠ 0) : oOr c = 11 := by
  unfold oOr at *
  split at * <;> omega
theorem PR_gTm {inn : Nat → Rs Ex} (hg : ∀ p, PR (Sw False) (inn p)) (p : Nat) : PR (Sw False) (gTm T n inn p) := by
  unfold gTm
  exact PR_sq1 (PR_atm hg) (fun e h => h) (fun a b c hc x y => by
    have := oTd_r hc
    exact Sw_bin x y (by omega) (by omega) (fun f => f.elim)) p
theorem PR_gSm : ∀ j p, PR (Sw False) (gSm T n j p)
  | 0, p => by
    unfold gSm
    exact PR_sq1 (PR_gTm PR_flt) (fun e h => h) (fun a b c hc x y => by
      have := oPm_r hc
      exact Sw_bin x y (by omega) (by omega) (fun f => f.elim)) p
  | j + 1, p => by
    unfold gSm
    exact PR_sq1 (PR_gTm (fun p => PR_inb (PR_gSm j) _)) (fun e h => h) (fun a b c hc x y => by
      have := oPm_r hc
      exact Sw_bin x y (by omega) (by omega) (fun f => f.elim)) p
theorem PR_gCm {s : Nat → Rs Ex} {e : Ex} {p : Nat} (hg : ∀ p, PR (Sw False) (s p)) (he : Sw False e) : PR (Sw True) (gCm T n s e p) := by
  unfold gCm
  by_cases c : oCm (ch T n (bl T n p)) = 0
  · rw [if_pos c]; exact trivial
  · rw [if_neg c]
    have g1 := hg (bl T n p + 1)
    have := oCm_r c
    match hz : s (bl T n p + 1), g1 with
    | .inl z, g1 => exact Sw_bin he g1 (by omega) (by omega) (fun _ => by omega)
    | .inr w, g1 => exact trivial
theorem Sw_an {a b : Ex} {c : Int} (hc : oAn c ≠ 0) (x : Sw True a) (y : Sw True b) : Sw True (xbin (oAn c) a b) := by
  have := oAn_r hc
  exact Sw_bin x y (by omega) (fun _ => ⟨trivial, trivial⟩) (fun _ => by omega)
theorem Sw_or {a b : Ex} {c : Int} (hc : oOr c ≠ 0) (x : Sw True a) (y : Sw True b) : Sw True (xbin (oOr c) a b) := by
  have := oOr_r hc
  exact Sw_bin x y (by omega) (fun _ => ⟨trivial, trivial⟩) (fun _ => by omega)
theorem PR_gCd {u : Nat → Rs Ex} (hg : ∀ p, PR (Sw True) (u p)) (p : Nat) : PR (Sw True) (gCd T n u p) := by
  unfold gCd
  exact PR_sq1 (PR_sq1 hg (fun e h => h) (fun a b c hc x y => Sw_an hc x y)) (fun e h => h) (fun a b c hc x y => Sw_or hc x y) p
theorem PR_gNt {u : Nat → Rs Ex} (hg : ∀ p, PR (Sw True) (u p)) (p : Nat) : PR (Sw True) (gNt T n u p) := by
  unfold gNt
  have g1 := hg (bl T n p + 1)
  match hz : u (bl T n p + 1), g1 with
  | .inl z, g1 =>
    intro lt hl
    obtain ⟨x1, x2, x3⟩ := g1 lt hl
    have x4 := x3 trivial
    refine ⟨fun st hs => ?_, by show -1000000 ≤ 1 - z.1.2.1 lt ∧ 1 - z.1.2.1 lt ≤ 1000000; omega, fun _ => by show 1 - z.1.2.1 lt = 0 ∨ 1 - z.1.2.1 lt = 1; omega⟩
    show exs lt (z.1.1 ++ [(9, 0)]) st ((1 - z.1.2.1 lt) :: st)
    exact exs_app _ _ _ _ _ (x1 st hs) (.inr (.inr (.inl ⟨rfl, _, st, rfl, x4, rfl⟩)))
  | .inr w, g1 => exact trivial
theorem PR_unt {nn pp s : Nat → Rs Ex} (h1 : ∀ p, PR (Sw True) (nn p)) (h2 : ∀ p, PR (Sw True) (pp p)) (hg : ∀ p, PR (Sw False) (s p)) (p : Nat) : PR (Sw True) (unt T n nn pp s p) := by
  unfold unt
  by_cases c1 : ch T n (bl T n p) = 33
  · rw [if_pos c1]; exact h1 p
  · rw [if_neg c1]
    by_cases c2 : ch T n (bl T n p) = 40
    · rw [if_pos c2]; exact h2 p
    · rw [if_neg c2]
      have g1 := hg p
      match hz : s p, g1 with
      | .inl z, g1 => exact PR_gCm hg g1
      | .inr w, g1 => exact trivial
theorem PR_gUn : ∀ j p, PR (Sw True) (gUn T n j p)
  | 0, p => by
    unfold gUn
    exact PR_unt PR_flt PR_flt (PR_gSm 0) p
  | j + 1, p => by
    unfold gUn
    exact PR_unt (PR_gNt (PR_gUn j)) (fun p => PR_inb (PR_gCd (PR_gUn j)) _) (PR_gSm (j + 1)) p
/-- a good clause: heights, worths -/
def Cg (x : Option Ex × Ex) : Prop := Sw False x.2 ∧ x.2.2.2 ≤ 15 ∧ ∀ c, x.1 = some c → Sw True c ∧ c.2.2 ≤ 18 ∧ 1 ≤ c.1.length
def PRc (r : Rs (Option Ex × Ex)) : Prop := match r with
  | .inl z => Sw False z.1.2 ∧ ∀ c, z.1.1 = some c → Sw True c
  | .inr _ => True
theorem PRc_gRs {e : Ex} {p : Nat} (he : Sw True e) : PRc (gRs T n e p) := by
  unfold gRs
  by_cases c : ch T n (bl T n p) = 63
  · rw [if_pos c]
    have g1 := PR_gSm (T := T) (n := n) 6 (bl T n p + 1)
    match hz : gSm T n 6 (bl T n p + 1), g1 with
    | .inl z, g1 => exact ⟨g1, fun c hc => by rw [← Option.some.inj (show some e = some c from hc)]; exact he⟩
    | .inr w, g1 => exact trivial
  · rw [if_neg c]; exact trivial
theorem PR_gCb {e : Ex} {p : Nat} (he : Sw False e) : PR (Sw True) (gCb T n e p) := by
  unfold gCb
  have g1 := PR_gCm (T := T) (n := n) (p := p) (PR_gSm (T := T) (n := n) 6) he
  match hz : gCm T n (gSm T n 6) e p, g1 with
  | .inl z, g1 =>
    have g2 := PR_chn (T := T) (n := n) (op := oAn) (P := Sw True) (PR_gUn (T := T) (n := n) 6) (fun a b c hc x y => Sw_an hc x y) 240 z.1 z.2 g1
    show PR (Sw True) (match chn T n oAn (gUn T n 6) 240 z.1 z.2 with
      | .inl y => chn T n oOr (sq1 T n oAn (gUn T n 6)) 240 y.1 y.2
      | .inr w => .inr w)
    match hy : chn T n oAn (gUn T n 6) 240 z.1 z.2, g2 with
    | .inl y, g2 => exact PR_chn (PR_sq1 (PR_gUn 6) (fun e h => h) (fun a b c hc x y => Sw_an hc x y)) (fun a b c hc x y => Sw_or hc x y) 240 y.1 y.2 g2
    | .inr w, g2 => exact trivial
  | .inr w, g1 => exact trivial
theorem PRc_gBd {p : Nat} : PRc (gBd T n p) := by
  unfold gBd
  by_cases c : ch T n (bl T n p) = 33 ∨ ch T n (bl T n p) = 40
  · rw [if_pos c]
    have g1 := PR_gCd (T := T) (n := n) (PR_gUn (T := T) (n := n) 6) p
    match hz : gCd T n (gUn T n 6) p, g1 with
    | .inl z, g1 => exact PRc_gRs g1
    | .inr w, g1 => exact trivial
  · rw [if_neg c]
    have g1 := PR_gSm (T := T) (n := n) 6 p
    match hz : gSm T n 6 p, g1 with
    | .inl z, g1 =>
      show PRc (if oCm (ch T n (bl T n z.2)) = 0 then _ else _)
      by_cases c2 : oCm (ch T n (bl T n z.2)) = 0
      · rw [if_pos c2]; exact ⟨g1, fun c hc => by simp at hc⟩
      · rw [if_neg c2]
        have g2 := PR_gCb (T := T) (n := n) (p := z.2) g1
        match hy : gCb T n z.1 z.2, g2 with
        | .inl y, g2 => exact PRc_gRs g2
        | .inr w, g2 => exact trivial
    | .inr w, g1 => exact trivial
theorem PRc_gCl {p : Nat} : PRc (gCl T n p) := by
  unfold gCl
  by_cases c : ch T n (bl T n p) = 121
  · rw [if_pos c]
    by_cases c2 : ch T n (bl T n (bl T n p + 1)) = 58
    · rw [if_pos c2]; exact PRc_gBd
    · rw [if_neg c2]; exact trivial
  · rw [if_neg c]; exact trivial
theorem Cg_gCl {p : Nat} {z : (Option Ex × Ex) × Nat} (hp : p ≤ n) (h : gCl T n p = .inl z) : Cg z.1 ∧ z.2 ≤ n := by
  have g := Gc_gCl (T := T) hp
  have r := PRc_gCl (T := T) (n := n) (p := p)
  rw [h] at g r
  exact ⟨⟨r.1, g.2.2.1.1, fun c hc => ⟨r.2 c hc, (g.2.2.2 c hc).1, (g.2.2.2 c hc).2.1⟩⟩, g.1⟩
theorem Cg_gLs : ∀ f (a : List (Option Ex × Ex)) p (y : List (Option Ex × Ex) × Nat), (∀ x ∈ a, Cg x) → p ≤ n → gLs T n f a p = .inl y → ∀ x ∈ y.1, Cg x
  | 0, a, p, y, ha, hp, h => by
    have h := Sum.inl.inj (show (Sum.inl (a, bl T n p) : Rs (List (Option Ex × Ex))) = .inl y from h)
    rw [← h]; exact ha
  | f + 1, a, p, y, ha, hp, h => by
    unfold gLs at h
    by_cases c : ch T n (bl T n p) = 59
    · rw [if_pos c] at h
      have b3 : bl T n p < n := ch_lt c (by decide)
      match hz : gCl T n (bl T n p + 1), h with
      | .inl z, h =>
        have g := Cg_gCl (T := T) (n := n) (p := bl T n p + 1) (by omega) hz
        refine Cg_gLs f (a ++ [z.1]) z.2 y (fun x hx => ?_) g.2 h
        rcases List.mem_append.mp hx with hx | hx
        · exact ha x hx
        · rw [List.mem_singleton.mp hx]; exact g.1
    · rw [if_neg c] at h
      have h := Sum.inl.inj h
      rw [← h]; exact ha
/-- all clauses of a law that is read are good -/
theorem Cg_gLw {z : List (Option Ex × Ex) × Nat} (h : gLw T n = .inl z) : ∀ x ∈ z.1, Cg x := by
  rw [gLw_eq] at h
  match hz : gCl T n 0, h with
  | .inl y, h =>
    have g := Cg_gCl (T := T) (n := n) (p := 0) (by omega) hz
    match hy : gLs T n 240 [y.1] y.2, h with
    | .inl w, h =>
      have k := Cg_gLs 240 [y.1] y.2 w (fun x hx => by rw [List.mem_singleton.mp hx]; exact g.1) g.2 hy
      have h : gEd T n (gLs T n 240 [y.1] y.2) = .inl z := h
      rw [hy] at h
      have h : (if ch T n (bl T n w.2) = -1 then (Sum.inl (w.1, bl T n w.2) : Rs (List (Option Ex × Ex))) else .inr (bl T n w.2)) = .inl z := h
      by_cases c : ch T n (bl T n w.2) = -1
      · rw [if_pos c] at h
        rw [← Sum.inl.inj h]; exact k
      · rw [if_neg c] at h; simp at h
    | .inr w, h =>
      have h : gEd T n (gLs T n 240 [y.1] y.2) = .inl z := h
      rw [hy] at h
      simp [gEd] at h
  | .inr w, h => simp [gNx, gEd] at h
end P83
