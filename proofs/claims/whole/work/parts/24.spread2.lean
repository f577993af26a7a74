/-! THE CLASS'S SPREAD: a set of places -/
theorem cb_no {s n : Nat} : ∀ k, cb s (n + k) = cb s n → ∀ i, n ≤ i → i < n + k → s.testBit i = false
  | 0, _, i, a, b => absurd b (by omega)
  | k + 1, h, i, a, b => by
    have h1 := cb_mono s n k
    have h2 : cb s (n + k) + (if s.testBit (n + k) then 1 else 0) = cb s n := h
    by_cases hb : s.testBit (n + k) = true
    · rw [if_pos hb] at h2; omega
    · rw [if_neg hb] at h2
      by_cases e : i = n + k
      · rw [e]; simpa using hb
      · exact cb_no k (by omega) i a (by omega)
theorem ds_b {P : Nat → Nat} {O : Nat → Nat → Int} {l : Nat → Nat} {s n : Nat} (hP : ∀ d, d < 4 → P d ≤ 9) (hO : ∀ i, i < n → s.testBit i = true → Od (O i) (l i)) (hc : cb s n ≤ 8) (k : Nat) (hk : k < 80) : 0 ≤ ds P O l s n k ∧ ds P O l s n k ≤ 1000000000 := by
  obtain ⟨h1, h2, h3⟩ := ds_ok (O := O) (l := l) hP n hO hc
  refine ⟨h1 k, ?_⟩
  have := su_le h1 (n := k) (k := 1) (N := 80) (by omega)
  rw [h3] at this
  simp only [su, Nat.add_zero] at this
  omega
def FrS (b : Nat) (M M' : pz_M) : Prop := ∀ c, (c < b + 3 ∨ b + 11 < c) → M' c = M c
theorem FrS_t {b : Nat} {M M1 M2 : pz_M} (h1 : FrS b M M1) (h2 : FrS b M1 M2) : FrS b M M2 := fun c hc => (h2 c hc).trans (h1 c hc)
theorem FrS_MS {b : Nat} {M M' : pz_M} (hb : Sd b) (h : FrS b M M') : Fr MS M M' := by
  intro c hc
  refine h c ?_
  rcases hb with rfl | rfl
  · by_cases h1 : c < 104 + 3
    · exact .inl h1
    · by_cases h2 : 104 + 11 < c
      · exact .inr h2
      · exact absurd ((by decide : ∀ j, j < 9 → 107 + j ∈ MS) (c - 107) (by omega)) (by rw [show 107 + (c - 107) = c by omega]; exact hc)
  · by_cases h1 : c < 119 + 3
    · exact .inl h1
    · by_cases h2 : 119 + 11 < c
      · exact .inr h2
      · exact absurd ((by decide : ∀ j, j < 9 → 122 + j ∈ MS) (c - 122) (by omega)) (by rw [show 122 + (c - 122) = c by omega]; exact hc)
/-- what a side of the scales knows: points P, odds O with their last ones l of the places A -/
def SpI (M : pz_M) (b : Nat) (P : Nat → Nat) (O : Nat → Nat → Int) (l : Nat → Nat) (A : Nat) : Prop :=
  (∀ d, d < 4 → M (b + 14) d = (P d : Int) ∧ P d ≤ 9) ∧ (∀ i, i < 16 → A.testBit i = true → (∀ d, d < 4 → M (b + 12) (4 * i + d) = O i d) ∧ M (b + 13) i = (l i : Int) ∧ Od (O i) (l i)) ∧ (∀ k, k < 73 → M (b + 2) k = ds0 k) ∧ (∀ v, 1 ≤ v → v ≤ 8 → ∃ s : Nat, M (b + 11) v = (s : Int) ∧ s < 65536 ∧ (s = 0 ∨ ((∀ i, s.testBit i = true → A.testBit i = true) ∧ cb s 16 = v ∧ ∀ k, k < 73 → M (b + 2 + v) k = ds P O l s 16 k)))
section P24
variable {d : Nat} {ss : List (Nat × Nat)} {dd : Nat} {M : pz_M} {b : Nat}
set_option maxRecDepth 100000 in
theorem c_Sp_extend_o {m pl l : Nat} {P : Nat → Nat} {o p : Nat → Int} (hb : Sd b) (hR : Rf M) (hm : m < 8) (hpl : pl < 16) (hP : ∀ d, d < 4 → M (b + 14) d = (P d : Int) ∧ P d ≤ 9) (ho : ∀ d, d < 4 → M (b + 12) (4 * pl + d) = o d) (hl : M (b + 13) pl = (l : Int)) (hO : Od o l) (hp : ∀ i, i < 73 → M (b + 2 + m) i = p i ∧ 0 ≤ p i ∧ p i ≤ 1000000000) : ∀ (j i : Nat) (f : Nat → Int) (t6 t7 t8 t9 t10 t11 : pz_V), i + j = 9 * m + 1 → (∀ k, k < 73 → f k = ex P o l p i k) → ∃ f', pz_p bl_Sp_extend (pz_cal (d)) 0 0 68 [] [(2, (b : Int)), (0, (m : Int) + 1), (0, (pl : Int)), (2, ((b + 2 + m : Nat) : Int)), (2, ((b + 2 + (m + 1) : Nat) : Int)), (0, (i : Int)), (t6.1, t6.2), (t7.1, t7.2), (t8.1, t8.2), (t9.1, t9.2), (t10.1, t10.2), (t11.1, t11.2)] [] ((pz_SH, ss, 0, 0, dd), pz_nw M (b + 2 + (m + 1)) f) = some (none, ((pz_SH, ss, 0, 0, dd), pz_nw M (b + 2 + (m + 1)) f')) ∧ ∀ k, k < 73 → f' k = ex P o l p (9 * m + 1) k
  | 0, i, f, t6, t7, t8, t9, t10, t11, hi, hf => by
    have e : i = 9 * m + 1 := by omega
    subst e
    refine ⟨f, ?_, hf⟩
    rw [j_Sp_extend_68]
    simp (maxSteps := 1000000) (disch := omega) only [↓reduceIte, sp_0, sp_s, Option.map_some, Option.map_none, Option.some.injEq, o_le, o_nle, o_lt, o_nlt, o_eq, o_neq, w32_id, up_at, nw_at, nw_s, px_iconst, px_bipush, px_sipush, px_ldc, px_ldc_w, px_lconst, px_ldc2_w, px_aconst_null, px_getstatic, px_iload_n, px_iload, px_lload_n, px_lload, px_aload_n, px_aload, px_istore_n, px_istore, px_astore_n, px_astore, px_lstore_n, px_lstore, px_iinc, px_iadd, px_isub, px_imul, px_iand, px_ior, px_ixor, px_ishl, px_ishr, px_iushr, px_ladd, px_lsub, px_lmul, px_land, px_lor, px_lcmp, px_lushr, px_lshl, px_ineg, px_i2l, px_l2i, px_idiv, px_irem, px_ldiv, px_lrem, px_dup0, px_pop0, px_dup2, px_pop2, px_dup2x, px_goto, px_if_eq, px_ic_eq, px_if_ne, px_ic_ne, px_if_lt, px_ic_lt, px_if_ge, px_ic_ge, px_if_gt, px_ic_gt, px_if_le, px_ic_le, px_ifnull, px_ifnonnull, px_lookupswitch, px_tableswitch, px_getfield, px_iaload, px_laload, px_caload, px_aaload, px_iastore, px_lastore, px_arraylength, px_putfield, px_ireturn, px_lreturn, px_areturn, px_return, px_iv0, px_is0, px_iv1, px_is1, px_iv2, px_is2, px_iv3, px_is3, px_iv4, px_is4, px_iv5, px_is5, px_iv6, px_is6, px_max, px_min, px_abs, px_maxJ, px_minJ, px_ii0, px_ii1, px_iio, px_copy, pz_cpk, pz_lk, pz_alk, pz_ask, pz_gfk, pz_lnk, pz_bx, pz_b, pz_z, pz_s1, pz_s2, pz_wt, pz_cmp, List.getElem?_cons_zero, List.getElem?_cons_succ, List.getElem?_nil, List.set_cons_zero, List.set_cons_succ, List.length_cons, List.length_nil, List.nil_append, List.cons_append, Option.toList_some, Option.toList_none, if_true, if_false, ite_true, ite_false, and_true, true_and, and_self, or_self, or_false, false_or, true_or, or_true, and_false, false_and, not_true_eq_false, not_false_eq_true, forall_const, ne_eq, reduceCtorEq, implies_true, false_implies, true_implies, Int.toNat_natCast, Nat.reduceAdd, Nat.reduceSub, Nat.reduceLT, Nat.reduceLeDiff, Nat.reduceEqDiff, Int.reduceLT, Int.reduceLE, Int.reduceToNat, Int.reduceNeg, Int.reduceEq, Int.reduceAdd, Nat.reduceMul, Int.reduceSub, Nat.reduceBEq, Int.reduceMul, Nat.add_zero, Nat.zero_add, Int.cast_ofNat_Int, Int.ofNat_eq_coe, decide_eq_true_eq, Nat.lt_irrefl, Nat.le_refl, List.getElem?_toArray, Option.elim_some, Option.elim_none, j_Sp_extend_201]
  | j + 1, i, f, t6, t7, t8, t9, t10, t11, hi, hf => by
    have kr : ∀ g, pz_nw M (b + 2 + (m + 1)) g (b + 2 + m) = M (b + 2 + m) := fun g => nw_o (by omega)
    have sr0 := fun M' => sdr (ss := ss) (dd := dd) hb M' (i := m) (by omega)
    have hpi := hp i (by omega)
    obtain ⟨f1, u6, u7, u8, u9, u10, u11, e1, v1⟩ := c_Sp_extend_d (d := d) (ss := ss) (dd := dd) hb hR hm hpl (i := i) (by omega) hP ho hl hO hpi 4 0 f t9 t10 t11 (by omega) (by
      intro k hk
      rw [hf k hk]
      have := ex_n (P := P) hO i (fun i' hi' => (hp i' (by omega)).2.1) k
      have := ex_b (P := P) hO i (fun i' hi' => (hp i' (by omega)).2) k
      omega)
    have v2 : ∀ k, k < 73 → f1 k = ex P o l p (i + 1) k := by
      intro k hk
      have h1 := v1 k hk
      have h2 := hf k hk
      show f1 k = ex P o l p i k + cn P i (pt (p i) o l) 4 k
      have h3 : cn P i (pt (p i) o l) 0 k = 0 := rfl
      omega
    obtain ⟨f2, e2, w2⟩ := c_Sp_extend_o hb hR hm hpl hP ho hl hO hp j (i + 1) f1 u6 u7 u8 u9 u10 u11 (by omega) v2
    refine ⟨f2, ?_, w2⟩
    rw [← e2]
    have e1 : pz_p bl_Sp_extend (pz_cal (d)) 0 0 95 [] [(2, (b : Int)), (0, (m : Int) + 1), (0, (pl : Int)), (2, ((b + 2 + m : Nat) : Int)), (2, ((b + 2 + (m + 1) : Nat) : Int)), (0, (i : Int)), (1, p i - 0), (9, 0), (0, 0), (t9.1, t9.2), (t10.1, t10.2), (t11.1, t11.2)] [] ((pz_SH, ss, 0, 0, dd), pz_nw M (b + 2 + (m + 1)) f) = _ := e1
    rw [Int.sub_zero] at e1
    have e3 : pz_p bl_Sp_extend (pz_cal d) 0 0 195 [] [(2, (b : Int)), (0, (m : Int) + 1), (0, (pl : Int)), (2, ((b + 2 + m : Nat) : Int)), (2, ((b + 2 + (m + 1) : Nat) : Int)), (0, (i : Int)), u6, u7, u8, u9, u10, u11] [] ((pz_SH, ss, 0, 0, dd), pz_nw M (b + 2 + (m + 1)) f1) = pz_p bl_Sp_extend (pz_cal (d)) 0 0 68 [] [(2, (b : Int)), (0, (m : Int) + 1), (0, (pl : Int)), (2, ((b + 2 + m : Nat) : Int)), (2, ((b + 2 + (m + 1) : Nat) : Int)), (0, (i : Int) + 1), (u6.1, u6.2), (u7.1, u7.2), (u8.1, u8.2), (u9.1, u9.2), (u10.1, u10.2), (u11.1, u11.2)] [] ((pz_SH, ss, 0, 0, dd), pz_nw M (b + 2 + (m + 1)) f1) := by
      rw [j_Sp_extend_195]
      simp (maxSteps := 1000000) (disch := omega) only [↓reduceIte, sp_0, sp_s, Option.map_some, Option.map_none, Option.some.injEq, o_le, o_nle, o_lt, o_nlt, o_eq, o_neq, w32_id, up_at, nw_at, nw_s, px_iconst, px_bipush, px_sipush, px_ldc, px_ldc_w, px_lconst, px_ldc2_w, px_aconst_null, px_getstatic, px_iload_n, px_iload, px_lload_n, px_lload, px_aload_n, px_aload, px_istore_n, px_istore, px_astore_n, px_astore, px_lstore_n, px_lstore, px_iinc, px_iadd, px_isub, px_imul, px_iand, px_ior, px_ixor, px_ishl, px_ishr, px_iushr, px_ladd, px_lsub, px_lmul, px_land, px_lor, px_lcmp, px_lushr, px_lshl, px_ineg, px_i2l, px_l2i, px_idiv, px_irem, px_ldiv, px_lrem, px_dup0, px_pop0, px_dup2, px_pop2, px_dup2x, px_goto, px_if_eq, px_ic_eq, px_if_ne, px_ic_ne, px_if_lt, px_ic_lt, px_if_ge, px_ic_ge, px_if_gt, px_ic_gt, px_if_le, px_ic_le, px_ifnull, px_ifnonnull, px_lookupswitch, px_tableswitch, px_getfield, px_iaload, px_laload, px_caload, px_aaload, px_iastore, px_lastore, px_arraylength, px_putfield, px_ireturn, px_lreturn, px_areturn, px_return, px_iv0, px_is0, px_iv1, px_is1, px_iv2, px_is2, px_iv3, px_is3, px_iv4, px_is4, px_iv5, px_is5, px_iv6, px_is6, px_max, px_min, px_abs, px_maxJ, px_minJ, px_ii0, px_ii1, px_iio, px_copy, pz_cpk, pz_lk, pz_alk, pz_ask, pz_gfk, pz_lnk, pz_bx, pz_b, pz_z, pz_s1, pz_s2, pz_wt, pz_cmp, List.getElem?_cons_zero, List.getElem?_cons_succ, List.getElem?_nil, List.set_cons_zero, List.set_cons_succ, List.length_cons, List.length_nil, List.nil_append, List.cons_append, Option.toList_some, Option.toList_none, if_true, if_false, ite_true, ite_false, and_true, true_and, and_self, or_self, or_false, false_or, true_or, or_true, and_false, false_and, not_true_eq_false, not_false_eq_true, forall_const, ne_eq, reduceCtorEq, implies_true, false_implies, true_implies, Int.toNat_natCast, Nat.reduceAdd, Nat.reduceSub, Nat.reduceLT, Nat.reduceLeDiff, Nat.reduceEqDiff, Int.reduceLT, Int.reduceLE, Int.reduceToNat, Int.reduceNeg, Int.reduceEq, Int.reduceAdd, Nat.reduceMul, Int.reduceSub, Nat.reduceBEq, Int.reduceMul, Nat.add_zero, Nat.zero_add, Int.cast_ofNat_Int, Int.ofNat_eq_coe, decide_eq_true_eq, Nat.lt_irrefl, Nat.le_refl, List.getElem?_toArray, Option.elim_some, Option.elim_none]
    refine Eq.trans ?_ (e1.trans e3)
    rw [j_Sp_extend_68]
    simp (maxSteps := 1000000) (disch := omega) only [↓reduceIte, sp_0, sp_s, Option.map_some, Option.map_none, Option.some.injEq, o_le, o_nle, o_lt, o_nlt, o_eq, o_neq, w32_id, nw_s, px_iconst, px_bipush, px_sipush, px_ldc, px_ldc_w, px_lconst, px_ldc2_w, px_aconst_null, px_getstatic, px_iload_n, px_iload, px_lload_n, px_lload, px_aload_n, px_aload, px_istore_n, px_istore, px_astore_n, px_astore, px_lstore_n, px_lstore, px_iinc, px_iadd, px_isub, px_imul, px_iand, px_ior, px_ixor, px_ishl, px_ishr, px_iushr, px_ladd, px_lsub, px_lmul, px_land, px_lor, px_lcmp, px_lushr, px_lshl, px_ineg, px_i2l, px_l2i, px_idiv, px_irem, px_ldiv, px_lrem, px_dup0, px_pop0, px_dup2, px_pop2, px_dup2x, px_goto, px_if_eq, px_ic_eq, px_if_ne, px_ic_ne, px_if_lt, px_ic_lt, px_if_ge, px_ic_ge, px_if_gt, px_ic_gt, px_if_le, px_ic_le, px_ifnull, px_ifnonnull, px_lookupswitch, px_tableswitch, px_getfield, px_iaload, px_laload, px_caload, px_aaload, px_iastore, px_lastore, px_arraylength, px_putfield, px_ireturn, px_lreturn, px_areturn, px_return, px_iv0, px_is0, px_iv1, px_is1, px_iv2, px_is2, px_iv3, px_is3, px_iv4, px_is4, px_iv5, px_is5, px_iv6, px_is6, px_max, px_min, px_abs, px_maxJ, px_minJ, px_ii0, px_ii1, px_iio, px_copy, pz_cpk, pz_lk, pz_alk, pz_ask, pz_gfk, pz_lnk, pz_bx, pz_b, pz_z, pz_s1, pz_s2, pz_wt, pz_cmp, List.getElem?_cons_zero, List.getElem?_cons_succ, List.getElem?_nil, List.set_cons_zero, List.set_cons_succ, List.length_cons, List.length_nil, List.nil_append, List.cons_append, Option.toList_some, Option.toList_none, if_true, if_false, ite_true, ite_false, and_true, true_and, and_self, or_self, or_false, false_or, true_or, or_true, and_false, false_and, not_true_eq_false, not_false_eq_true, forall_const, ne_eq, reduceCtorEq, implies_true, false_implies, true_implies, Int.toNat_natCast, Nat.reduceAdd, Nat.reduceSub, Nat.reduceLT, Nat.reduceLeDiff, Nat.reduceEqDiff, Int.reduceLT, Int.reduceLE, Int.reduceToNat, Int.reduceNeg, Int.reduceEq, Int.reduceAdd, Nat.reduceMul, Int.reduceSub, Nat.reduceBEq, Int.reduceMul, Nat.add_zero, Nat.zero_add, Int.cast_ofNat_Int, Int.ofNat_eq_coe, decide_eq_true_eq, Nat.lt_irrefl, Nat.le_refl, List.getElem?_toArray, Option.elim_some, Option.elim_none, sr0, kr, hpi.1]
set_option maxRecDepth 100000 in
theorem c_Sp_extend_c {m pl : Nat} (hb : Sd b) (hm : m < 8) : ∀ (j i : Nat) (f : Nat → Int), i + j = 73 → (∀ k, k < i → f k = 0) → ∃ f', pz_p bl_Sp_extend (pz_cal (d)) 0 0 45 [] [(2, (b : Int)), (0, (m : Int) + 1), (0, (pl : Int)), (2, ((b + 2 + m : Nat) : Int)), (2, ((b + 2 + (m + 1) : Nat) : Int)), (0, (i : Int)), (9, 0), (9, 0), (9, 0), (9, 0), (9, 0), (9, 0)] [] ((pz_SH, ss, 0, 0, dd), pz_nw M (b + 2 + (m + 1)) f) = pz_p bl_Sp_extend (pz_cal (d)) 0 0 68 [] [(2, (b : Int)), (0, (m : Int) + 1), (0, (pl : Int)), (2, ((b + 2 + m : Nat) : Int)), (2, ((b + 2 + (m + 1) : Nat) : Int)), (0, 0), (9, 0), (9, 0), (9, 0), (9, 0), (9, 0), (9, 0)] [] ((pz_SH, ss, 0, 0, dd), pz_nw M (b + 2 + (m + 1)) f') ∧ ∀ k, k < 73 → f' k = 0
  | 0, i, f, hi, hf => by
    have e : i = 73 := by omega
    subst e
    have hb2 := Sd_le hb
    have sr1 := fun M' => sdr (ss := ss) (dd := dd) hb M' (i := m + 1) (by omega)
    refine ⟨f, ?_, hf⟩
    rw [j_Sp_extend_45]
    simp (maxSteps := 1000000) (disch := omega) only [↓reduceIte, sp_0, sp_s, Option.map_some, Option.map_none, Option.some.injEq, o_le, o_nle, o_lt, o_nlt, o_eq, o_neq, w32_id, up_at, nw_at, nw_s, px_iconst, px_bipush, px_sipush, px_ldc, px_ldc_w, px_lconst, px_ldc2_w, px_aconst_null, px_getstatic, px_iload_n, px_iload, px_lload_n, px_lload, px_aload_n, px_aload, px_istore_n, px_istore, px_astore_n, px_astore, px_lstore_n, px_lstore, px_iinc, px_iadd, px_isub, px_imul, px_iand, px_ior, px_ixor, px_ishl, px_ishr, px_iushr, px_ladd, px_lsub, px_lmul, px_land, px_lor, px_lcmp, px_lushr, px_lshl, px_ineg, px_i2l, px_l2i, px_idiv, px_irem, px_ldiv, px_lrem, px_dup0, px_pop0, px_dup2, px_pop2, px_dup2x, px_goto, px_if_eq, px_ic_eq, px_if_ne, px_ic_ne, px_if_lt, px_ic_lt, px_if_ge, px_ic_ge, px_if_gt, px_ic_gt, px_if_le, px_ic_le, px_ifnull, px_ifnonnull, px_lookupswitch, px_tableswitch, px_getfield, px_iaload, px_laload, px_caload, px_aaload, px_iastore, px_lastore, px_arraylength, px_putfield, px_ireturn, px_lreturn, px_areturn, px_return, px_iv0, px_is0, px_iv1, px_is1, px_iv2, px_is2, px_iv3, px_is3, px_iv4, px_is4, px_iv5, px_is5, px_iv6, px_is6, px_max, px_min, px_abs, px_maxJ, px_minJ, px_ii0, px_ii1, px_iio, px_copy, pz_cpk, pz_lk, pz_alk, pz_ask, pz_gfk, pz_lnk, pz_bx, pz_b, pz_z, pz_s1, pz_s2, pz_wt, pz_cmp, List.getElem?_cons_zero, List.getElem?_cons_succ, List.getElem?_nil, List.set_cons_zero, List.set_cons_succ, List.length_cons, List.length_nil, List.nil_append, List.cons_append, Option.toList_some, Option.toList_none, if_true, if_false, ite_true, ite_false, and_true, true_and, and_self, or_self, or_false, false_or, true_or, or_true, and_false, false_and, not_true_eq_false, not_false_eq_true, forall_const, ne_eq, reduceCtorEq, implies_true, false_implies, true_implies, Int.toNat_natCast, Nat.reduceAdd, Nat.reduceSub, Nat.reduceLT, Nat.reduceLeDiff, Nat.reduceEqDiff, Int.reduceLT, Int.reduceLE, Int.reduceToNat, Int.reduceNeg, Int.reduceEq, Int.reduceAdd, Nat.reduceMul, Int.reduceSub, Nat.reduceBEq, Int.reduceMul, Nat.add_zero, Nat.zero_add, Int.cast_ofNat_Int, Int.ofNat_eq_coe, decide_eq_true_eq, Nat.lt_irrefl, Nat.le_refl, List.getElem?_toArray, Option.elim_some, Option.elim_none, j_Sp_extend_65, sr1]
  | j + 1, i, f, hi, hf => by
    have hb2 := Sd_le hb
    have sr1 := fun M' => sdr (ss := ss) (dd := dd) hb M' (i := m + 1) (by omega)
    obtain ⟨f1, e1, v1⟩ := c_Sp_extend_c (pl := pl) hb hm j (i + 1) (upf f i 0) (by omega) (by
      intro k hk
      rw [upf_at]
      split
      · rfl
      · exact hf k (by omega))
    refine ⟨f1, ?_, v1⟩
    rw [← e1]
    show _ = pz_p bl_Sp_extend (pz_cal (d)) 0 0 45 [] [(2, (b : Int)), (0, (m : Int) + 1), (0, (pl : Int)), (2, ((b + 2 + m : Nat) : Int)), (2, ((b + 2 + (m + 1) : Nat) : Int)), (0, (i : Int) + 1), (9, 0), (9, 0), (9, 0), (9, 0), (9, 0), (9, 0)] [] ((pz_SH, ss, 0, 0, dd), pz_nw M (b + 2 + (m + 1)) (upf f i 0))
    rw [j_Sp_extend_45]
    simp (maxSteps := 1000000) (disch := omega) only [↓reduceIte, sp_0, sp_s, Option.map_some, Option.map_none, Option.some.injEq, o_le, o_nle, o_lt, o_nlt, o_eq, o_neq, w32_id, up_at, nw_at, nw_s, px_iconst, px_bipush, px_sipush, px_ldc, px_ldc_w, px_lconst, px_ldc2_w, px_aconst_null, px_getstatic, px_iload_n, px_iload, px_lload_n, px_lload, px_aload_n, px_aload, px_istore_n, px_istore, px_astore_n, px_astore, px_lstore_n, px_lstore, px_iinc, px_iadd, px_isub, px_imul, px_iand, px_ior, px_ixor, px_ishl, px_ishr, px_iushr, px_ladd, px_lsub, px_lmul, px_land, px_lor, px_lcmp, px_lushr, px_lshl, px_ineg, px_i2l, px_l2i, px_idiv, px_irem, px_ldiv, px_lrem, px_dup0, px_pop0, px_dup2, px_pop2, px_dup2x, px_goto, px_if_eq, px_ic_eq, px_if_ne, px_ic_ne, px_if_lt, px_ic_lt, px_if_ge, px_ic_ge, px_if_gt, px_ic_gt, px_if_le, px_ic_le, px_ifnull, px_ifnonnull, px_lookupswitch, px_tableswitch, px_getfield, px_iaload, px_laload, px_caload, px_aaload, px_iastore, px_lastore, px_arraylength, px_putfield, px_ireturn, px_lreturn, px_areturn, px_return, px_iv0, px_is0, px_iv1, px_is1, px_iv2, px_is2, px_iv3, px_is3, px_iv4, px_is4, px_iv5, px_is5, px_iv6, px_is6, px_max, px_min, px_abs, px_maxJ, px_minJ, px_ii0, px_ii1, px_iio, px_copy, pz_cpk, pz_lk, pz_alk, pz_ask, pz_gfk, pz_lnk, pz_bx, pz_b, pz_z, pz_s1, pz_s2, pz_wt, pz_cmp, List.getElem?_cons_zero, List.getElem?_cons_succ, List.getElem?_nil, List.set_cons_zero, List.set_cons_succ, List.length_cons, List.length_nil, List.nil_append, List.cons_append, Option.toList_some, Option.toList_none, if_true, if_false, ite_true, ite_false, and_true, true_and, and_self, or_self, or_false, false_or, true_or, or_true, and_false, false_and, not_true_eq_false, not_false_eq_true, forall_const, ne_eq, reduceCtorEq, implies_true, false_implies, true_implies, Int.toNat_natCast, Nat.reduceAdd, Nat.reduceSub, Nat.reduceLT, Nat.reduceLeDiff, Nat.reduceEqDiff, Int.reduceLT, Int.reduceLE, Int.reduceToNat, Int.reduceNeg, Int.reduceEq, Int.reduceAdd, Nat.reduceMul, Int.reduceSub, Nat.reduceBEq, Int.reduceMul, Nat.add_zero, Nat.zero_add, Int.cast_ofNat_Int, Int.ofNat_eq_coe, decide_eq_true_eq, Nat.lt_irrefl, Nat.le_refl, List.getElem?_toArray, Option.elim_some, Option.elim_none, sr1, nw_u]
set_option maxRecDepth 100000 in
theorem c_Sp_extend {m pl l : Nat} {P : Nat → Nat} {o p : Nat → Int} (hb : Sd b) (hR : Rf M) (hm : m < 8) (hpl : pl < 16) (hP : ∀ d, d < 4 → M (b + 14) d = (P d : Int) ∧ P d ≤ 9) (ho : ∀ d, d < 4 → M (b + 12) (4 * pl + d) = o d) (hl : M (b + 13) pl = (l : Int)) (hO : Od o l) (hp : ∀ i, i < 73 → M (b + 2 + m) i = p i ∧ 0 ≤ p i ∧ p i ≤ 1000000000) : ∃ f', pz_cal (d + 1) 77 [(2, (b : Int)), (0, (m : Int) + 1), (0, (pl : Int))] ((pz_SH, ss, 0, 0, dd), M) = some (none, ((pz_SH, ss, 0, 0, dd), pz_nw M (b + 2 + (m + 1)) f')) ∧ ∀ k, k < 73 → f' k = ex P o l p (9 * m + 1) k := by
  obtain ⟨f1, e1, v1⟩ := c_Sp_extend_c (d := d) (ss := ss) (dd := dd) (M := M) (pl := pl) hb hm 73 0 (M (b + 2 + (m + 1))) (by omega) (fun k hk => absurd hk (by omega))
  obtain ⟨f2, e2, v2⟩ := c_Sp_extend_o (d := d) (ss := ss) (dd := dd) hb hR hm hpl hP ho hl hO hp (9 * m + 1) 0 f1 (9, 0) (9, 0) (9, 0) (9, 0) (9, 0) (9, 0) (by omega) v1
  refine ⟨f2, ?_, v2⟩
  rw [nw_id] at e1
  have s0 := sd0 (ss := ss) (dd := dd) hb
  have s1 := sd1 (ss := ss) (dd := dd) hb
  have r0 := sfr hb hR (i := m) (by omega)
  have r1 := sfr hb hR (i := m + 1) (by omega)
  have hb2 := Sd_le hb
  have t1 : ((m : Int) + 1).toNat = m + 1 := by omega
  have t2 : ((m : Int) + 1 - 1).toNat = m := by omega
  refine Eq.trans ?_ (e1.trans e2)
  simp (maxSteps := 1000000) (disch := omega) only [↓reduceIte, sp_0, sp_s, Option.map_some, Option.map_none, Option.some.injEq, o_le, o_nle, o_lt, o_nlt, o_eq, o_neq, w32_id, up_at, nw_at, nw_s, k_Sp_extend, px_iconst, px_bipush, px_sipush, px_ldc, px_ldc_w, px_lconst, px_ldc2_w, px_aconst_null, px_getstatic, px_iload_n, px_iload, px_lload_n, px_lload, px_aload_n, px_aload, px_istore_n, px_istore, px_astore_n, px_astore, px_lstore_n, px_lstore, px_iinc, px_iadd, px_isub, px_imul, px_iand, px_ior, px_ixor, px_ishl, px_ishr, px_iushr, px_ladd, px_lsub, px_lmul, px_land, px_lor, px_lcmp, px_lushr, px_lshl, px_ineg, px_i2l, px_l2i, px_idiv, px_irem, px_ldiv, px_lrem, px_dup0, px_pop0, px_dup2, px_pop2, px_dup2x, px_goto, px_if_eq, px_ic_eq, px_if_ne, px_ic_ne, px_if_lt, px_ic_lt, px_if_ge, px_ic_ge, px_if_gt, px_ic_gt, px_if_le, px_ic_le, px_ifnull, px_ifnonnull, px_lookupswitch, px_tableswitch, px_getfield, px_iaload, px_laload, px_caload, px_aaload, px_iastore, px_lastore, px_arraylength, px_putfield, px_ireturn, px_lreturn, px_areturn, px_return, px_iv0, px_is0, px_iv1, px_is1, px_iv2, px_is2, px_iv3, px_is3, px_iv4, px_is4, px_iv5, px_is5, px_iv6, px_is6, px_max, px_min, px_abs, px_maxJ, px_minJ, px_ii0, px_ii1, px_iio, px_copy, pz_cpk, pz_lk, pz_alk, pz_ask, pz_gfk, pz_lnk, pz_bx, pz_b, pz_z, pz_s1, pz_s2, pz_wt, pz_cmp, List.getElem?_cons_zero, List.getElem?_cons_succ, List.getElem?_nil, List.set_cons_zero, List.set_cons_succ, List.length_cons, List.length_nil, List.nil_append, List.cons_append, Option.toList_some, Option.toList_none, if_true, if_false, ite_true, ite_false, and_true, true_and, and_self, or_self, or_false, false_or, true_or, or_true, and_false, false_and, not_true_eq_false, not_false_eq_true, forall_const, ne_eq, reduceCtorEq, implies_true, false_implies, true_implies, Int.toNat_natCast, Nat.reduceAdd, Nat.reduceSub, Nat.reduceLT, Nat.reduceLeDiff, Nat.reduceEqDiff, Int.reduceLT, Int.reduceLE, Int.reduceToNat, Int.reduceNeg, Int.reduceEq, Int.reduceAdd, Nat.reduceMul, Int.reduceSub, Nat.reduceBEq, Int.reduceMul, Nat.add_zero, Nat.zero_add, Int.cast_ofNat_Int, Int.ofNat_eq_coe, decide_eq_true_eq, Nat.lt_irrefl, Nat.le_refl, List.getElem?_toArray, Option.elim_some, Option.elim_none, j_Sp_extend_0, j_Sp_extend_24, j_Sp_extend_25, s0, s1, sf0 hb hR, r0, r1, t1, t2]
end P24
