/-! QUESTIONS OF THE REFERENCE: thieves who wash, mercy -/
theorem fndr_s {p : Nat → Bool} {val : Nat → Int} {i : Int} {n : Nat} : ∀ (k j : Nat) (f : Int), (∀ x, j ≤ x → x < j + k → p x = false) → fndr p val i (k + n) j f = fndr p val i n (j + k) f
  | 0, j, f, _ => by rw [Nat.zero_add, Nat.add_zero]
  | k + 1, j, f, h => by
    have h1 := fndr_s (val := val) (i := i) (n := n) k (j + 1) f (fun x a b => h x (by omega) (by omega))
    rw [show k + 1 + n = (k + n) + 1 by omega]
    show (if p j then _ else fndr p val i (k + n) (j + 1) f) = _
    rw [if_neg (by rw [h j (by omega) (by omega)]; decide), h1, show j + 1 + k = j + (k + 1) by omega]
section P50
variable {d : Nat} {ss : List (Nat × Nat)} {dd : Nat} {M : pz_M} {L : Option ((Nat → Int) → Int)} {R : Nat → Int}
theorem rsP_f (hRo : Ro R) {a m c : Nat} (ha : a < 6) (hm : m < 2) (hc : c < 8) (hb : (sv R).testBit c = false) : rsP (wsv L R a) (8 * m + c) = false := by
  unfold rsP
  rw [show (8 * m + c) / 8 = m by omega, show (8 * m + c) % 8 = c by omega]
  unfold isr
  rcases wsv_r (L := L) (a := a) (c := c) (m := m) hRo ha hc hm with ⟨h, _⟩ | ⟨_, h⟩
  · rw [hb] at h; cases h
  · rw [decide_eq_false (fun h2 => h2.1 h)]; rfl
set_option maxRecDepth 100000 in
theorem m_rests_i (h : Em M L R) {a m : Nat} {i : Int} {n : Nat} (ha : (a : Int) < R 142) (hm : m < 2) (K : ∀ (M1 : pz_M) (f : Int), Qm M M1 → 0 ≤ f → f ≤ 8 * m + 8 → ∃ M', pz_p bl_Mo_rests (pz_cal (d + 10)) 0 0 29 [] [(2, 147), (0, (a : Int)), (0, i), (0, f), (0, (m : Int)), (0, R 141)] [] ((pz_SH, ss, 0, 0, dd), M1) = some (some (0, fndr (rsP (wsv L R a)) rsV i n (8 * m + 8) f), ((pz_SH, ss, 0, 0, dd), M')) ∧ Qm M M') : ∀ (k c : Nat) (f : Int) (M1 : pz_M), c + k = (R 141).toNat → Qm M M1 → 0 ≤ f → f ≤ 8 * m + c → ∃ M', pz_p bl_Mo_rests (pz_cal (d + 10)) 0 0 29 [] [(2, 147), (0, (a : Int)), (0, i), (0, f), (0, (m : Int)), (0, (c : Int))] [] ((pz_SH, ss, 0, 0, dd), M1) = some (some (0, fndr (rsP (wsv L R a)) rsV i (8 - c + n) (8 * m + c) f), ((pz_SH, ss, 0, 0, dd), M')) ∧ Qm M M' := by
  have hRo := h.2.2.1
  have a6 := hRo.2.2.2.2.2.1
  have c8 := hRo.2.2.2.2.1
  have c0 := hRo.1 141 (by decide)
  intro k
  induction k with
  | zero =>
    intro c f M1 hk q1 f0 f1
    obtain ⟨M', e, q⟩ := K M1 f q1 f0 (by omega)
    refine ⟨M', ?_, q⟩
    have hsk := fndr_s (p := rsP (wsv L R a)) (val := rsV) (i := i) (n := n) (8 - c) (8 * m + c) f (fun x x1 x2 => by
      have := rsP_f (L := L) (a := a) (m := m) (c := x - 8 * m) hRo (by omega) hm (by omega) (by
        cases hb : (sv R).testBit (x - 8 * m) with
        | false => rfl
        | true => have := ((sv_tb hRo).mp hb).1; omega)
      rw [show 8 * m + (x - 8 * m) = x by omega] at this
      exact this)
    rw [hsk, show 8 * m + c + (8 - c) = 8 * m + 8 by omega, ← e, show (c : Int) = R 141 by omega]
  | succ k ih =>
    intro c f M1 hk q1 f0 f1
    have h1 := Em_Q h q1
    have b := h1.2.1.1.2.2.2.2.1
    have e5 := m_isSit (d := d + 7) (ss := ss) (dd := dd) h1 (c := c) (by omega)
    have hfs : fndr (rsP (wsv L R a)) rsV i (8 - c + n) (8 * m + c) f = if rsP (wsv L R a) (8 * m + c) then (if f = i then rsV (8 * m + c) else fndr (rsP (wsv L R a)) rsV i (8 - (c + 1) + n) (8 * m + c + 1) (f + 1)) else fndr (rsP (wsv L R a)) rsV i (8 - (c + 1) + n) (8 * m + c + 1) f := by
      rw [show 8 - c + n = (8 - (c + 1) + n) + 1 by omega]
      rfl
    have hrv : rsV (8 * m + c) = 10 * (m : Int) + c := by unfold rsV; rw [show (8 * m + c) / 8 = m by omega, show (8 * m + c) % 8 = c by omega]
    rw [hfs, hrv]
    by_cases hb : (sv R).testBit c = true
    · rw [if_pos hb] at e5
      obtain ⟨M2, t2, q2⟩ := m_isRest (d := d) (ss := ss) (dd := dd) h1 ha hb hm
      have hrp : rsP (wsv L R a) (8 * m + c) = isr (wsv L R a) m c := by unfold rsP; rw [show (8 * m + c) / 8 = m by omega, show (8 * m + c) % 8 = c by omega]
      rw [hrp]
      by_cases hi : isr (wsv L R a) m c = true
      · rw [if_pos hi] at t2
        rw [if_pos hi]
        by_cases hf : f = i
        · rw [if_pos hf]
          refine ⟨M2, ?_, Qm_t q1 q2⟩
          rw [j_Mo_rests_29]
          simp (maxSteps := 1000000) (disch := omega) only [↓reduceIte, sp_0, sp_s, Option.map_some, Option.map_none, Option.some.injEq, o_le, o_nle, o_lt, o_nlt, o_eq, o_neq, w32_id, nw_s, px_iconst, px_bipush, px_sipush, px_ldc, px_ldc_w, px_lconst, px_ldc2_w, px_aconst_null, px_getstatic, px_iload_n, px_iload, px_lload_n, px_lload, px_aload_n, px_aload, px_istore_n, px_istore, px_astore_n, px_astore, px_lstore_n, px_lstore, px_iinc, px_iadd, px_isub, px_imul, px_iand, px_ior, px_ixor, px_ishl, px_ishr, px_iushr, px_ladd, px_lsub, px_lmul, px_land, px_lor, px_lcmp, px_lushr, px_lshl, px_ineg, px_i2l, px_l2i, px_idiv, px_irem, px_ldiv, px_lrem, px_dup0, px_pop0, px_dup2, px_pop2, px_dup2x, px_goto, px_if_eq, px_ic_eq, px_if_ne, px_ic_ne, px_if_lt, px_ic_lt, px_if_ge, px_ic_ge, px_if_gt, px_ic_gt, px_if_le, px_ic_le, px_ifnull, px_ifnonnull, px_lookupswitch, px_tableswitch, px_getfield, px_iaload, px_laload, px_caload, px_aaload, px_iastore, px_lastore, px_arraylength, px_putfield, px_ireturn, px_lreturn, px_areturn, px_return, px_iv0, px_is0, px_iv1, px_is1, px_iv2, px_is2, px_iv3, px_is3, px_iv4, px_is4, px_iv5, px_is5, px_iv6, px_is6, px_max, px_min, px_abs, px_maxJ, px_minJ, px_ii0, px_ii1, px_iio, px_copy, pz_cpk, pz_lk, pz_alk, pz_ask, pz_gfk, pz_lnk, pz_bx, pz_b, pz_z, pz_s1, pz_s2, pz_wt, pz_cmp, List.getElem?_cons_zero, List.getElem?_cons_succ, List.getElem?_nil, List.set_cons_zero, List.set_cons_succ, List.length_cons, List.length_nil, List.nil_append, List.cons_append, Option.toList_some, Option.toList_none, if_true, if_false, ite_true, ite_false, and_true, true_and, and_self, or_self, or_false, false_or, true_or, or_true, and_false, false_and, not_true_eq_false, not_false_eq_true, forall_const, ne_eq, reduceCtorEq, implies_true, false_implies, true_implies, Int.toNat_natCast, Nat.reduceAdd, Nat.reduceSub, Nat.reduceLT, Nat.reduceLeDiff, Nat.reduceEqDiff, Int.reduceLT, Int.reduceLE, Int.reduceToNat, Int.reduceNeg, Int.reduceEq, Int.reduceAdd, Nat.reduceMul, Int.reduceSub, Nat.reduceBEq, Int.reduceMul, Nat.add_zero, Nat.zero_add, Int.cast_ofNat_Int, Int.ofNat_eq_coe, decide_eq_true_eq, Nat.lt_irrefl, Nat.le_refl, List.getElem?_toArray, Option.elim_some, Option.elim_none, j_Mo_rests_73, j_Mo_rests_76, g_147, b, e5, t2]
        · rw [if_neg hf]
          obtain ⟨M', e, q⟩ := ih (c + 1) (f + 1) M2 (by omega) (Qm_t q1 q2) (by omega) (by omega)
          refine ⟨M', ?_, q⟩
          have e : pz_p bl_Mo_rests (pz_cal (d + 10)) 0 0 29 [] [(2, 147), (0, (a : Int)), (0, i), (0, f + 1), (0, (m : Int)), (0, (c : Int) + 1)] [] ((pz_SH, ss, 0, 0, dd), M2) = _ := e
          rw [show 8 * m + c + 1 = 8 * m + (c + 1) by omega, ← e, j_Mo_rests_29]
          simp (maxSteps := 1000000) (disch := omega) only [↓reduceIte, sp_0, sp_s, Option.map_some, Option.map_none, Option.some.injEq, o_le, o_nle, o_lt, o_nlt, o_eq, o_neq, w32_id, nw_s, px_iconst, px_bipush, px_sipush, px_ldc, px_ldc_w, px_lconst, px_ldc2_w, px_aconst_null, px_getstatic, px_iload_n, px_iload, px_lload_n, px_lload, px_aload_n, px_aload, px_istore_n, px_istore, px_astore_n, px_astore, px_lstore_n, px_lstore, px_iinc, px_iadd, px_isub, px_imul, px_iand, px_ior, px_ixor, px_ishl, px_ishr, px_iushr, px_ladd, px_lsub, px_lmul, px_land, px_lor, px_lcmp, px_lushr, px_lshl, px_ineg, px_i2l, px_l2i, px_idiv, px_irem, px_ldiv, px_lrem, px_dup0, px_pop0, px_dup2, px_pop2, px_dup2x, px_goto, px_if_eq, px_ic_eq, px_if_ne, px_ic_ne, px_if_lt, px_ic_lt, px_if_ge, px_ic_ge, px_if_gt, px_ic_gt, px_if_le, px_ic_le, px_ifnull, px_ifnonnull, px_lookupswitch, px_tableswitch, px_getfield, px_iaload, px_laload, px_caload, px_aaload, px_iastore, px_lastore, px_arraylength, px_putfield, px_ireturn, px_lreturn, px_areturn, px_return, px_iv0, px_is0, px_iv1, px_is1, px_iv2, px_is2, px_iv3, px_is3, px_iv4, px_is4, px_iv5, px_is5, px_iv6, px_is6, px_max, px_min, px_abs, px_maxJ, px_minJ, px_ii0, px_ii1, px_iio, px_copy, pz_cpk, pz_lk, pz_alk, pz_ask, pz_gfk, pz_lnk, pz_bx, pz_b, pz_z, pz_s1, pz_s2, pz_wt, pz_cmp, List.getElem?_cons_zero, List.getElem?_cons_succ, List.getElem?_nil, List.set_cons_zero, List.set_cons_succ, List.length_cons, List.length_nil, List.nil_append, List.cons_append, Option.toList_some, Option.toList_none, if_true, if_false, ite_true, ite_false, and_true, true_and, and_self, or_self, or_false, false_or, true_or, or_true, and_false, false_and, not_true_eq_false, not_false_eq_true, forall_const, ne_eq, reduceCtorEq, implies_true, false_implies, true_implies, Int.toNat_natCast, Nat.reduceAdd, Nat.reduceSub, Nat.reduceLT, Nat.reduceLeDiff, Nat.reduceEqDiff, Int.reduceLT, Int.reduceLE, Int.reduceToNat, Int.reduceNeg, Int.reduceEq, Int.reduceAdd, Nat.reduceMul, Int.reduceSub, Nat.reduceBEq, Int.reduceMul, Nat.add_zero, Nat.zero_add, Int.cast_ofNat_Int, Int.ofNat_eq_coe, decide_eq_true_eq, Nat.lt_irrefl, Nat.le_refl, List.getElem?_toArray, Option.elim_some, Option.elim_none, j_Mo_rests_73, j_Mo_rests_76, g_147, b, e5, t2]
      · rw [if_neg hi] at t2
        rw [if_neg hi]
        obtain ⟨M', e, q⟩ := ih (c + 1) f M2 (by omega) (Qm_t q1 q2) (by omega) (by omega)
        refine ⟨M', ?_, q⟩
        have e : pz_p bl_Mo_rests (pz_cal (d + 10)) 0 0 29 [] [(2, 147), (0, (a : Int)), (0, i), (0, f), (0, (m : Int)), (0, (c : Int) + 1)] [] ((pz_SH, ss, 0, 0, dd), M2) = _ := e
        rw [show 8 * m + c + 1 = 8 * m + (c + 1) by omega, ← e, j_Mo_rests_29]
        simp (maxSteps := 1000000) (disch := omega) only [↓reduceIte, sp_0, sp_s, Option.map_some, Option.map_none, Option.some.injEq, o_le, o_nle, o_lt, o_nlt, o_eq, o_neq, w32_id, nw_s, px_iconst, px_bipush, px_sipush, px_ldc, px_ldc_w, px_lconst, px_ldc2_w, px_aconst_null, px_getstatic, px_iload_n, px_iload, px_lload_n, px_lload, px_aload_n, px_aload, px_istore_n, px_istore, px_astore_n, px_astore, px_lstore_n, px_lstore, px_iinc, px_iadd, px_isub, px_imul, px_iand, px_ior, px_ixor, px_ishl, px_ishr, px_iushr, px_ladd, px_lsub, px_lmul, px_land, px_lor, px_lcmp, px_lushr, px_lshl, px_ineg, px_i2l, px_l2i, px_idiv, px_irem, px_ldiv, px_lrem, px_dup0, px_pop0, px_dup2, px_pop2, px_dup2x, px_goto, px_if_eq, px_ic_eq, px_if_ne, px_ic_ne, px_if_lt, px_ic_lt, px_if_ge, px_ic_ge, px_if_gt, px_ic_gt, px_if_le, px_ic_le, px_ifnull, px_ifnonnull, px_lookupswitch, px_tableswitch, px_getfield, px_iaload, px_laload, px_caload, px_aaload, px_iastore, px_lastore, px_arraylength, px_putfield, px_ireturn, px_lreturn, px_areturn, px_return, px_iv0, px_is0, px_iv1, px_is1, px_iv2, px_is2, px_iv3, px_is3, px_iv4, px_is4, px_iv5, px_is5, px_iv6, px_is6, px_max, px_min, px_abs, px_maxJ, px_minJ, px_ii0, px_ii1, px_iio, px_copy, pz_cpk, pz_lk, pz_alk, pz_ask, pz_gfk, pz_lnk, pz_bx, pz_b, pz_z, pz_s1, pz_s2, pz_wt, pz_cmp, List.getElem?_cons_zero, List.getElem?_cons_succ, List.getElem?_nil, List.set_cons_zero, List.set_cons_succ, List.length_cons, List.length_nil, List.nil_append, List.cons_append, Option.toList_some, Option.toList_none, if_true, if_false, ite_true, ite_false, and_true, true_and, and_self, or_self, or_false, false_or, true_or, or_true, and_false, false_and, not_true_eq_false, not_false_eq_true, forall_const, ne_eq, reduceCtorEq, implies_true, false_implies, true_implies, Int.toNat_natCast, Nat.reduceAdd, Nat.reduceSub, Nat.reduceLT, Nat.reduceLeDiff, Nat.reduceEqDiff, Int.reduceLT, Int.reduceLE, Int.reduceToNat, Int.reduceNeg, Int.reduceEq, Int.reduceAdd, Nat.reduceMul, Int.reduceSub, Nat.reduceBEq, Int.reduceMul, Nat.add_zero, Nat.zero_add, Int.cast_ofNat_Int, Int.ofNat_eq_coe, decide_eq_true_eq, Nat.lt_irrefl, Nat.le_refl, List.getElem?_toArray, Option.elim_some, Option.elim_none, j_Mo_rests_73, j_Mo_rests_76, g_147, b, e5, t2]
    · rw [if_neg hb] at e5
      rw [rsP_f (L := L) hRo (by omega) hm (by omega) (by simpa using hb), if_neg (by decide)]
      obtain ⟨M', e, q⟩ := ih (c + 1) f M1 (by omega) q1 (by omega) (by omega)
      refine ⟨M', ?_, q⟩
      have e : pz_p bl_Mo_rests (pz_cal (d + 10)) 0 0 29 [] [(2, 147), (0, (a : Int)), (0, i), (0, f), (0, (m : Int)), (0, (c : Int) + 1)] [] ((pz_SH, ss, 0, 0, dd), M1) = _ := e
      rw [show 8 * m + c + 1 = 8 * m + (c + 1) by omega, ← e, j_Mo_rests_29]
      simp (maxSteps := 1000000) (disch := omega) only [↓reduceIte, sp_0, sp_s, Option.map_some, Option.map_none, Option.some.injEq, o_le, o_nle, o_lt, o_nlt, o_eq, o_neq, w32_id, nw_s, px_iconst, px_bipush, px_sipush, px_ldc, px_ldc_w, px_lconst, px_ldc2_w, px_aconst_null, px_getstatic, px_iload_n, px_iload, px_lload_n, px_lload, px_aload_n, px_aload, px_istore_n, px_istore, px_astore_n, px_astore, px_lstore_n, px_lstore, px_iinc, px_iadd, px_isub, px_imul, px_iand, px_ior, px_ixor, px_ishl, px_ishr, px_iushr, px_ladd, px_lsub, px_lmul, px_land, px_lor, px_lcmp, px_lushr, px_lshl, px_ineg, px_i2l, px_l2i, px_idiv, px_irem, px_ldiv, px_lrem, px_dup0, px_pop0, px_dup2, px_pop2, px_dup2x, px_goto, px_if_eq, px_ic_eq, px_if_ne, px_ic_ne, px_if_lt, px_ic_lt, px_if_ge, px_ic_ge, px_if_gt, px_ic_gt, px_if_le, px_ic_le, px_ifnull, px_ifnonnull, px_lookupswitch, px_tableswitch, px_getfield, px_iaload, px_laload, px_caload, px_aaload, px_iastore, px_lastore, px_arraylength, px_putfield, px_ireturn, px_lreturn, px_areturn, px_return, px_iv0, px_is0, px_iv1, px_is1, px_iv2, px_is2, px_iv3, px_is3, px_iv4, px_is4, px_iv5, px_is5, px_iv6, px_is6, px_max, px_min, px_abs, px_maxJ, px_minJ, px_ii0, px_ii1, px_iio, px_copy, pz_cpk, pz_lk, pz_alk, pz_ask, pz_gfk, pz_lnk, pz_bx, pz_b, pz_z, pz_s1, pz_s2, pz_wt, pz_cmp, List.getElem?_cons_zero, List.getElem?_cons_succ, List.getElem?_nil, List.set_cons_zero, List.set_cons_succ, List.length_cons, List.length_nil, List.nil_append, List.cons_append, Option.toList_some, Option.toList_none, if_true, if_false, ite_true, ite_false, and_true, true_and, and_self, or_self, or_false, false_or, true_or, or_true, and_false, false_and, not_true_eq_false, not_false_eq_true, forall_const, ne_eq, reduceCtorEq, implies_true, false_implies, true_implies, Int.toNat_natCast, Nat.reduceAdd, Nat.reduceSub, Nat.reduceLT, Nat.reduceLeDiff, Nat.reduceEqDiff, Int.reduceLT, Int.reduceLE, Int.reduceToNat, Int.reduceNeg, Int.reduceEq, Int.reduceAdd, Nat.reduceMul, Int.reduceSub, Nat.reduceBEq, Int.reduceMul, Nat.add_zero, Nat.zero_add, Int.cast_ofNat_Int, Int.ofNat_eq_coe, decide_eq_true_eq, Nat.lt_irrefl, Nat.le_refl, List.getElem?_toArray, Option.elim_some, Option.elim_none, j_Mo_rests_76, g_147, b, e5]
set_option maxRecDepth 100000 in
theorem m_rests (h : Em M L R) {a i : Int} : ∃ M', pz_cal (d + 11) 267 [(2, 147), (0, a), (0, i)] ((pz_SH, ss, 0, 0, dd), M) = some (some (0, aRests L R a i), ((pz_SH, ss, 0, 0, dd), M')) ∧ Qm M M' := by
  have e2 := m_isAcc (d := d + 8) (ss := ss) (dd := dd) h (c := a)
  have hRo := h.2.2.1
  have c8 := hRo.2.2.2.2.1
  have c0 := hRo.1 141 (by decide)
  unfold aRests
  by_cases p1 : AcP R a
  · rw [if_pos p1] at e2
    by_cases p2 : -1 ≤ i
    · rw [if_pos ⟨p1, p2⟩]
      obtain ⟨a, rfl, ha, ha2⟩ := mE_a h p1
      simp only [Int.toNat_natCast]
      -- behind both rounds
      have K1 : ∀ (M1 : pz_M) (f : Int), Qm M M1 → 0 ≤ f → f ≤ 8 * ((1 : Nat) : Int) + 8 → ∃ M', pz_p bl_Mo_rests (pz_cal (d + 10)) 0 0 29 [] [(2, 147), (0, (a : Int)), (0, i), (0, f), (0, ((1 : Nat) : Int)), (0, R 141)] [] ((pz_SH, ss, 0, 0, dd), M1) = some (some (0, fndr (rsP (wsv L R a)) rsV i 0 (8 * 1 + 8) f), ((pz_SH, ss, 0, 0, dd), M')) ∧ Qm M M' := by
        intro M1 f q1 f0 f1
        have b := (Em_Q h q1).2.1.1.2.2.2.2.1
        refine ⟨M1, ?_, q1⟩
        unfold fndr
        rw [j_Mo_rests_29]
        by_cases hi : i = -1
        · rw [if_pos hi]
          simp (maxSteps := 1000000) (disch := omega) only [↓reduceIte, sp_0, sp_s, Option.map_some, Option.map_none, Option.some.injEq, o_le, o_nle, o_lt, o_nlt, o_eq, o_neq, w32_id, nw_s, px_iconst, px_bipush, px_sipush, px_ldc, px_ldc_w, px_lconst, px_ldc2_w, px_aconst_null, px_getstatic, px_iload_n, px_iload, px_lload_n, px_lload, px_aload_n, px_aload, px_istore_n, px_istore, px_astore_n, px_astore, px_lstore_n, px_lstore, px_iinc, px_iadd, px_isub, px_imul, px_iand, px_ior, px_ixor, px_ishl, px_ishr, px_iushr, px_ladd, px_lsub, px_lmul, px_land, px_lor, px_lcmp, px_lushr, px_lshl, px_ineg, px_i2l, px_l2i, px_idiv, px_irem, px_ldiv, px_lrem, px_dup0, px_pop0, px_dup2, px_pop2, px_dup2x, px_goto, px_if_eq, px_ic_eq, px_if_ne, px_ic_ne, px_if_lt, px_ic_lt, px_if_ge, px_ic_ge, px_if_gt, px_ic_gt, px_if_le, px_ic_le, px_ifnull, px_ifnonnull, px_lookupswitch, px_tableswitch, px_getfield, px_iaload, px_laload, px_caload, px_aaload, px_iastore, px_lastore, px_arraylength, px_putfield, px_ireturn, px_lreturn, px_areturn, px_return, px_iv0, px_is0, px_iv1, px_is1, px_iv2, px_is2, px_iv3, px_is3, px_iv4, px_is4, px_iv5, px_is5, px_iv6, px_is6, px_max, px_min, px_abs, px_maxJ, px_minJ, px_ii0, px_ii1, px_iio, px_copy, pz_cpk, pz_lk, pz_alk, pz_ask, pz_gfk, pz_lnk, pz_bx, pz_b, pz_z, pz_s1, pz_s2, pz_wt, pz_cmp, List.getElem?_cons_zero, List.getElem?_cons_succ, List.getElem?_nil, List.set_cons_zero, List.set_cons_succ, List.length_cons, List.length_nil, List.nil_append, List.cons_append, Option.toList_some, Option.toList_none, if_true, if_false, ite_true, ite_false, and_true, true_and, and_self, or_self, or_false, false_or, true_or, or_true, and_false, false_and, not_true_eq_false, not_false_eq_true, forall_const, ne_eq, reduceCtorEq, implies_true, false_implies, true_implies, Int.toNat_natCast, Nat.reduceAdd, Nat.reduceSub, Nat.reduceLT, Nat.reduceLeDiff, Nat.reduceEqDiff, Int.reduceLT, Int.reduceLE, Int.reduceToNat, Int.reduceNeg, Int.reduceEq, Int.reduceAdd, Nat.reduceMul, Int.reduceSub, Nat.reduceBEq, Int.reduceMul, Nat.add_zero, Nat.zero_add, Int.cast_ofNat_Int, Int.ofNat_eq_coe, decide_eq_true_eq, Nat.lt_irrefl, Nat.le_refl, List.getElem?_toArray, Option.elim_some, Option.elim_none, j_Mo_rests_82, j_Mo_rests_20, j_Mo_rests_88, j_Mo_rests_97, j_Mo_rests_98, g_147, b]
        · rw [if_neg hi]
          simp (maxSteps := 1000000) (disch := omega) only [↓reduceIte, sp_0, sp_s, Option.map_some, Option.map_none, Option.some.injEq, o_le, o_nle, o_lt, o_nlt, o_eq, o_neq, w32_id, nw_s, px_iconst, px_bipush, px_sipush, px_ldc, px_ldc_w, px_lconst, px_ldc2_w, px_aconst_null, px_getstatic, px_iload_n, px_iload, px_lload_n, px_lload, px_aload_n, px_aload, px_istore_n, px_istore, px_astore_n, px_astore, px_lstore_n, px_lstore, px_iinc, px_iadd, px_isub, px_imul, px_iand, px_ior, px_ixor, px_ishl, px_ishr, px_iushr, px_ladd, px_lsub, px_lmul, px_land, px_lor, px_lcmp, px_lushr, px_lshl, px_ineg, px_i2l, px_l2i, px_idiv, px_irem, px_ldiv, px_lrem, px_dup0, px_pop0, px_dup2, px_pop2, px_dup2x, px_goto, px_if_eq, px_ic_eq, px_if_ne, px_ic_ne, px_if_lt, px_ic_lt, px_if_ge, px_ic_ge, px_if_gt, px_ic_gt, px_if_le, px_ic_le, px_ifnull, px_ifnonnull, px_lookupswitch, px_tableswitch, px_getfield, px_iaload, px_laload, px_caload, px_aaload, px_iastore, px_lastore, px_arraylength, px_putfield, px_ireturn, px_lreturn, px_areturn, px_return, px_iv0, px_is0, px_iv1, px_is1, px_iv2, px_is2, px_iv3, px_is3, px_iv4, px_is4, px_iv5, px_is5, px_iv6, px_is6, px_max, px_min, px_abs, px_maxJ, px_minJ, px_ii0, px_ii1, px_iio, px_copy, pz_cpk, pz_lk, pz_alk, pz_ask, pz_gfk, pz_lnk, pz_bx, pz_b, pz_z, pz_s1, pz_s2, pz_wt, pz_cmp, List.getElem?_cons_zero, List.getElem?_cons_succ, List.getElem?_nil, List.set_cons_zero, List.set_cons_succ, List.length_cons, List.length_nil, List.nil_append, List.cons_append, Option.toList_some, Option.toList_none, if_true, if_false, ite_true, ite_false, and_true, true_and, and_self, or_self, or_false, false_or, true_or, or_true, and_false, false_and, not_true_eq_false, not_false_eq_true, forall_const, ne_eq, reduceCtorEq, implies_true, false_implies, true_implies, Int.toNat_natCast, Nat.reduceAdd, Nat.reduceSub, Nat.reduceLT, Nat.reduceLeDiff, Nat.reduceEqDiff, Int.reduceLT, Int.reduceLE, Int.reduceToNat, Int.reduceNeg, Int.reduceEq, Int.reduceAdd, Nat.reduceMul, Int.reduceSub, Nat.reduceBEq, Int.reduceMul, Nat.add_zero, Nat.zero_add, Int.cast_ofNat_Int, Int.ofNat_eq_coe, decide_eq_true_eq, Nat.lt_irrefl, Nat.le_refl, List.getElem?_toArray, Option.elim_some, Option.elim_none, j_Mo_rests_82, j_Mo_rests_20, j_Mo_rests_88, j_Mo_rests_97, j_Mo_rests_98, g_147, b]
      have r1 := m_rests_i (d := d) (ss := ss) (dd := dd) (a := a) (m := 1) (i := i) (n := 0) h ha2 (by decide) K1
      have K0 : ∀ (M1 : pz_M) (f : Int), Qm M M1 → 0 ≤ f → f ≤ 8 * ((0 : Nat) : Int) + 8 → ∃ M', pz_p bl_Mo_rests (pz_cal (d + 10)) 0 0 29 [] [(2, 147), (0, (a : Int)), (0, i), (0, f), (0, ((0 : Nat) : Int)), (0, R 141)] [] ((pz_SH, ss, 0, 0, dd), M1) = some (some (0, fndr (rsP (wsv L R a)) rsV i 8 (8 * 0 + 8) f), ((pz_SH, ss, 0, 0, dd), M')) ∧ Qm M M' := by
        intro M1 f q1 f0 f1
        have b := (Em_Q h q1).2.1.1.2.2.2.2.1
        obtain ⟨M', e, q⟩ := r1 (R 141).toNat 0 f M1 (by omega) q1 f0 (by omega)
        have e : pz_p bl_Mo_rests (pz_cal (d + 10)) 0 0 29 [] [(2, 147), (0, (a : Int)), (0, i), (0, f), (0, 1), (0, 0)] [] ((pz_SH, ss, 0, 0, dd), M1) = some (some (0, fndr (rsP (wsv L R a)) rsV i 8 (8 * 0 + 8) f), ((pz_SH, ss, 0, 0, dd), M')) := e
        refine ⟨M', ?_, q⟩
        rw [← e, j_Mo_rests_29]
        simp (maxSteps := 1000000) (disch := omega) only [↓reduceIte, sp_0, sp_s, Option.map_some, Option.map_none, Option.some.injEq, o_le, o_nle, o_lt, o_nlt, o_eq, o_neq, w32_id, nw_s, px_iconst, px_bipush, px_sipush, px_ldc, px_ldc_w, px_lconst, px_ldc2_w, px_aconst_null, px_getstatic, px_iload_n, px_iload, px_lload_n, px_lload, px_aload_n, px_aload, px_istore_n, px_istore, px_astore_n, px_astore, px_lstore_n, px_lstore, px_iinc, px_iadd, px_isub, px_imul, px_iand, px_ior, px_ixor, px_ishl, px_ishr, px_iushr, px_ladd, px_lsub, px_lmul, px_land, px_lor, px_lcmp, px_lushr, px_lshl, px_ineg, px_i2l, px_l2i, px_idiv, px_irem, px_ldiv, px_lrem, px_dup0, px_pop0, px_dup2, px_pop2, px_dup2x, px_goto, px_if_eq, px_ic_eq, px_if_ne, px_ic_ne, px_if_lt, px_ic_lt, px_if_ge, px_ic_ge, px_if_gt, px_ic_gt, px_if_le, px_ic_le, px_ifnull, px_ifnonnull, px_lookupswitch, px_tableswitch, px_getfield, px_iaload, px_laload, px_caload, px_aaload, px_iastore, px_lastore, px_arraylength, px_putfield, px_ireturn, px_lreturn, px_areturn, px_return, px_iv0, px_is0, px_iv1, px_is1, px_iv2, px_is2, px_iv3, px_is3, px_iv4, px_is4, px_iv5, px_is5, px_iv6, px_is6, px_max, px_min, px_abs, px_maxJ, px_minJ, px_ii0, px_ii1, px_iio, px_copy, pz_cpk, pz_lk, pz_alk, pz_ask, pz_gfk, pz_lnk, pz_bx, pz_b, pz_z, pz_s1, pz_s2, pz_wt, pz_cmp, List.getElem?_cons_zero, List.getElem?_cons_succ, List.getElem?_nil, List.set_cons_zero, List.set_cons_succ, List.length_cons, List.length_nil, List.nil_append, List.cons_append, Option.toList_some, Option.toList_none, if_true, if_false, ite_true, ite_false, and_true, true_and, and_self, or_self, or_false, false_or, true_or, or_true, and_false, false_and, not_true_eq_false, not_false_eq_true, forall_const, ne_eq, reduceCtorEq, implies_true, false_implies, true_implies, Int.toNat_natCast, Nat.reduceAdd, Nat.reduceSub, Nat.reduceLT, Nat.reduceLeDiff, Nat.reduceEqDiff, Int.reduceLT, Int.reduceLE, Int.reduceToNat, Int.reduceNeg, Int.reduceEq, Int.reduceAdd, Nat.reduceMul, Int.reduceSub, Nat.reduceBEq, Int.reduceMul, Nat.add_zero, Nat.zero_add, Int.cast_ofNat_Int, Int.ofNat_eq_coe, decide_eq_true_eq, Nat.lt_irrefl, Nat.le_refl, List.getElem?_toArray, Option.elim_some, Option.elim_none, j_Mo_rests_82, j_Mo_rests_20, g_147, b]
      obtain ⟨M', e, q⟩ := m_rests_i (d := d) (ss := ss) (dd := dd) (a := a) (m := 0) (i := i) (n := 8) h ha2 (by decide) K0 (R 141).toNat 0 0 M (by omega) Qm_r (by omega) (by omega)
      have e : pz_p bl_Mo_rests (pz_cal (d + 10)) 0 0 29 [] [(2, 147), (0, (a : Int)), (0, i), (0, 0), (0, 0), (0, 0)] [] ((pz_SH, ss, 0, 0, dd), M) = some (some (0, fndr (rsP (wsv L R a)) rsV i 16 0 0), ((pz_SH, ss, 0, 0, dd), M')) := e
      refine ⟨M', ?_, q⟩
      show _ = some (some (0, fndr (rsP (wsv L R a)) rsV i 16 0 0), ((pz_SH, ss, 0, 0, dd), M'))
      rw [← e]
      simp (maxSteps := 1000000) (disch := omega) only [↓reduceIte, sp_0, sp_s, Option.map_some, Option.map_none, Option.some.injEq, o_le, o_nle, o_lt, o_nlt, o_eq, o_neq, w32_id, up_at, nw_at, nw_s, k_Mo_rests, px_iconst, px_bipush, px_sipush, px_ldc, px_ldc_w, px_lconst, px_ldc2_w, px_aconst_null, px_getstatic, px_iload_n, px_iload, px_lload_n, px_lload, px_aload_n, px_aload, px_istore_n, px_istore, px_astore_n, px_astore, px_lstore_n, px_lstore, px_iinc, px_iadd, px_isub, px_imul, px_iand, px_ior, px_ixor, px_ishl, px_ishr, px_iushr, px_ladd, px_lsub, px_lmul, px_land, px_lor, px_lcmp, px_lushr, px_lshl, px_ineg, px_i2l, px_l2i, px_idiv, px_irem, px_ldiv, px_lrem, px_dup0, px_pop0, px_dup2, px_pop2, px_dup2x, px_goto, px_if_eq, px_ic_eq, px_if_ne, px_ic_ne, px_if_lt, px_ic_lt, px_if_ge, px_ic_ge, px_if_gt, px_ic_gt, px_if_le, px_ic_le, px_ifnull, px_ifnonnull, px_lookupswitch, px_tableswitch, px_getfield, px_iaload, px_laload, px_caload, px_aaload, px_iastore, px_lastore, px_arraylength, px_putfield, px_ireturn, px_lreturn, px_areturn, px_return, px_iv0, px_is0, px_iv1, px_is1, px_iv2, px_is2, px_iv3, px_is3, px_iv4, px_is4, px_iv5, px_is5, px_iv6, px_is6, px_max, px_min, px_abs, px_maxJ, px_minJ, px_ii0, px_ii1, px_iio, px_copy, pz_cpk, pz_lk, pz_alk, pz_ask, pz_gfk, pz_lnk, pz_bx, pz_b, pz_z, pz_s1, pz_s2, pz_wt, pz_cmp, List.getElem?_cons_zero, List.getElem?_cons_succ, List.getElem?_nil, List.set_cons_zero, List.set_cons_succ, List.length_cons, List.length_nil, List.nil_append, List.cons_append, Option.toList_some, Option.toList_none, if_true, if_false, ite_true, ite_false, and_true, true_and, and_self, or_self, or_false, false_or, true_or, or_true, and_false, false_and, not_true_eq_false, not_false_eq_true, forall_const, ne_eq, reduceCtorEq, implies_true, false_implies, true_implies, Int.toNat_natCast, Nat.reduceAdd, Nat.reduceSub, Nat.reduceLT, Nat.reduceLeDiff, Nat.reduceEqDiff, Int.reduceLT, Int.reduceLE, Int.reduceToNat, Int.reduceNeg, Int.reduceEq, Int.reduceAdd, Nat.reduceMul, Int.reduceSub, Nat.reduceBEq, Int.reduceMul, Nat.add_zero, Nat.zero_add, Int.cast_ofNat_Int, Int.ofNat_eq_coe, decide_eq_true_eq, Nat.lt_irrefl, Nat.le_refl, List.getElem?_toArray, Option.elim_some, Option.elim_none, j_Mo_rests_0, j_Mo_rests_15, j_Mo_rests_20, g_147, e2]
    · rw [if_neg (fun h => p2 h.2)]
      refine ⟨M, ?_, Qm_r⟩
      simp (maxSteps := 1000000) (disch := omega) only [↓reduceIte, sp_0, sp_s, Option.map_some, Option.map_none, Option.some.injEq, o_le, o_nle, o_lt, o_nlt, o_eq, o_neq, w32_id, up_at, nw_at, nw_s, k_Mo_rests, px_iconst, px_bipush, px_sipush, px_ldc, px_ldc_w, px_lconst, px_ldc2_w, px_aconst_null, px_getstatic, px_iload_n, px_iload, px_lload_n, px_lload, px_aload_n, px_aload, px_istore_n, px_istore, px_astore_n, px_astore, px_lstore_n, px_lstore, px_iinc, px_iadd, px_isub, px_imul, px_iand, px_ior, px_ixor, px_ishl, px_ishr, px_iushr, px_ladd, px_lsub, px_lmul, px_land, px_lor, px_lcmp, px_lushr, px_lshl, px_ineg, px_i2l, px_l2i, px_idiv, px_irem, px_ldiv, px_lrem, px_dup0, px_pop0, px_dup2, px_pop2, px_dup2x, px_goto, px_if_eq, px_ic_eq, px_if_ne, px_ic_ne, px_if_lt, px_ic_lt, px_if_ge, px_ic_ge, px_if_gt, px_ic_gt, px_if_le, px_ic_le, px_ifnull, px_ifnonnull, px_lookupswitch, px_tableswitch, px_getfield, px_iaload, px_laload, px_caload, px_aaload, px_iastore, px_lastore, px_arraylength, px_putfield, px_ireturn, px_lreturn, px_areturn, px_return, px_iv0, px_is0, px_iv1, px_is1, px_iv2, px_is2, px_iv3, px_is3, px_iv4, px_is4, px_iv5, px_is5, px_iv6, px_is6, px_max, px_min, px_abs, px_maxJ, px_minJ, px_ii0, px_ii1, px_iio, px_copy, pz_cpk, pz_lk, pz_alk, pz_ask, pz_gfk, pz_lnk, pz_bx, pz_b, pz_z, pz_s1, pz_s2, pz_wt, pz_cmp, List.getElem?_cons_zero, List.getElem?_cons_succ, List.getElem?_nil, List.set_cons_zero, List.set_cons_succ, List.length_cons, List.length_nil, List.nil_append, List.cons_append, Option.toList_some, Option.toList_none, if_true, if_false, ite_true, ite_false, and_true, true_and, and_self, or_self, or_false, false_or, true_or, or_true, and_false, false_and, not_true_eq_false, not_false_eq_true, forall_const, ne_eq, reduceCtorEq, implies_true, false_implies, true_implies, Int.toNat_natCast, Nat.reduceAdd, Nat.reduceSub, Nat.reduceLT, Nat.reduceLeDiff, Nat.reduceEqDiff, Int.reduceLT, Int.reduceLE, Int.reduceToNat, Int.reduceNeg, Int.reduceEq, Int.reduceAdd, Nat.reduceMul, Int.reduceSub, Nat.reduceBEq, Int.reduceMul, Nat.add_zero, Nat.zero_add, Int.cast_ofNat_Int, Int.ofNat_eq_coe, decide_eq_true_eq, Nat.lt_irrefl, Nat.le_refl, List.getElem?_toArray, Option.elim_some, Option.elim_none, j_Mo_rests_0, j_Mo_rests_13, g_147, e2]
  · rw [if_neg p1] at e2
    rw [if_neg (fun h => p1 h.1)]
    refine ⟨M, ?_, Qm_r⟩
    simp (maxSteps := 1000000) (disch := omega) only [↓reduceIte, sp_0, sp_s, Option.map_some, Option.map_none, Option.some.injEq, o_le, o_nle, o_lt, o_nlt, o_eq, o_neq, w32_id, up_at, nw_at, nw_s, k_Mo_rests, px_iconst, px_bipush, px_sipush, px_ldc, px_ldc_w, px_lconst, px_ldc2_w, px_aconst_null, px_getstatic, px_iload_n, px_iload, px_lload_n, px_lload, px_aload_n, px_aload, px_istore_n, px_istore, px_astore_n, px_astore, px_lstore_n, px_lstore, px_iinc, px_iadd, px_isub, px_imul, px_iand, px_ior, px_ixor, px_ishl, px_ishr, px_iushr, px_ladd, px_lsub, px_lmul, px_land, px_lor, px_lcmp, px_lushr, px_lshl, px_ineg, px_i2l, px_l2i, px_idiv, px_irem, px_ldiv, px_lrem, px_dup0, px_pop0, px_dup2, px_pop2, px_dup2x, px_goto, px_if_eq, px_ic_eq, px_if_ne, px_ic_ne, px_if_lt, px_ic_lt, px_if_ge, px_ic_ge, px_if_gt, px_ic_gt, px_if_le, px_ic_le, px_ifnull, px_ifnonnull, px_lookupswitch, px_tableswitch, px_getfield, px_iaload, px_laload, px_caload, px_aaload, px_iastore, px_lastore, px_arraylength, px_putfield, px_ireturn, px_lreturn, px_areturn, px_return, px_iv0, px_is0, px_iv1, px_is1, px_iv2, px_is2, px_iv3, px_is3, px_iv4, px_is4, px_iv5, px_is5, px_iv6, px_is6, px_max, px_min, px_abs, px_maxJ, px_minJ, px_ii0, px_ii1, px_iio, px_copy, pz_cpk, pz_lk, pz_alk, pz_ask, pz_gfk, pz_lnk, pz_bx, pz_b, pz_z, pz_s1, pz_s2, pz_wt, pz_cmp, List.getElem?_cons_zero, List.getElem?_cons_succ, List.getElem?_nil, List.set_cons_zero, List.set_cons_succ, List.length_cons, List.length_nil, List.nil_append, List.cons_append, Option.toList_some, Option.toList_none, if_true, if_false, ite_true, ite_false, and_true, true_and, and_self, or_self, or_false, false_or, true_or, or_true, and_false, false_and, not_true_eq_false, not_false_eq_true, forall_const, ne_eq, reduceCtorEq, implies_true, false_implies, true_implies, Int.toNat_natCast, Nat.reduceAdd, Nat.reduceSub, Nat.reduceLT, Nat.reduceLeDiff, Nat.reduceEqDiff, Int.reduceLT, Int.reduceLE, Int.reduceToNat, Int.reduceNeg, Int.reduceEq, Int.reduceAdd, Nat.reduceMul, Int.reduceSub, Nat.reduceBEq, Int.reduceMul, Nat.add_zero, Nat.zero_add, Int.cast_ofNat_Int, Int.ofNat_eq_coe, decide_eq_true_eq, Nat.lt_irrefl, Nat.le_refl, List.getElem?_toArray, Option.elim_some, Option.elim_none, j_Mo_rests_0, j_Mo_rests_13, g_147, e2]
/-- fish given, or taken back, by a code, to the cats below c -/
def fa1 (g : Nat → Int) (s t : Nat) (sg : Int) (c : Nat) : Nat → Int := fun x => if (x < c ∧ x < 8) ∧ s.testBit x = true then g x + sg * (tr t (cb s 8) (cb s x) : Int) else g x
/-- the state's row f, the sums a and b -/
def mF (M : pz_M) (f : Nat → Int) (a b : Int) : pz_M := pz_up (pz_up (pz_nw M 165 f) 147 39 a) 147 40 b
theorem mF_165 {f : Nat → Int} {a b : Int} : mF M f a b 165 = f := by
  funext j
  unfold mF
  rw [up_at, if_neg (by omega), up_at, if_neg (by omega), nw_s]
theorem mF_147 {f : Nat → Int} {a b : Int} {j : Nat} : mF M f a b 147 j = if j = 40 then b else if j = 39 then a else M 147 j := by
  unfold mF
  rw [up_at, up_at, nw_o (by decide)]
  by_cases h1 : j = 40
  · rw [if_pos ⟨rfl, h1⟩, if_pos h1]
  · rw [if_neg (fun h => h1 h.2), if_neg h1]
    by_cases h2 : j = 39
    · rw [if_pos ⟨rfl, h2⟩, if_pos h2]
    · rw [if_neg (fun h => h2 h.2), if_neg h2]
theorem mF_u {f : Nat → Int} {a b v : Int} {j : Nat} : pz_up (mF M f a b) 165 j v = mF M (upf f j v) a b := by
  unfold mF
  funext x y
  simp only [up_at, nw_at, upf_at]
  by_cases h1 : x = 165
  · subst h1
    by_cases h2 : y = j
    · simp [h2]
    · simp [h2]
  · simp [h1]
theorem mF_39 {f : Nat → Int} {a b v : Int} : pz_up (mF M f a b) 147 39 v = mF M f v b := by
  unfold mF
  funext x y
  simp only [up_at, nw_at]
  by_cases h1 : x = 147
  · subst h1
    by_cases h2 : y = 40
    · simp [h2]
    · by_cases h3 : y = 39
      · simp [h3]
      · simp [h2, h3]
  · simp [h1]
theorem mF_40 {f : Nat → Int} {a b v : Int} : pz_up (mF M f a b) 147 40 v = mF M f a v := by
  unfold mF
  rw [up_up]
theorem mF_0 : pz_up (pz_up M 147 39 0) 147 40 0 = mF M (M 165) 0 0 := by unfold mF; rw [nw_id]
theorem mF_r {f : Nat → Int} {a b : Int} (hR : Rf M) : Rf (mF M f a b) := Rf_up (Rf_up (Rf_of hR (fun q hq => by rw [nw_o ((by decide +kernel : ∀ q ∈ rf_L, q.1 ≠ 165) q hq)])) (by decide +kernel)) (by decide +kernel)
set_option maxRecDepth 100000 in
theorem m_putFish (h : Em M L R) {s t : Nat} {sg : Int} {g : Nat → Int} (hg : M 165 = g) (hgb : ∀ x : Nat, x < 8 → (x : Int) < R 141 → -100 ≤ g x ∧ g x ≤ 1100) (hs : s < 256) (hsv : ∀ i, s.testBit i = true → (i : Int) < R 141) (h4 : cb s 8 ≤ 4) (ht : t < 2 ^ (2 * cb s 8)) (hsg : sg = 1 ∨ sg = -1) : pz_cal (d + 2) 264 [(2, 147), (0, (s : Int)), (0, (t : Int)), (0, sg)] ((pz_SH, ss, 0, 0, dd), M) = some (none, ((pz_SH, ss, 0, 0, dd), mF M (fa1 g s t sg (R 141).toNat) (fsh t (cb s 8) (cb s 8) : Int) (rwf t (cb s 8) (cb s 8) : Int))) := by
  have hRo := h.2.2.1
  have hR := h.1
  have c8 := hRo.2.2.2.2.1
  have c0 := hRo.1 141 (by decide)
  have b := h.2.1.1.2.2.2.2.1
  have e1 := c_bitCount (d := d) (ss := ss) (dd := dd) (M := mF M g 0 0) hs
  have hsh := pn_1shl (k := 2 * cb s 8) (by omega)
  rw [show ((2 * cb s 8 : Nat) : Int) = 2 * (cb s 8 : Int) by omega, ← pn_2p] at hsh
  have hpp : 2 ^ (2 * cb s 8) ≤ 2 ^ 8 := Nat.pow_le_pow_right (by decide) (by omega)
  have b2 : ∀ f x y, mF M f x y 147 27 = R 141 := fun f x y => by rw [mF_147, if_neg (by decide), if_neg (by decide)]; exact b
  have b3 : ∀ f x y, mF M f x y 147 29 = 165 := fun f x y => by rw [mF_147, if_neg (by decide), if_neg (by decide)]; exact rf_147_29 hR
  have b4 : ∀ f x y, mF M f x y 147 39 = x := fun f x y => by rw [mF_147, if_neg (by decide), if_pos rfl]
  have b5 : ∀ f x y, mF M f x y 147 40 = y := fun f x y => by rw [mF_147, if_pos rfl]
  have b6 : ∀ f x y, mF M f x y 165 = f := fun f x y => mF_165
  have u1 : ∀ f x y j v, pz_up (mF M f x y) 165 j v = mF M (upf f j v) x y := fun f x y j v => mF_u
  have u2 : ∀ f x y v, pz_up (mF M f x y) 147 39 v = mF M f v y := fun f x y v => mF_39
  have u3 : ∀ f x y v, pz_up (mF M f x y) 147 40 v = mF M f x v := fun f x y v => mF_40
  have z0 := mF_0 (M := M)
  rw [hg] at z0
  have hf0 : fa1 g s t sg 0 = g := by funext x; unfold fa1; rw [if_neg (by omega)]
  obtain ⟨t6, _, e2⟩ := lp0 (σ := pz_V) (R 141).toNat (s := (9, 0)) (F := fun c z => pz_p bl_Mo_putFish (pz_cal (d + 1)) 0 0 23 [] [(2, 147), (0, (s : Int)), (0, (t : Int)), (0, sg), (0, ((2 ^ (2 * (cb s 8 - cb s c)) : Nat) : Int)), (0, (c : Int)), (z.1, z.2)] [] ((pz_SH, ss, 0, 0, dd), mF M (fa1 g s t sg c) (fsh t (cb s 8) (cb s c) : Int) (rwf t (cb s 8) (cb s c) : Int))) (fun _ _ => True) trivial (by
    intro c t6 hc _
    have hin := fun M' => c_has (d := d) (ss := ss) (dd := dd) (M := M') (s := s) (k := c) (by omega) (by omega)
    by_cases hb : s.testBit c = true
    · rw [if_pos hb] at hin
      have hcb : cb s (c + 1) = cb s c + 1 := by rw [cb, if_pos hb]
      have hm := cb_mono s (c + 1) (8 - (c + 1))
      rw [show c + 1 + (8 - (c + 1)) = 8 by omega] at hm
      have hp0 : 2 ^ (2 * (cb s 8 - cb s c)) = 2 ^ (2 * (cb s 8 - cb s (c + 1))) * 4 := by
        rw [show 2 * (cb s 8 - cb s c) = 2 * (cb s 8 - cb s (c + 1)) + 2 by omega, Nat.pow_add]
      have hp1 : 1 ≤ 2 ^ (2 * (cb s 8 - cb s (c + 1))) := Nat.one_le_two_pow
      have hp2 : 2 ^ (2 * (cb s 8 - cb s (c + 1))) ≤ 2 ^ 8 := Nat.pow_le_pow_right (by decide) (by omega)
      have htr : tr t (cb s 8) (cb s c) = t / 2 ^ (2 * (cb s 8 - cb s (c + 1))) % 4 := by unfold tr; rw [show cb s 8 - 1 - cb s c = cb s 8 - cb s (c + 1) by omega]
      have tb := tr_r t (cb s 8) (cb s c)
      have hfr := fsh_r t (cb s 8) (cb s c)
      have hrr := rwf_r t (cb s 8) (cb s c) (by omega)
      have hrr2 := rwf_r t (cb s 8) (cb s c + 1) (by omega)
      have hgc := hgb c (by omega) (by omega)
      have hfc : fa1 g s t sg c c = g c := by unfold fa1; rw [if_neg (by omega)]
      have hfu : upf (fa1 g s t sg c) c (g c + sg * (tr t (cb s 8) (cb s c) : Int)) = fa1 g s t sg (c + 1) := by
        funext x
        unfold upf fa1
        by_cases e : x = c
        · subst e
          rw [if_pos rfl, if_pos ⟨⟨by omega, by omega⟩, hb⟩]
        · rw [if_neg e]
          by_cases h9 : (x < c ∧ x < 8) ∧ s.testBit x = true
          · rw [if_pos h9, if_pos ⟨⟨by omega, h9.1.2⟩, h9.2⟩]
          · rw [if_neg h9, if_neg (fun h => h9 ⟨⟨by omega, h.1.2⟩, h.2⟩)]
      have fs2 : ((fsh t (cb s 8) (cb s c + 1) : Nat) : Int) = (fsh t (cb s 8) (cb s c) : Int) + (tr t (cb s 8) (cb s c) : Int) := by
        show ((fsh t (cb s 8) (cb s c) + tr t (cb s 8) (cb s c) : Nat) : Int) = _
        omega
      have rs2 : ((rwf t (cb s 8) (cb s c + 1) : Nat) : Int) = 10 * (rwf t (cb s 8) (cb s c) : Int) + (tr t (cb s 8) (cb s c) : Int) := by
        show ((rwf t (cb s 8) (cb s c) * 10 + tr t (cb s 8) (cb s c) : Nat) : Int) = _
        omega
      refine ⟨(0, (tr t (cb s 8) (cb s c) : Int)), trivial, ?_⟩
      show pz_p bl_Mo_putFish (pz_cal (d + 1)) 0 0 23 [] [(2, 147), (0, (s : Int)), (0, (t : Int)), (0, sg), (0, ((2 ^ (2 * (cb s 8 - cb s c)) : Nat) : Int)), (0, (c : Int)), (t6.1, t6.2)] [] ((pz_SH, ss, 0, 0, dd), mF M (fa1 g s t sg c) (fsh t (cb s 8) (cb s c) : Int) (rwf t (cb s 8) (cb s c) : Int)) = pz_p bl_Mo_putFish (pz_cal (d + 1)) 0 0 23 [] [(2, 147), (0, (s : Int)), (0, (t : Int)), (0, sg), (0, ((2 ^ (2 * (cb s 8 - cb s (c + 1))) : Nat) : Int)), (0, (c : Int) + 1), (0, (tr t (cb s 8) (cb s c) : Int))] [] ((pz_SH, ss, 0, 0, dd), mF M (fa1 g s t sg (c + 1)) (fsh t (cb s 8) (cb s (c + 1)) : Int) (rwf t (cb s 8) (cb s (c + 1)) : Int))
      rw [hp0, ← hfu]
      rw [hcb, fs2, rs2] at *
      generalize 2 ^ (2 * (cb s 8 - (cb s c + 1))) = N at *
      have d1 : pz_div ((N * 4 : Nat) : Int) 4 = (N : Int) := by rw [pn_div (by omega) (by omega) (by decide) (by decide)]; omega
      have htn : t / N ≤ t := Nat.div_le_self t N
      have d2 : pz_div (t : Int) (N : Int) = ((t / N : Nat) : Int) := by
        rw [pn_div (by omega) (by omega) (by omega) (by omega)]
        rfl
      generalize t / N = X at *
      have d3 : pz_rem (X : Int) 4 = (tr t (cb s 8) (cb s c) : Int) := by
        rw [pn_rem (by omega) (by omega) (by decide) (by decide), htr]
        omega
      generalize tr t (cb s 8) (cb s c) = T at *
      have t1 : (0 + (c : Int)).toNat = c := by omega
      rw [j_Mo_putFish_23]
      rcases hsg with rfl | rfl
      · simp (maxSteps := 1000000) (disch := omega) only [↓reduceIte, sp_0, sp_s, Option.map_some, Option.map_none, Option.some.injEq, o_le, o_nle, o_lt, o_nlt, o_eq, o_neq, w32_id, nw_s, px_iconst, px_bipush, px_sipush, px_ldc, px_ldc_w, px_lconst, px_ldc2_w, px_aconst_null, px_getstatic, px_iload_n, px_iload, px_lload_n, px_lload, px_aload_n, px_aload, px_istore_n, px_istore, px_astore_n, px_astore, px_lstore_n, px_lstore, px_iinc, px_iadd, px_isub, px_imul, px_iand, px_ior, px_ixor, px_ishl, px_ishr, px_iushr, px_ladd, px_lsub, px_lmul, px_land, px_lor, px_lcmp, px_lushr, px_lshl, px_ineg, px_i2l, px_l2i, px_idiv, px_irem, px_ldiv, px_lrem, px_dup0, px_pop0, px_dup2, px_pop2, px_dup2x, px_goto, px_if_eq, px_ic_eq, px_if_ne, px_ic_ne, px_if_lt, px_ic_lt, px_if_ge, px_ic_ge, px_if_gt, px_ic_gt, px_if_le, px_ic_le, px_ifnull, px_ifnonnull, px_lookupswitch, px_tableswitch, px_getfield, px_iaload, px_laload, px_caload, px_aaload, px_iastore, px_lastore, px_arraylength, px_putfield, px_ireturn, px_lreturn, px_areturn, px_return, px_iv0, px_is0, px_iv1, px_is1, px_iv2, px_is2, px_iv3, px_is3, px_iv4, px_is4, px_iv5, px_is5, px_iv6, px_is6, px_max, px_min, px_abs, px_maxJ, px_minJ, px_ii0, px_ii1, px_iio, px_copy, pz_cpk, pz_lk, pz_alk, pz_ask, pz_gfk, pz_lnk, pz_bx, pz_b, pz_z, pz_s1, pz_s2, pz_wt, pz_cmp, List.getElem?_cons_zero, List.getElem?_cons_succ, List.getElem?_nil, List.set_cons_zero, List.set_cons_succ, List.length_cons, List.length_nil, List.nil_append, List.cons_append, Option.toList_some, Option.toList_none, if_true, if_false, ite_true, ite_false, and_true, true_and, and_self, or_self, or_false, false_or, true_or, or_true, and_false, false_and, not_true_eq_false, not_false_eq_true, forall_const, ne_eq, reduceCtorEq, implies_true, false_implies, true_implies, Int.toNat_natCast, Nat.reduceAdd, Nat.reduceSub, Nat.reduceLT, Nat.reduceLeDiff, Nat.reduceEqDiff, Int.reduceLT, Int.reduceLE, Int.reduceToNat, Int.reduceNeg, Int.reduceEq, Int.reduceAdd, Nat.reduceMul, Int.reduceSub, Nat.reduceBEq, Int.reduceMul, Nat.add_zero, Nat.zero_add, Int.cast_ofNat_Int, Int.ofNat_eq_coe, decide_eq_true_eq, Nat.lt_irrefl, Nat.le_refl, List.getElem?_toArray, Option.elim_some, Option.elim_none, j_Mo_putFish_96, g_147, g_165, b2, b3, b4, b5, b6, u1, u2, u3, hin, d1, d2, d3, t1, hfc]
      · simp (maxSteps := 1000000) (disch := omega) only [↓reduceIte, sp_0, sp_s, Option.map_some, Option.map_none, Option.some.injEq, o_le, o_nle, o_lt, o_nlt, o_eq, o_neq, w32_id, nw_s, px_iconst, px_bipush, px_sipush, px_ldc, px_ldc_w, px_lconst, px_ldc2_w, px_aconst_null, px_getstatic, px_iload_n, px_iload, px_lload_n, px_lload, px_aload_n, px_aload, px_istore_n, px_istore, px_astore_n, px_astore, px_lstore_n, px_lstore, px_iinc, px_iadd, px_isub, px_imul, px_iand, px_ior, px_ixor, px_ishl, px_ishr, px_iushr, px_ladd, px_lsub, px_lmul, px_land, px_lor, px_lcmp, px_lushr, px_lshl, px_ineg, px_i2l, px_l2i, px_idiv, px_irem, px_ldiv, px_lrem, px_dup0, px_pop0, px_dup2, px_pop2, px_dup2x, px_goto, px_if_eq, px_ic_eq, px_if_ne, px_ic_ne, px_if_lt, px_ic_lt, px_if_ge, px_ic_ge, px_if_gt, px_ic_gt, px_if_le, px_ic_le, px_ifnull, px_ifnonnull, px_lookupswitch, px_tableswitch, px_getfield, px_iaload, px_laload, px_caload, px_aaload, px_iastore, px_lastore, px_arraylength, px_putfield, px_ireturn, px_lreturn, px_areturn, px_return, px_iv0, px_is0, px_iv1, px_is1, px_iv2, px_is2, px_iv3, px_is3, px_iv4, px_is4, px_iv5, px_is5, px_iv6, px_is6, px_max, px_min, px_abs, px_maxJ, px_minJ, px_ii0, px_ii1, px_iio, px_copy, pz_cpk, pz_lk, pz_alk, pz_ask, pz_gfk, pz_lnk, pz_bx, pz_b, pz_z, pz_s1, pz_s2, pz_wt, pz_cmp, List.getElem?_cons_zero, List.getElem?_cons_succ, List.getElem?_nil, List.set_cons_zero, List.set_cons_succ, List.length_cons, List.length_nil, List.nil_append, List.cons_append, Option.toList_some, Option.toList_none, if_true, if_false, ite_true, ite_false, and_true, true_and, and_self, or_self, or_false, false_or, true_or, or_true, and_false, false_and, not_true_eq_false, not_false_eq_true, forall_const, ne_eq, reduceCtorEq, implies_true, false_implies, true_implies, Int.toNat_natCast, Nat.reduceAdd, Nat.reduceSub, Nat.reduceLT, Nat.reduceLeDiff, Nat.reduceEqDiff, Int.reduceLT, Int.reduceLE, Int.reduceToNat, Int.reduceNeg, Int.reduceEq, Int.reduceAdd, Nat.reduceMul, Int.reduceSub, Nat.reduceBEq, Int.reduceMul, Nat.add_zero, Nat.zero_add, Int.cast_ofNat_Int, Int.ofNat_eq_coe, decide_eq_true_eq, Nat.lt_irrefl, Nat.le_refl, List.getElem?_toArray, Option.elim_some, Option.elim_none, j_Mo_putFish_96, g_147, g_165, b2, b3, b4, b5, b6, u1, u2, u3, hin, d1, d2, d3, t1, hfc]
    · rw [if_neg hb] at hin
      have hcb : cb s (c + 1) = cb s c := by rw [cb, if_neg hb]; rfl
      have hfu : fa1 g s t sg (c + 1) = fa1 g s t sg c := by
        funext x
        unfold fa1
        by_cases h9 : (x < c ∧ x < 8) ∧ s.testBit x = true
        · rw [if_pos h9, if_pos ⟨⟨by omega, h9.1.2⟩, h9.2⟩]
        · rw [if_neg h9, if_neg (fun h => by
            by_cases e : x = c
            · rw [e] at h; exact hb h.2
            · exact h9 ⟨⟨by omega, h.1.2⟩, h.2⟩)]
      refine ⟨t6, trivial, ?_⟩
      show pz_p bl_Mo_putFish (pz_cal (d + 1)) 0 0 23 [] [(2, 147), (0, (s : Int)), (0, (t : Int)), (0, sg), (0, ((2 ^ (2 * (cb s 8 - cb s c)) : Nat) : Int)), (0, (c : Int)), (t6.1, t6.2)] [] ((pz_SH, ss, 0, 0, dd), mF M (fa1 g s t sg c) (fsh t (cb s 8) (cb s c) : Int) (rwf t (cb s 8) (cb s c) : Int)) = pz_p bl_Mo_putFish (pz_cal (d + 1)) 0 0 23 [] [(2, 147), (0, (s : Int)), (0, (t : Int)), (0, sg), (0, ((2 ^ (2 * (cb s 8 - cb s (c + 1))) : Nat) : Int)), (0, (c : Int) + 1), (t6.1, t6.2)] [] ((pz_SH, ss, 0, 0, dd), mF M (fa1 g s t sg (c + 1)) (fsh t (cb s 8) (cb s (c + 1)) : Int) (rwf t (cb s 8) (cb s (c + 1)) : Int))
      rw [hcb, hfu, j_Mo_putFish_23]
      simp (maxSteps := 1000000) (disch := omega) only [↓reduceIte, sp_0, sp_s, Option.map_some, Option.map_none, Option.some.injEq, o_le, o_nle, o_lt, o_nlt, o_eq, o_neq, w32_id, nw_s, px_iconst, px_bipush, px_sipush, px_ldc, px_ldc_w, px_lconst, px_ldc2_w, px_aconst_null, px_getstatic, px_iload_n, px_iload, px_lload_n, px_lload, px_aload_n, px_aload, px_istore_n, px_istore, px_astore_n, px_astore, px_lstore_n, px_lstore, px_iinc, px_iadd, px_isub, px_imul, px_iand, px_ior, px_ixor, px_ishl, px_ishr, px_iushr, px_ladd, px_lsub, px_lmul, px_land, px_lor, px_lcmp, px_lushr, px_lshl, px_ineg, px_i2l, px_l2i, px_idiv, px_irem, px_ldiv, px_lrem, px_dup0, px_pop0, px_dup2, px_pop2, px_dup2x, px_goto, px_if_eq, px_ic_eq, px_if_ne, px_ic_ne, px_if_lt, px_ic_lt, px_if_ge, px_ic_ge, px_if_gt, px_ic_gt, px_if_le, px_ic_le, px_ifnull, px_ifnonnull, px_lookupswitch, px_tableswitch, px_getfield, px_iaload, px_laload, px_caload, px_aaload, px_iastore, px_lastore, px_arraylength, px_putfield, px_ireturn, px_lreturn, px_areturn, px_return, px_iv0, px_is0, px_iv1, px_is1, px_iv2, px_is2, px_iv3, px_is3, px_iv4, px_is4, px_iv5, px_is5, px_iv6, px_is6, px_max, px_min, px_abs, px_maxJ, px_minJ, px_ii0, px_ii1, px_iio, px_copy, pz_cpk, pz_lk, pz_alk, pz_ask, pz_gfk, pz_lnk, pz_bx, pz_b, pz_z, pz_s1, pz_s2, pz_wt, pz_cmp, List.getElem?_cons_zero, List.getElem?_cons_succ, List.getElem?_nil, List.set_cons_zero, List.set_cons_succ, List.length_cons, List.length_nil, List.nil_append, List.cons_append, Option.toList_some, Option.toList_none, if_true, if_false, ite_true, ite_false, and_true, true_and, and_self, or_self, or_false, false_or, true_or, or_true, and_false, false_and, not_true_eq_false, not_false_eq_true, forall_const, ne_eq, reduceCtorEq, implies_true, false_implies, true_implies, Int.toNat_natCast, Nat.reduceAdd, Nat.reduceSub, Nat.reduceLT, Nat.reduceLeDiff, Nat.reduceEqDiff, Int.reduceLT, Int.reduceLE, Int.reduceToNat, Int.reduceNeg, Int.reduceEq, Int.reduceAdd, Nat.reduceMul, Int.reduceSub, Nat.reduceBEq, Int.reduceMul, Nat.add_zero, Nat.zero_add, Int.cast_ofNat_Int, Int.ofNat_eq_coe, decide_eq_true_eq, Nat.lt_irrefl, Nat.le_refl, List.getElem?_toArray, Option.elim_some, Option.elim_none, j_Mo_putFish_96, g_147, b2, hin])
  have hcc : cb s (R 141).toNat = cb s 8 := by
    have e := cb_e (s := s) (n := (R 141).toNat) (8 - (R 141).toNat) (fun i i1 i2 => by
      cases hb : s.testBit i with
      | false => rfl
      | true => have := hsv i hb; omega)
    rw [show (R 141).toNat + (8 - (R 141).toNat) = 8 by omega] at e
    exact e.symm
  have e2 : pz_p bl_Mo_putFish (pz_cal (d + 1)) 0 0 23 [] [(2, 147), (0, (s : Int)), (0, (t : Int)), (0, sg), (0, ((2 ^ (2 * (cb s 8 - 0)) : Nat) : Int)), (0, 0), (9, 0)] [] ((pz_SH, ss, 0, 0, dd), mF M (fa1 g s t sg 0) 0 0) = pz_p bl_Mo_putFish (pz_cal (d + 1)) 0 0 23 [] [(2, 147), (0, (s : Int)), (0, (t : Int)), (0, sg), (0, ((2 ^ (2 * (cb s 8 - cb s (R 141).toNat)) : Nat) : Int)), (0, ((R 141).toNat : Int)), (t6.1, t6.2)] [] ((pz_SH, ss, 0, 0, dd), mF M (fa1 g s t sg (R 141).toNat) (fsh t (cb s 8) (cb s (R 141).toNat) : Int) (rwf t (cb s 8) (cb s (R 141).toNat) : Int)) := e2
  rw [hf0, Nat.sub_zero, hcc] at e2
  have e3 : pz_p bl_Mo_putFish (pz_cal (d + 1)) 0 0 23 [] [(2, 147), (0, (s : Int)), (0, (t : Int)), (0, sg), (0, ((2 ^ (2 * (cb s 8 - cb s 8)) : Nat) : Int)), (0, ((R 141).toNat : Int)), (t6.1, t6.2)] [] ((pz_SH, ss, 0, 0, dd), mF M (fa1 g s t sg (R 141).toNat) (fsh t (cb s 8) (cb s 8) : Int) (rwf t (cb s 8) (cb s 8) : Int)) = some (none, ((pz_SH, ss, 0, 0, dd), mF M (fa1 g s t sg (R 141).toNat) (fsh t (cb s 8) (cb s 8) : Int) (rwf t (cb s 8) (cb s 8) : Int))) := by
    rw [j_Mo_putFish_23]
    simp (maxSteps := 1000000) (disch := omega) only [↓reduceIte, sp_0, sp_s, Option.map_some, Option.map_none, Option.some.injEq, o_le, o_nle, o_lt, o_nlt, o_eq, o_neq, w32_id, nw_s, px_iconst, px_bipush, px_sipush, px_ldc, px_ldc_w, px_lconst, px_ldc2_w, px_aconst_null, px_getstatic, px_iload_n, px_iload, px_lload_n, px_lload, px_aload_n, px_aload, px_istore_n, px_istore, px_astore_n, px_astore, px_lstore_n, px_lstore, px_iinc, px_iadd, px_isub, px_imul, px_iand, px_ior, px_ixor, px_ishl, px_ishr, px_iushr, px_ladd, px_lsub, px_lmul, px_land, px_lor, px_lcmp, px_lushr, px_lshl, px_ineg, px_i2l, px_l2i, px_idiv, px_irem, px_ldiv, px_lrem, px_dup0, px_pop0, px_dup2, px_pop2, px_dup2x, px_goto, px_if_eq, px_ic_eq, px_if_ne, px_ic_ne, px_if_lt, px_ic_lt, px_if_ge, px_ic_ge, px_if_gt, px_ic_gt, px_if_le, px_ic_le, px_ifnull, px_ifnonnull, px_lookupswitch, px_tableswitch, px_getfield, px_iaload, px_laload, px_caload, px_aaload, px_iastore, px_lastore, px_arraylength, px_putfield, px_ireturn, px_lreturn, px_areturn, px_return, px_iv0, px_is0, px_iv1, px_is1, px_iv2, px_is2, px_iv3, px_is3, px_iv4, px_is4, px_iv5, px_is5, px_iv6, px_is6, px_max, px_min, px_abs, px_maxJ, px_minJ, px_ii0, px_ii1, px_iio, px_copy, pz_cpk, pz_lk, pz_alk, pz_ask, pz_gfk, pz_lnk, pz_bx, pz_b, pz_z, pz_s1, pz_s2, pz_wt, pz_cmp, List.getElem?_cons_zero, List.getElem?_cons_succ, List.getElem?_nil, List.set_cons_zero, List.set_cons_succ, List.length_cons, List.length_nil, List.nil_append, List.cons_append, Option.toList_some, Option.toList_none, if_true, if_false, ite_true, ite_false, and_true, true_and, and_self, or_self, or_false, false_or, true_or, or_true, and_false, false_and, not_true_eq_false, not_false_eq_true, forall_const, ne_eq, reduceCtorEq, implies_true, false_implies, true_implies, Int.toNat_natCast, Nat.reduceAdd, Nat.reduceSub, Nat.reduceLT, Nat.reduceLeDiff, Nat.reduceEqDiff, Int.reduceLT, Int.reduceLE, Int.reduceToNat, Int.reduceNeg, Int.reduceEq, Int.reduceAdd, Nat.reduceMul, Int.reduceSub, Nat.reduceBEq, Int.reduceMul, Nat.add_zero, Nat.zero_add, Int.cast_ofNat_Int, Int.ofNat_eq_coe, decide_eq_true_eq, Nat.lt_irrefl, Nat.le_refl, List.getElem?_toArray, Option.elim_some, Option.elim_none, j_Mo_putFish_102, g_147, b2]
  rw [← e3, ← e2]
  simp (maxSteps := 1000000) (disch := omega) only [↓reduceIte, sp_0, sp_s, Option.map_some, Option.map_none, Option.some.injEq, o_le, o_nle, o_lt, o_nlt, o_eq, o_neq, w32_id, nw_s, px_iconst, px_bipush, px_sipush, px_ldc, px_ldc_w, px_lconst, px_ldc2_w, px_aconst_null, px_getstatic, px_iload_n, px_iload, px_lload_n, px_lload, px_aload_n, px_aload, px_istore_n, px_istore, px_astore_n, px_astore, px_lstore_n, px_lstore, px_iinc, px_iadd, px_isub, px_imul, px_iand, px_ior, px_ixor, px_ishl, px_ishr, px_iushr, px_ladd, px_lsub, px_lmul, px_land, px_lor, px_lcmp, px_lushr, px_lshl, px_ineg, px_i2l, px_l2i, px_idiv, px_irem, px_ldiv, px_lrem, px_dup0, px_pop0, px_dup2, px_pop2, px_dup2x, px_goto, px_if_eq, px_ic_eq, px_if_ne, px_ic_ne, px_if_lt, px_ic_lt, px_if_ge, px_ic_ge, px_if_gt, px_ic_gt, px_if_le, px_ic_le, px_ifnull, px_ifnonnull, px_lookupswitch, px_tableswitch, px_getfield, px_iaload, px_laload, px_caload, px_aaload, px_iastore, px_lastore, px_arraylength, px_putfield, px_ireturn, px_lreturn, px_areturn, px_return, px_iv0, px_is0, px_iv1, px_is1, px_iv2, px_is2, px_iv3, px_is3, px_iv4, px_is4, px_iv5, px_is5, px_iv6, px_is6, px_max, px_min, px_abs, px_maxJ, px_minJ, px_ii0, px_ii1, px_iio, px_copy, pz_cpk, pz_lk, pz_alk, pz_ask, pz_gfk, pz_lnk, pz_bx, pz_b, pz_z, pz_s1, pz_s2, pz_wt, pz_cmp, List.getElem?_cons_zero, List.getElem?_cons_succ, List.getElem?_nil, List.set_cons_zero, List.set_cons_succ, List.length_cons, List.length_nil, List.nil_append, List.cons_append, Option.toList_some, Option.toList_none, if_true, if_false, ite_true, ite_false, and_true, true_and, and_self, or_self, or_false, false_or, true_or, or_true, and_false, false_and, not_true_eq_false, not_false_eq_true, forall_const, ne_eq, reduceCtorEq, implies_true, false_implies, true_implies, Int.toNat_natCast, Nat.reduceAdd, Nat.reduceSub, Nat.reduceLT, Nat.reduceLeDiff, Nat.reduceEqDiff, Int.reduceLT, Int.reduceLE, Int.reduceToNat, Int.reduceNeg, Int.reduceEq, Int.reduceAdd, Nat.reduceMul, Int.reduceSub, Nat.reduceBEq, Int.reduceMul, Nat.add_zero, Nat.zero_add, Int.cast_ofNat_Int, Int.ofNat_eq_coe, decide_eq_true_eq, Nat.lt_irrefl, Nat.le_refl, List.getElem?_toArray, Option.elim_some, Option.elim_none, k_Mo_putFish, j_Mo_putFish_0, g_147, z0, e1, hsh]
theorem mF_Q {f : Nat → Int} {a b : Int} (h : f = M 165) : Qm M (mF M f a b) := by
  rw [h]
  unfold mF
  rw [nw_id]
  exact Qm_t (Qm_fl (by decide)) (Qm_fl (by decide))
end P50
