/-! THE REFERENCE READS A COURT: the whole of it -/
/-- what reading a court leaves of the reference -/
def Pk (M M' : pz_M) : Prop := (∀ c, c ≠ 147 → c ≠ 158 → c ≠ 159 → c ≠ 160 → M' c = M c) ∧ ∀ j, j ≠ 3 → j ≠ 4 → j ≠ 20 → j ≠ 21 → M' 147 j = M 147 j
theorem Pk_r {M : pz_M} : Pk M M := ⟨fun _ _ _ _ _ => rfl, fun _ _ _ _ _ => rfl⟩
theorem Pk_t {M M1 M2 : pz_M} (h : Pk M M1) (g : Pk M1 M2) : Pk M M2 := ⟨fun c a b x y => (g.1 c a b x y).trans (h.1 c a b x y), fun j a b x y => (g.2 j a b x y).trans (h.2 j a b x y)⟩
theorem Pk_7 {M : pz_M} {j : Nat} {v : Int} (h : j = 3 ∨ j = 4 ∨ j = 20 ∨ j = 21) : Pk M (pz_up M 147 j v) := ⟨fun c a b x y => by funext z; rw [up_at, if_neg (by omega)], fun z a b x y => by rw [up_at, if_neg (by omega)]⟩
theorem Pk_3 {M : pz_M} {v : Int} : Pk M (pz_up M 147 3 v) := Pk_7 (.inl rfl)
theorem Pk_4 {M : pz_M} {v : Int} : Pk M (pz_up M 147 4 v) := Pk_7 (.inr (.inl rfl))
theorem Pk_8 {M : pz_M} {j : Nat} {v : Int} : Pk M (pz_up M 158 j v) := ⟨fun c a b x y => by funext z; rw [up_at, if_neg (by omega)], fun z a b x y => by rw [up_at, if_neg (by omega)]⟩
theorem Pk_i {A F m : Nat} {M M' : pz_M} (hA : A3 A) (h : Pi A F m M M') : Pk M M' := ⟨fun c a b x y => h.1 c a (by unfold A3 at hA; omega), fun j a b _ _ => h.2.1 j a b⟩
theorem Rf_Pk {M M' : pz_M} (h : Rf M) (q : Pk M M') : Rf M' := Rf_of h (fun x hx => by
  have h1 : x.1 ≠ 158 ∧ x.1 ≠ 159 ∧ x.1 ≠ 160 ∧ (x.1 = 147 → x.2.1 ≠ 3 ∧ x.2.1 ≠ 4 ∧ x.2.1 ≠ 20 ∧ x.2.1 ≠ 21) := (by decide +kernel : ∀ x ∈ rf_L, x.1 ≠ 158 ∧ x.1 ≠ 159 ∧ x.1 ≠ 160 ∧ (x.1 = 147 → x.2.1 ≠ 3 ∧ x.2.1 ≠ 4 ∧ x.2.1 ≠ 20 ∧ x.2.1 ≠ 21)) x hx
  by_cases e : x.1 = 147
  · rw [e]; exact q.2 _ (h1.2.2.2 e).1 (h1.2.2.2 e).2.1 (h1.2.2.2 e).2.2.1 (h1.2.2.2 e).2.2.2
  · rw [q.1 _ e h1.1 h1.2.1 h1.2.2.1])
theorem TR_Pk {M M' : pz_M} {T : Nat → Int} {n : Nat} (h : TR M T n) (q : Pk M M') : TR M' T n := ⟨by rw [q.2 2 (by decide) (by decide) (by decide) (by decide)]; exact h.1, h.2.1, fun i hi => by rw [q.1 148 (by decide) (by decide) (by decide) (by decide)]; exact h.2.2 i hi⟩
/-- what is read of a court is the row R -/
def RM (M : pz_M) (R : Nat → Int) : Prop := (∀ k, k < 7 → M 158 k = R k) ∧ (∀ c k : Nat, (c : Int) < R 141 → k < 6 → M 159 (6 * c + k) = R (7 + 7 * c + k)) ∧ (∀ a k : Nat, (a : Int) < R 142 → k < 3 → M 160 (3 * a + k) = R (63 + 3 * a + k)) ∧ M 147 20 = R 141 ∧ M 147 21 = R 142
theorem RM_7 {M : pz_M} {R : Nat → Int} {j : Nat} {v : Int} (h : RM M R) (hj : j ≠ 20 ∧ j ≠ 21) : RM (pz_up M 147 j v) R := by
  unfold RM
  rw [u7_c (by decide), u7_c (by decide), u7_c (by decide), u7_o (fun e => hj.1 e.symm), u7_o (fun e => hj.2 e.symm)]
  exact h
section P92
variable {d : Nat} {ss : List (Nat × Nat)} {dd : Nat} {T : Nat → Int} {n : Nat}
set_option maxRecDepth 100000 in
/-- one clause -/
theorem m_rc_clause {M : pz_M} {p : Nat} {hb : Int} {R : Nat → Int} {x : pz_V} (hR : Rf M) (hT : TR M T n) (h3 : M 147 3 = (p : Int)) (hp : p ≤ n) (h4 : M 147 4 = -1) (hM : RM M R) (hC : CI R) (hb01 : hb = 0 ∨ hb = 1) (hu : hb = 0 → ∀ k, k < 7 → R k = usu 98 k) : ∃ M' hb' cc, pz_p bl_Mo_readCourt (pz_cal (d + 5)) 0 0 50 [] [(2, 147), (0, hb), (0, 1), (x.1, x.2)] [] ((pz_SH, ss, 0, 0, dd), M) = pz_p bl_Mo_readCourt (pz_cal (d + 5)) 0 0 218 [] [(2, 147), (0, hb'), (0, 1), (0, cc)] [] ((pz_SH, ss, 0, 0, dd), M') ∧ Pk M M' ∧ (hb' = 0 ∨ hb' = 1) ∧ match gCc T n hb R p with
    | .inl z => hb' = z.1.1 ∧ M' 147 3 = (z.2 : Int) ∧ M' 147 4 = -1 ∧ RM M' z.1.2 ∧ (hb' = 0 → ∀ k, k < 7 → z.1.2 k = usu 98 k)
    | .inr w => M' 147 4 = (w : Int) ∧ ∃ a : Nat, a ≤ 300 ∧ M' 147 3 = (a : Int) := by
  have n240 := hT.2.1
  have b1 := bl_le (T := T) hp
  have b2 := bl_ge (T := T) (n := n) (p := p)
  have e1 := m_look (d := d + 3) (ss := ss) (dd := dd) hR hT h3 hp
  have h31 : pz_up M 147 3 (bl T n p : Int) 147 3 = (bl T n p : Int) := u7_3
  have h41 : pz_up M 147 3 (bl T n p : Int) 147 4 = -1 := by rw [u7_o (by decide)]; exact h4
  have r141 := hC.2.2.2.2.2.1
  have r142 := hC.2.2.2.2.2.2.1
  obtain ⟨m1, m2, m3, m4, m5⟩ := hM
  have h201 : pz_up M 147 3 (bl T n p : Int) 147 20 = R 141 := by rw [u7_o (by decide)]; exact m4
  have h211 : pz_up M 147 3 (bl T n p : Int) 147 21 = R 142 := by rw [u7_o (by decide)]; exact m5
  have k8 : pz_up (pz_up M 147 3 (bl T n p : Int)) 147 3 ((bl T n p : Int) + 1) = pz_up M 147 3 ((bl T n p : Int) + 1) := up_up2
  have hF2 : Pk M (pz_up M 147 3 ((bl T n p : Int) + 1)) := Pk_3
  have hR2 := Rf_Pk hR hF2
  have hT2 := TR_Pk hT hF2
  have h32 : pz_up M 147 3 ((bl T n p : Int) + 1) 147 3 = ((bl T n p + 1 : Nat) : Int) := u7_3
  have h42 : pz_up M 147 3 ((bl T n p : Int) + 1) 147 4 = -1 := by rw [u7_o (by decide)]; exact h4
  have h202 : pz_up M 147 3 ((bl T n p : Int) + 1) 147 20 = R 141 := by rw [u7_o (by decide)]; exact m4
  have h212 : pz_up M 147 3 ((bl T n p : Int) + 1) 147 21 = R 142 := by rw [u7_o (by decide)]; exact m5
  have k58 : pz_up M 147 3 ((bl T n p : Int) + 1) 158 = M 158 := u7_c (by decide)
  have k59 : pz_up M 147 3 ((bl T n p : Int) + 1) 159 = M 159 := u7_c (by decide)
  have k60 : pz_up M 147 3 ((bl T n p : Int) + 1) 160 = M 160 := u7_c (by decide)
  unfold gCc
  by_cases c1 : ch T n (bl T n p) = 98 ∧ hb = 0
  · rw [if_pos c1]
    obtain ⟨c1, c0⟩ := c1
    subst c0
    rw [c1] at e1
    have b3 : bl T n p < n := ch_lt c1 (by decide)
    generalize pz_up M 147 3 ((bl T n p : Int) + 1) = M2 at *
    obtain ⟨M3, t3, f3, r3⟩ := m_items (d := d) (ss := ss) (dd := dd) (A := 158) (F := 0) (N := 7) (m := 7) (base := 0) (q := 98) (R := R) (T := T) (n := n) (.inl rfl) (fun _ => g_158) (.inl rfl) rfl (by decide) (by decide) hR2 hT2 h32 h42 (by omega) (fun k hk => by rw [Nat.zero_add]; exact hu rfl k hk)
    have t3 : pz_cal (d + 5) 188 [(2, 147), (0, 98), (2, 158), (0, 0), (0, 7)] ((pz_SH, ss, 0, 0, dd), M2) = some (none, ((pz_SH, ss, 0, 0, dd), M3)) := t3
    refine ⟨M3, 1, 98, ?_, Pk_t hF2 (Pk_i (.inl rfl) f3), .inr rfl, ?_⟩
    · generalize pz_up M 147 3 (bl T n p : Int) = M1 at *
      rw [j_Mo_readCourt_50]
      simp (maxSteps := 1000000) (disch := omega) only [↓reduceIte, sp_0, sp_s, Option.map_some, Option.map_none, Option.some.injEq, o_le, o_nle, o_lt, o_nlt, o_eq, o_neq, w32_id, nw_s, px_iconst, px_bipush, px_sipush, px_ldc, px_ldc_w, px_lconst, px_ldc2_w, px_aconst_null, px_getstatic, px_iload_n, px_iload, px_lload_n, px_lload, px_aload_n, px_aload, px_istore_n, px_istore, px_astore_n, px_astore, px_lstore_n, px_lstore, px_iinc, px_iadd, px_isub, px_imul, px_iand, px_ior, px_ixor, px_ishl, px_ishr, px_iushr, px_ladd, px_lsub, px_lmul, px_land, px_lor, px_lcmp, px_lushr, px_lshl, px_ineg, px_i2l, px_l2i, px_idiv, px_irem, px_ldiv, px_lrem, px_dup0, px_pop0, px_dup2, px_pop2, px_dup2x, px_goto, px_if_eq, px_ic_eq, px_if_ne, px_ic_ne, px_if_lt, px_ic_lt, px_if_ge, px_ic_ge, px_if_gt, px_ic_gt, px_if_le, px_ic_le, px_ifnull, px_ifnonnull, px_lookupswitch, px_tableswitch, px_getfield, px_iaload, px_laload, px_caload, px_aaload, px_iastore, px_lastore, px_arraylength, px_putfield, px_ireturn, px_lreturn, px_areturn, px_return, px_iv0, px_is0, px_iv1, px_is1, px_iv2, px_is2, px_iv3, px_is3, px_iv4, px_is4, px_iv5, px_is5, px_iv6, px_is6, px_max, px_min, px_abs, px_maxJ, px_minJ, px_ii0, px_ii1, px_iio, px_copy, pz_cpk, pz_lk, pz_alk, pz_ask, pz_gfk, pz_lnk, pz_bx, pz_b, pz_z, pz_s1, pz_s2, pz_wt, pz_cmp, List.getElem?_cons_zero, List.getElem?_cons_succ, List.getElem?_nil, List.set_cons_zero, List.set_cons_succ, List.length_cons, List.length_nil, List.nil_append, List.cons_append, Option.toList_some, Option.toList_none, if_true, if_false, ite_true, ite_false, and_true, true_and, and_self, or_self, or_false, false_or, true_or, or_true, and_false, false_and, not_true_eq_false, not_false_eq_true, forall_const, ne_eq, reduceCtorEq, implies_true, false_implies, true_implies, Int.toNat_natCast, Nat.reduceAdd, Nat.reduceSub, Nat.reduceLT, Nat.reduceLeDiff, Nat.reduceEqDiff, Int.reduceLT, Int.reduceLE, Int.reduceToNat, Int.reduceNeg, Int.reduceEq, Int.reduceAdd, Nat.reduceMul, Int.reduceSub, Nat.reduceBEq, Int.reduceMul, Nat.add_zero, Nat.zero_add, Int.cast_ofNat_Int, Int.ofNat_eq_coe, decide_eq_true_eq, Nat.lt_irrefl, Nat.le_refl, List.getElem?_toArray, Option.elim_some, Option.elim_none, g_147, h4, e1, h31, k8, rf_147_17 hR2, t3]
    · have g := Gi_gIt (T := T) (n := n) (q := 98) (base := 0) 8 0 R (bl T n p + 1) hC (.inl ⟨rfl, rfl⟩) (by omega)
      match hz : gIt T n 98 0 8 0 R (bl T n p + 1), r3, g with
      | .inl z, r3, g =>
        obtain ⟨q1, q2, q3⟩ := r3
        have ou : ∀ j, 7 ≤ j → z.1 j = R j := fun j hj => g.2.2.2 j (by show ¬(0 ≤ j ∧ j < 0 + 7); omega)
        refine ⟨rfl, q1, q2, ⟨fun k hk => ?_, fun c k hc hk => ?_, fun a k ha hk => ?_, ?_, ?_⟩, fun h => by simp at h⟩
        · have := q3 k hk
          rw [Nat.zero_add] at this
          exact this
        · have hc : (c : Int) < z.1 141 := hc
          rw [ou 141 (by decide)] at hc
          show M3 159 (6 * c + k) = z.1 (7 + 7 * c + k)
          rw [f3.1 159 (by decide) (by decide), k59, ou _ (by omega)]
          exact m2 c k hc hk
        · have ha : (a : Int) < z.1 142 := ha
          rw [ou 142 (by decide)] at ha
          show M3 160 (3 * a + k) = z.1 (63 + 3 * a + k)
          rw [f3.1 160 (by decide) (by decide), k60, ou _ (by omega)]
          exact m3 a k ha hk
        · show M3 147 20 = z.1 141
          rw [f3.2.1 20 (by decide) (by decide), ou 141 (by decide)]; exact h202
        · show M3 147 21 = z.1 142
          rw [f3.2.1 21 (by decide) (by decide), ou 142 (by decide)]; exact h212
      | .inr w, r3, g => exact r3
  · rw [if_neg c1]
    have nb : pz_p bl_Mo_readCourt (pz_cal (d + 5)) 0 0 50 [] [(2, 147), (0, hb), (0, 1), (x.1, x.2)] [] ((pz_SH, ss, 0, 0, dd), M) = pz_p bl_Mo_readCourt (pz_cal (d + 5)) 0 0 104 [] [(2, 147), (0, hb), (0, 1), (0, ch T n (bl T n p))] [] ((pz_SH, ss, 0, 0, dd), pz_up M 147 3 (bl T n p : Int)) := by
      by_cases g : ch T n (bl T n p) = 98
      · have hb1 : hb = 1 := by rcases hb01 with h | h; exact (c1 ⟨g, h⟩).elim; exact h
        rw [g] at e1 ⊢
        subst hb1
        generalize pz_up M 147 3 (bl T n p : Int) = M1 at *
        rw [j_Mo_readCourt_50]
        simp (maxSteps := 1000000) (disch := omega) only [↓reduceIte, sp_0, sp_s, Option.map_some, Option.map_none, Option.some.injEq, o_le, o_nle, o_lt, o_nlt, o_eq, o_neq, w32_id, nw_s, px_iconst, px_bipush, px_sipush, px_ldc, px_ldc_w, px_lconst, px_ldc2_w, px_aconst_null, px_getstatic, px_iload_n, px_iload, px_lload_n, px_lload, px_aload_n, px_aload, px_istore_n, px_istore, px_astore_n, px_astore, px_lstore_n, px_lstore, px_iinc, px_iadd, px_isub, px_imul, px_iand, px_ior, px_ixor, px_ishl, px_ishr, px_iushr, px_ladd, px_lsub, px_lmul, px_land, px_lor, px_lcmp, px_lushr, px_lshl, px_ineg, px_i2l, px_l2i, px_idiv, px_irem, px_ldiv, px_lrem, px_dup0, px_pop0, px_dup2, px_pop2, px_dup2x, px_goto, px_if_eq, px_ic_eq, px_if_ne, px_ic_ne, px_if_lt, px_ic_lt, px_if_ge, px_ic_ge, px_if_gt, px_ic_gt, px_if_le, px_ic_le, px_ifnull, px_ifnonnull, px_lookupswitch, px_tableswitch, px_getfield, px_iaload, px_laload, px_caload, px_aaload, px_iastore, px_lastore, px_arraylength, px_putfield, px_ireturn, px_lreturn, px_areturn, px_return, px_iv0, px_is0, px_iv1, px_is1, px_iv2, px_is2, px_iv3, px_is3, px_iv4, px_is4, px_iv5, px_is5, px_iv6, px_is6, px_max, px_min, px_abs, px_maxJ, px_minJ, px_ii0, px_ii1, px_iio, px_copy, pz_cpk, pz_lk, pz_alk, pz_ask, pz_gfk, pz_lnk, pz_bx, pz_b, pz_z, pz_s1, pz_s2, pz_wt, pz_cmp, List.getElem?_cons_zero, List.getElem?_cons_succ, List.getElem?_nil, List.set_cons_zero, List.set_cons_succ, List.length_cons, List.length_nil, List.nil_append, List.cons_append, Option.toList_some, Option.toList_none, if_true, if_false, ite_true, ite_false, and_true, true_and, and_self, or_self, or_false, false_or, true_or, or_true, and_false, false_and, not_true_eq_false, not_false_eq_true, forall_const, ne_eq, reduceCtorEq, implies_true, false_implies, true_implies, Int.toNat_natCast, Nat.reduceAdd, Nat.reduceSub, Nat.reduceLT, Nat.reduceLeDiff, Nat.reduceEqDiff, Int.reduceLT, Int.reduceLE, Int.reduceToNat, Int.reduceNeg, Int.reduceEq, Int.reduceAdd, Nat.reduceMul, Int.reduceSub, Nat.reduceBEq, Int.reduceMul, Nat.add_zero, Nat.zero_add, Int.cast_ofNat_Int, Int.ofNat_eq_coe, decide_eq_true_eq, Nat.lt_irrefl, Nat.le_refl, List.getElem?_toArray, Option.elim_some, Option.elim_none, g_147, h4, e1]
      · generalize ch T n (bl T n p) = cc at *
        generalize pz_up M 147 3 (bl T n p : Int) = M1 at *
        rw [j_Mo_readCourt_50]
        simp (maxSteps := 1000000) (disch := omega) only [↓reduceIte, sp_0, sp_s, Option.map_some, Option.map_none, Option.some.injEq, o_le, o_nle, o_lt, o_nlt, o_eq, o_neq, w32_id, nw_s, px_iconst, px_bipush, px_sipush, px_ldc, px_ldc_w, px_lconst, px_ldc2_w, px_aconst_null, px_getstatic, px_iload_n, px_iload, px_lload_n, px_lload, px_aload_n, px_aload, px_istore_n, px_istore, px_astore_n, px_astore, px_lstore_n, px_lstore, px_iinc, px_iadd, px_isub, px_imul, px_iand, px_ior, px_ixor, px_ishl, px_ishr, px_iushr, px_ladd, px_lsub, px_lmul, px_land, px_lor, px_lcmp, px_lushr, px_lshl, px_ineg, px_i2l, px_l2i, px_idiv, px_irem, px_ldiv, px_lrem, px_dup0, px_pop0, px_dup2, px_pop2, px_dup2x, px_goto, px_if_eq, px_ic_eq, px_if_ne, px_ic_ne, px_if_lt, px_ic_lt, px_if_ge, px_ic_ge, px_if_gt, px_ic_gt, px_if_le, px_ic_le, px_ifnull, px_ifnonnull, px_lookupswitch, px_tableswitch, px_getfield, px_iaload, px_laload, px_caload, px_aaload, px_iastore, px_lastore, px_arraylength, px_putfield, px_ireturn, px_lreturn, px_areturn, px_return, px_iv0, px_is0, px_iv1, px_is1, px_iv2, px_is2, px_iv3, px_is3, px_iv4, px_is4, px_iv5, px_is5, px_iv6, px_is6, px_max, px_min, px_abs, px_maxJ, px_minJ, px_ii0, px_ii1, px_iio, px_copy, pz_cpk, pz_lk, pz_alk, pz_ask, pz_gfk, pz_lnk, pz_bx, pz_b, pz_z, pz_s1, pz_s2, pz_wt, pz_cmp, List.getElem?_cons_zero, List.getElem?_cons_succ, List.getElem?_nil, List.set_cons_zero, List.set_cons_succ, List.length_cons, List.length_nil, List.nil_append, List.cons_append, Option.toList_some, Option.toList_none, if_true, if_false, ite_true, ite_false, and_true, true_and, and_self, or_self, or_false, false_or, true_or, or_true, and_false, false_and, not_true_eq_false, not_false_eq_true, forall_const, ne_eq, reduceCtorEq, implies_true, false_implies, true_implies, Int.toNat_natCast, Nat.reduceAdd, Nat.reduceSub, Nat.reduceLT, Nat.reduceLeDiff, Nat.reduceEqDiff, Int.reduceLT, Int.reduceLE, Int.reduceToNat, Int.reduceNeg, Int.reduceEq, Int.reduceAdd, Nat.reduceMul, Int.reduceSub, Nat.reduceBEq, Int.reduceMul, Nat.add_zero, Nat.zero_add, Int.cast_ofNat_Int, Int.ofNat_eq_coe, decide_eq_true_eq, Nat.lt_irrefl, Nat.le_refl, List.getElem?_toArray, Option.elim_some, Option.elim_none, g_147, h4, e1]
    by_cases c2 : ch T n (bl T n p) = 99 ∧ R 141 < 8
    · rw [if_pos c2]
      obtain ⟨c2, c3⟩ := c2
      rw [c2] at nb
      have b3 : bl T n p < n := ch_lt c2 (by decide)
      have hn := CI_newC hC c3
      obtain ⟨c, hc⟩ : ∃ c : Nat, R 141 = (c : Int) := ⟨(R 141).toNat, by omega⟩
      have hc2 : (R 141).toNat = c := by omega
      rw [hc2] at hn ⊢
      have R1 := Rf_Pk hR (Pk_3 (M := M) (v := (bl T n p : Int)))
      generalize pz_up M 147 3 ((bl T n p : Int) + 1) = M2 at *
      obtain ⟨M3, t3, f3, r3⟩ := m_items (d := d) (ss := ss) (dd := dd) (A := 159) (F := 6 * c) (N := 48) (m := 6) (base := 7 + 7 * c) (q := 99) (R := newC R) (T := T) (n := n) (.inr (.inl rfl)) (fun _ => g_159) (.inr (.inl rfl)) rfl (by omega) (by decide) hR2 hT2 h32 h42 (by omega) (fun k hk => by
        have := newC_i (k := k) c3 hk
        rw [hc2] at this
        exact this)
      have t3 : pz_cal (d + 5) 188 [(2, 147), (0, 99), (2, 159), (0, 6 * (c : Int)), (0, 6)] ((pz_SH, ss, 0, 0, dd), M2) = some (none, ((pz_SH, ss, 0, 0, dd), M3)) := by
        have e : ((6 * c : Nat) : Int) = 6 * (c : Int) := by omega
        rw [← e]
        exact t3
      have h203 : M3 147 20 = (c : Int) := by rw [f3.2.1 20 (by decide) (by decide), h202]; exact hc
      refine ⟨pz_up M3 147 20 ((c : Int) + 1), hb, 99, ?_, Pk_t hF2 (Pk_t (Pk_i (.inr (.inl rfl)) f3) (Pk_7 (.inr (.inr (.inl rfl))))), hb01, ?_⟩
      · rw [nb]
        rw [hc] at h201 h202
        generalize pz_up M 147 3 (bl T n p : Int) = M1 at *
        rw [j_Mo_readCourt_104]
        simp (maxSteps := 1000000) (disch := omega) only [↓reduceIte, sp_0, sp_s, Option.map_some, Option.map_none, Option.some.injEq, o_le, o_nle, o_lt, o_nlt, o_eq, o_neq, w32_id, nw_s, px_iconst, px_bipush, px_sipush, px_ldc, px_ldc_w, px_lconst, px_ldc2_w, px_aconst_null, px_getstatic, px_iload_n, px_iload, px_lload_n, px_lload, px_aload_n, px_aload, px_istore_n, px_istore, px_astore_n, px_astore, px_lstore_n, px_lstore, px_iinc, px_iadd, px_isub, px_imul, px_iand, px_ior, px_ixor, px_ishl, px_ishr, px_iushr, px_ladd, px_lsub, px_lmul, px_land, px_lor, px_lcmp, px_lushr, px_lshl, px_ineg, px_i2l, px_l2i, px_idiv, px_irem, px_ldiv, px_lrem, px_dup0, px_pop0, px_dup2, px_pop2, px_dup2x, px_goto, px_if_eq, px_ic_eq, px_if_ne, px_ic_ne, px_if_lt, px_ic_lt, px_if_ge, px_ic_ge, px_if_gt, px_ic_gt, px_if_le, px_ic_le, px_ifnull, px_ifnonnull, px_lookupswitch, px_tableswitch, px_getfield, px_iaload, px_laload, px_caload, px_aaload, px_iastore, px_lastore, px_arraylength, px_putfield, px_ireturn, px_lreturn, px_areturn, px_return, px_iv0, px_is0, px_iv1, px_is1, px_iv2, px_is2, px_iv3, px_is3, px_iv4, px_is4, px_iv5, px_is5, px_iv6, px_is6, px_max, px_min, px_abs, px_maxJ, px_minJ, px_ii0, px_ii1, px_iio, px_copy, pz_cpk, pz_lk, pz_alk, pz_ask, pz_gfk, pz_lnk, pz_bx, pz_b, pz_z, pz_s1, pz_s2, pz_wt, pz_cmp, List.getElem?_cons_zero, List.getElem?_cons_succ, List.getElem?_nil, List.set_cons_zero, List.set_cons_succ, List.length_cons, List.length_nil, List.nil_append, List.cons_append, Option.toList_some, Option.toList_none, if_true, if_false, ite_true, ite_false, and_true, true_and, and_self, or_self, or_false, false_or, true_or, or_true, and_false, false_and, not_true_eq_false, not_false_eq_true, forall_const, ne_eq, reduceCtorEq, implies_true, false_implies, true_implies, Int.toNat_natCast, Nat.reduceAdd, Nat.reduceSub, Nat.reduceLT, Nat.reduceLeDiff, Nat.reduceEqDiff, Int.reduceLT, Int.reduceLE, Int.reduceToNat, Int.reduceNeg, Int.reduceEq, Int.reduceAdd, Nat.reduceMul, Int.reduceSub, Nat.reduceBEq, Int.reduceMul, Nat.add_zero, Nat.zero_add, Int.cast_ofNat_Int, Int.ofNat_eq_coe, decide_eq_true_eq, Nat.lt_irrefl, Nat.le_refl, List.getElem?_toArray, Option.elim_some, Option.elim_none, g_147, h201, h31, k8, rf_147_18 hR2, h202, t3, h203]
      · have g := Gi_gIt (T := T) (n := n) (q := 99) (base := 7 + 7 * c) 8 0 (newC R) (bl T n p + 1) hn.1 hn.2 (by omega)
        match hz : gIt T n 99 (7 + 7 * c) 8 0 (newC R) (bl T n p + 1), r3, g with
        | .inl z, r3, g =>
          obtain ⟨q1, q2, q3⟩ := r3
          have ou : ∀ j, ¬(7 + 7 * c ≤ j ∧ j < 7 + 7 * c + 6) → z.1 j = newC R j := fun j hj => g.2.2.2 j hj
          have ou2 : ∀ j, ¬(7 + 7 * c ≤ j ∧ j < 7 + 7 * c + 6) → j ≠ 141 → z.1 j = R j := fun j hj h1 => by rw [ou j hj, newC_o h1 (by rw [hc2]; exact hj)]
          have z141 : z.1 141 = (c : Int) + 1 := by rw [ou 141 (by omega), newC_n, hc]
          refine ⟨rfl, by rw [u7_o (by decide)]; exact q1, by rw [u7_o (by decide)]; exact q2, ⟨fun k hk => ?_, fun e k he hk => ?_, fun a k ha hk => ?_, ?_, ?_⟩, fun h k hk => ?_⟩
          · show pz_up M3 147 20 ((c : Int) + 1) 158 k = z.1 k
            rw [u7_c (by decide), f3.1 158 (by decide) (by decide), k58, ou2 k (by omega) (by omega)]
            exact m1 k hk
          · have he : (e : Int) < z.1 141 := he
            show pz_up M3 147 20 ((c : Int) + 1) 159 (6 * e + k) = z.1 (7 + 7 * e + k)
            rw [u7_c (by decide)]
            by_cases g5 : e = c
            · rw [g5]; exact q3 k hk
            · rw [f3.2.2 _ (by omega), k59, ou2 _ (by omega) (by omega)]
              exact m2 e k (by omega) hk
          · have ha : (a : Int) < z.1 142 := ha
            rw [ou2 142 (by omega) (by decide)] at ha
            show pz_up M3 147 20 ((c : Int) + 1) 160 (3 * a + k) = z.1 (63 + 3 * a + k)
            rw [u7_c (by decide), f3.1 160 (by decide) (by decide), k60, ou2 _ (by omega) (by omega)]
            exact m3 a k ha hk
          · show pz_up M3 147 20 ((c : Int) + 1) 147 20 = z.1 141
            rw [up_at, if_pos ⟨rfl, rfl⟩, z141]
          · show pz_up M3 147 20 ((c : Int) + 1) 147 21 = z.1 142
            rw [u7_o (by decide), f3.2.1 21 (by decide) (by decide), ou2 142 (by omega) (by decide)]; exact h212
          · show z.1 k = usu 98 k
            rw [ou2 k (by omega) (by omega)]
            exact hu h k hk
        | .inr w, r3, g => exact ⟨by rw [u7_o (by decide)]; exact r3.1, r3.2.elim (fun a ha => ⟨a, ha.1, by rw [u7_o (by decide)]; exact ha.2⟩)⟩
    · rw [if_neg c2]
      have nc : pz_p bl_Mo_readCourt (pz_cal (d + 5)) 0 0 50 [] [(2, 147), (0, hb), (0, 1), (x.1, x.2)] [] ((pz_SH, ss, 0, 0, dd), M) = pz_p bl_Mo_readCourt (pz_cal (d + 5)) 0 0 160 [] [(2, 147), (0, hb), (0, 1), (0, ch T n (bl T n p))] [] ((pz_SH, ss, 0, 0, dd), pz_up M 147 3 (bl T n p : Int)) := by
        rw [nb, j_Mo_readCourt_104]
        by_cases g : ch T n (bl T n p) = 99
        · have g8 : ¬ R 141 < 8 := fun h => c2 ⟨g, h⟩
          rw [g]
          generalize pz_up M 147 3 (bl T n p : Int) = M1 at *
          simp (maxSteps := 1000000) (disch := omega) only [↓reduceIte, sp_0, sp_s, Option.map_some, Option.map_none, Option.some.injEq, o_le, o_nle, o_lt, o_nlt, o_eq, o_neq, w32_id, nw_s, px_iconst, px_bipush, px_sipush, px_ldc, px_ldc_w, px_lconst, px_ldc2_w, px_aconst_null, px_getstatic, px_iload_n, px_iload, px_lload_n, px_lload, px_aload_n, px_aload, px_istore_n, px_istore, px_astore_n, px_astore, px_lstore_n, px_lstore, px_iinc, px_iadd, px_isub, px_imul, px_iand, px_ior, px_ixor, px_ishl, px_ishr, px_iushr, px_ladd, px_lsub, px_lmul, px_land, px_lor, px_lcmp, px_lushr, px_lshl, px_ineg, px_i2l, px_l2i, px_idiv, px_irem, px_ldiv, px_lrem, px_dup0, px_pop0, px_dup2, px_pop2, px_dup2x, px_goto, px_if_eq, px_ic_eq, px_if_ne, px_ic_ne, px_if_lt, px_ic_lt, px_if_ge, px_ic_ge, px_if_gt, px_ic_gt, px_if_le, px_ic_le, px_ifnull, px_ifnonnull, px_lookupswitch, px_tableswitch, px_getfield, px_iaload, px_laload, px_caload, px_aaload, px_iastore, px_lastore, px_arraylength, px_putfield, px_ireturn, px_lreturn, px_areturn, px_return, px_iv0, px_is0, px_iv1, px_is1, px_iv2, px_is2, px_iv3, px_is3, px_iv4, px_is4, px_iv5, px_is5, px_iv6, px_is6, px_max, px_min, px_abs, px_maxJ, px_minJ, px_ii0, px_ii1, px_iio, px_copy, pz_cpk, pz_lk, pz_alk, pz_ask, pz_gfk, pz_lnk, pz_bx, pz_b, pz_z, pz_s1, pz_s2, pz_wt, pz_cmp, List.getElem?_cons_zero, List.getElem?_cons_succ, List.getElem?_nil, List.set_cons_zero, List.set_cons_succ, List.length_cons, List.length_nil, List.nil_append, List.cons_append, Option.toList_some, Option.toList_none, if_true, if_false, ite_true, ite_false, and_true, true_and, and_self, or_self, or_false, false_or, true_or, or_true, and_false, false_and, not_true_eq_false, not_false_eq_true, forall_const, ne_eq, reduceCtorEq, implies_true, false_implies, true_implies, Int.toNat_natCast, Nat.reduceAdd, Nat.reduceSub, Nat.reduceLT, Nat.reduceLeDiff, Nat.reduceEqDiff, Int.reduceLT, Int.reduceLE, Int.reduceToNat, Int.reduceNeg, Int.reduceEq, Int.reduceAdd, Nat.reduceMul, Int.reduceSub, Nat.reduceBEq, Int.reduceMul, Nat.add_zero, Nat.zero_add, Int.cast_ofNat_Int, Int.ofNat_eq_coe, decide_eq_true_eq, Nat.lt_irrefl, Nat.le_refl, List.getElem?_toArray, Option.elim_some, Option.elim_none, g_147, h201]
        · generalize ch T n (bl T n p) = cc at *
          simp (maxSteps := 1000000) (disch := omega) only [↓reduceIte, sp_0, sp_s, Option.map_some, Option.map_none, Option.some.injEq, o_le, o_nle, o_lt, o_nlt, o_eq, o_neq, w32_id, nw_s, px_iconst, px_bipush, px_sipush, px_ldc, px_ldc_w, px_lconst, px_ldc2_w, px_aconst_null, px_getstatic, px_iload_n, px_iload, px_lload_n, px_lload, px_aload_n, px_aload, px_istore_n, px_istore, px_astore_n, px_astore, px_lstore_n, px_lstore, px_iinc, px_iadd, px_isub, px_imul, px_iand, px_ior, px_ixor, px_ishl, px_ishr, px_iushr, px_ladd, px_lsub, px_lmul, px_land, px_lor, px_lcmp, px_lushr, px_lshl, px_ineg, px_i2l, px_l2i, px_idiv, px_irem, px_ldiv, px_lrem, px_dup0, px_pop0, px_dup2, px_pop2, px_dup2x, px_goto, px_if_eq, px_ic_eq, px_if_ne, px_ic_ne, px_if_lt, px_ic_lt, px_if_ge, px_ic_ge, px_if_gt, px_ic_gt, px_if_le, px_ic_le, px_ifnull, px_ifnonnull, px_lookupswitch, px_tableswitch, px_getfield, px_iaload, px_laload, px_caload, px_aaload, px_iastore, px_lastore, px_arraylength, px_putfield, px_ireturn, px_lreturn, px_areturn, px_return, px_iv0, px_is0, px_iv1, px_is1, px_iv2, px_is2, px_iv3, px_is3, px_iv4, px_is4, px_iv5, px_is5, px_iv6, px_is6, px_max, px_min, px_abs, px_maxJ, px_minJ, px_ii0, px_ii1, px_iio, px_copy, pz_cpk, pz_lk, pz_alk, pz_ask, pz_gfk, pz_lnk, pz_bx, pz_b, pz_z, pz_s1, pz_s2, pz_wt, pz_cmp, List.getElem?_cons_zero, List.getElem?_cons_succ, List.getElem?_nil, List.set_cons_zero, List.set_cons_succ, List.length_cons, List.length_nil, List.nil_append, List.cons_append, Option.toList_some, Option.toList_none, if_true, if_false, ite_true, ite_false, and_true, true_and, and_self, or_self, or_false, false_or, true_or, or_true, and_false, false_and, not_true_eq_false, not_false_eq_true, forall_const, ne_eq, reduceCtorEq, implies_true, false_implies, true_implies, Int.toNat_natCast, Nat.reduceAdd, Nat.reduceSub, Nat.reduceLT, Nat.reduceLeDiff, Nat.reduceEqDiff, Int.reduceLT, Int.reduceLE, Int.reduceToNat, Int.reduceNeg, Int.reduceEq, Int.reduceAdd, Nat.reduceMul, Int.reduceSub, Nat.reduceBEq, Int.reduceMul, Nat.add_zero, Nat.zero_add, Int.cast_ofNat_Int, Int.ofNat_eq_coe, decide_eq_true_eq, Nat.lt_irrefl, Nat.le_refl, List.getElem?_toArray, Option.elim_some, Option.elim_none, g_147]
      by_cases c4 : ch T n (bl T n p) = 97 ∧ R 142 < 6
      · rw [if_pos c4]
        obtain ⟨c4, c3⟩ := c4
        rw [c4] at nc
        have b3 : bl T n p < n := ch_lt c4 (by decide)
        have hn := CI_newA hC c3
        obtain ⟨c, hc⟩ : ∃ c : Nat, R 142 = (c : Int) := ⟨(R 142).toNat, by omega⟩
        have hc2 : (R 142).toNat = c := by omega
        rw [hc2] at hn ⊢
        generalize pz_up M 147 3 ((bl T n p : Int) + 1) = M2 at *
        obtain ⟨M3, t3, f3, r3⟩ := m_items (d := d) (ss := ss) (dd := dd) (A := 160) (F := 3 * c) (N := 18) (m := 3) (base := 63 + 3 * c) (q := 97) (R := newA R) (T := T) (n := n) (.inr (.inr rfl)) (fun _ => g_160) (.inr (.inr rfl)) rfl (by omega) (by decide) hR2 hT2 h32 h42 (by omega) (fun k hk => by
          have := newA_i (k := k) c3 hk
          rw [hc2] at this
          exact this)
        have t3 : pz_cal (d + 5) 188 [(2, 147), (0, 97), (2, 160), (0, 3 * (c : Int)), (0, 3)] ((pz_SH, ss, 0, 0, dd), M2) = some (none, ((pz_SH, ss, 0, 0, dd), M3)) := by
          have e : ((3 * c : Nat) : Int) = 3 * (c : Int) := by omega
          rw [← e]
          exact t3
        have h213 : M3 147 21 = (c : Int) := by rw [f3.2.1 21 (by decide) (by decide), h212]; exact hc
        refine ⟨pz_up M3 147 21 ((c : Int) + 1), hb, 97, ?_, Pk_t hF2 (Pk_t (Pk_i (.inr (.inr rfl)) f3) (Pk_7 (.inr (.inr (.inr rfl))))), hb01, ?_⟩
        · rw [nc]
          rw [hc] at h211 h212
          generalize pz_up M 147 3 (bl T n p : Int) = M1 at *
          rw [j_Mo_readCourt_160]
          simp (maxSteps := 1000000) (disch := omega) only [↓reduceIte, sp_0, sp_s, Option.map_some, Option.map_none, Option.some.injEq, o_le, o_nle, o_lt, o_nlt, o_eq, o_neq, w32_id, nw_s, px_iconst, px_bipush, px_sipush, px_ldc, px_ldc_w, px_lconst, px_ldc2_w, px_aconst_null, px_getstatic, px_iload_n, px_iload, px_lload_n, px_lload, px_aload_n, px_aload, px_istore_n, px_istore, px_astore_n, px_astore, px_lstore_n, px_lstore, px_iinc, px_iadd, px_isub, px_imul, px_iand, px_ior, px_ixor, px_ishl, px_ishr, px_iushr, px_ladd, px_lsub, px_lmul, px_land, px_lor, px_lcmp, px_lushr, px_lshl, px_ineg, px_i2l, px_l2i, px_idiv, px_irem, px_ldiv, px_lrem, px_dup0, px_pop0, px_dup2, px_pop2, px_dup2x, px_goto, px_if_eq, px_ic_eq, px_if_ne, px_ic_ne, px_if_lt, px_ic_lt, px_if_ge, px_ic_ge, px_if_gt, px_ic_gt, px_if_le, px_ic_le, px_ifnull, px_ifnonnull, px_lookupswitch, px_tableswitch, px_getfield, px_iaload, px_laload, px_caload, px_aaload, px_iastore, px_lastore, px_arraylength, px_putfield, px_ireturn, px_lreturn, px_areturn, px_return, px_iv0, px_is0, px_iv1, px_is1, px_iv2, px_is2, px_iv3, px_is3, px_iv4, px_is4, px_iv5, px_is5, px_iv6, px_is6, px_max, px_min, px_abs, px_maxJ, px_minJ, px_ii0, px_ii1, px_iio, px_copy, pz_cpk, pz_lk, pz_alk, pz_ask, pz_gfk, pz_lnk, pz_bx, pz_b, pz_z, pz_s1, pz_s2, pz_wt, pz_cmp, List.getElem?_cons_zero, List.getElem?_cons_succ, List.getElem?_nil, List.set_cons_zero, List.set_cons_succ, List.length_cons, List.length_nil, List.nil_append, List.cons_append, Option.toList_some, Option.toList_none, if_true, if_false, ite_true, ite_false, and_true, true_and, and_self, or_self, or_false, false_or, true_or, or_true, and_false, false_and, not_true_eq_false, not_false_eq_true, forall_const, ne_eq, reduceCtorEq, implies_true, false_implies, true_implies, Int.toNat_natCast, Nat.reduceAdd, Nat.reduceSub, Nat.reduceLT, Nat.reduceLeDiff, Nat.reduceEqDiff, Int.reduceLT, Int.reduceLE, Int.reduceToNat, Int.reduceNeg, Int.reduceEq, Int.reduceAdd, Nat.reduceMul, Int.reduceSub, Nat.reduceBEq, Int.reduceMul, Nat.add_zero, Nat.zero_add, Int.cast_ofNat_Int, Int.ofNat_eq_coe, decide_eq_true_eq, Nat.lt_irrefl, Nat.le_refl, List.getElem?_toArray, Option.elim_some, Option.elim_none, g_147, h211, h31, k8, rf_147_19 hR2, h212, t3, h213]
        · have g := Gi_gIt (T := T) (n := n) (q := 97) (base := 63 + 3 * c) 8 0 (newA R) (bl T n p + 1) hn.1 hn.2 (by omega)
          match hz : gIt T n 97 (63 + 3 * c) 8 0 (newA R) (bl T n p + 1), r3, g with
          | .inl z, r3, g =>
            obtain ⟨q1, q2, q3⟩ := r3
            have ou : ∀ j, ¬(63 + 3 * c ≤ j ∧ j < 63 + 3 * c + 3) → z.1 j = newA R j := fun j hj => g.2.2.2 j hj
            have ou2 : ∀ j, ¬(63 + 3 * c ≤ j ∧ j < 63 + 3 * c + 3) → j ≠ 142 → z.1 j = R j := fun j hj h1 => by rw [ou j hj, newA_o h1 (by rw [hc2]; exact hj)]
            have z142 : z.1 142 = (c : Int) + 1 := by rw [ou 142 (by omega), newA_n, hc]
            refine ⟨rfl, by rw [u7_o (by decide)]; exact q1, by rw [u7_o (by decide)]; exact q2, ⟨fun k hk => ?_, fun e k he hk => ?_, fun a k ha hk => ?_, ?_, ?_⟩, fun h k hk => ?_⟩
            · show pz_up M3 147 21 ((c : Int) + 1) 158 k = z.1 k
              rw [u7_c (by decide), f3.1 158 (by decide) (by decide), k58, ou2 k (by omega) (by omega)]
              exact m1 k hk
            · have he : (e : Int) < z.1 141 := he
              rw [ou2 141 (by omega) (by decide)] at he
              show pz_up M3 147 21 ((c : Int) + 1) 159 (6 * e + k) = z.1 (7 + 7 * e + k)
              rw [u7_c (by decide), f3.1 159 (by decide) (by decide), k59, ou2 _ (by omega) (by omega)]
              exact m2 e k he hk
            · have ha : (a : Int) < z.1 142 := ha
              show pz_up M3 147 21 ((c : Int) + 1) 160 (3 * a + k) = z.1 (63 + 3 * a + k)
              rw [u7_c (by decide)]
              by_cases g5 : a = c
              · rw [g5]; exact q3 k hk
              · rw [f3.2.2 _ (by omega), k60, ou2 _ (by omega) (by omega)]
                exact m3 a k (by omega) hk
            · show pz_up M3 147 21 ((c : Int) + 1) 147 20 = z.1 141
              rw [u7_o (by decide), f3.2.1 20 (by decide) (by decide), ou2 141 (by omega) (by decide)]; exact h202
            · show pz_up M3 147 21 ((c : Int) + 1) 147 21 = z.1 142
              rw [up_at, if_pos ⟨rfl, rfl⟩, z142]
            · show z.1 k = usu 98 k
              rw [ou2 k (by omega) (by omega)]
              exact hu h k hk
          | .inr w, r3, g => exact ⟨by rw [u7_o (by decide)]; exact r3.1, r3.2.elim (fun a ha => ⟨a, ha.1, by rw [u7_o (by decide)]; exact ha.2⟩)⟩
      · rw [if_neg c4]
        have eb := m_bad (d := d + 4) (ss := ss) (dd := dd) h31 h41
        refine ⟨pz_up (pz_up M 147 3 (bl T n p : Int)) 147 4 (bl T n p : Int), hb, ch T n (bl T n p), ?_, Pk_t Pk_3 Pk_4, hb01, u7_4, bl T n p, by omega, by rw [u7_o (by decide)]; exact u7_3⟩
        rw [nc]
        generalize pz_up (pz_up M 147 3 (bl T n p : Int)) 147 4 (bl T n p : Int) = M2 at *
        generalize pz_up M 147 3 (bl T n p : Int) = M1 at *
        rw [j_Mo_readCourt_160]
        by_cases g : ch T n (bl T n p) = 97
        · have g8 : ¬ R 142 < 6 := fun h => c4 ⟨g, h⟩
          rw [g]
          simp (maxSteps := 1000000) (disch := omega) only [↓reduceIte, sp_0, sp_s, Option.map_some, Option.map_none, Option.some.injEq, o_le, o_nle, o_lt, o_nlt, o_eq, o_neq, w32_id, nw_s, px_iconst, px_bipush, px_sipush, px_ldc, px_ldc_w, px_lconst, px_ldc2_w, px_aconst_null, px_getstatic, px_iload_n, px_iload, px_lload_n, px_lload, px_aload_n, px_aload, px_istore_n, px_istore, px_astore_n, px_astore, px_lstore_n, px_lstore, px_iinc, px_iadd, px_isub, px_imul, px_iand, px_ior, px_ixor, px_ishl, px_ishr, px_iushr, px_ladd, px_lsub, px_lmul, px_land, px_lor, px_lcmp, px_lushr, px_lshl, px_ineg, px_i2l, px_l2i, px_idiv, px_irem, px_ldiv, px_lrem, px_dup0, px_pop0, px_dup2, px_pop2, px_dup2x, px_goto, px_if_eq, px_ic_eq, px_if_ne, px_ic_ne, px_if_lt, px_ic_lt, px_if_ge, px_ic_ge, px_if_gt, px_ic_gt, px_if_le, px_ic_le, px_ifnull, px_ifnonnull, px_lookupswitch, px_tableswitch, px_getfield, px_iaload, px_laload, px_caload, px_aaload, px_iastore, px_lastore, px_arraylength, px_putfield, px_ireturn, px_lreturn, px_areturn, px_return, px_iv0, px_is0, px_iv1, px_is1, px_iv2, px_is2, px_iv3, px_is3, px_iv4, px_is4, px_iv5, px_is5, px_iv6, px_is6, px_max, px_min, px_abs, px_maxJ, px_minJ, px_ii0, px_ii1, px_iio, px_copy, pz_cpk, pz_lk, pz_alk, pz_ask, pz_gfk, pz_lnk, pz_bx, pz_b, pz_z, pz_s1, pz_s2, pz_wt, pz_cmp, List.getElem?_cons_zero, List.getElem?_cons_succ, List.getElem?_nil, List.set_cons_zero, List.set_cons_succ, List.length_cons, List.length_nil, List.nil_append, List.cons_append, Option.toList_some, Option.toList_none, if_true, if_false, ite_true, ite_false, and_true, true_and, and_self, or_self, or_false, false_or, true_or, or_true, and_false, false_and, not_true_eq_false, not_false_eq_true, forall_const, ne_eq, reduceCtorEq, implies_true, false_implies, true_implies, Int.toNat_natCast, Nat.reduceAdd, Nat.reduceSub, Nat.reduceLT, Nat.reduceLeDiff, Nat.reduceEqDiff, Int.reduceLT, Int.reduceLE, Int.reduceToNat, Int.reduceNeg, Int.reduceEq, Int.reduceAdd, Nat.reduceMul, Int.reduceSub, Nat.reduceBEq, Int.reduceMul, Nat.add_zero, Nat.zero_add, Int.cast_ofNat_Int, Int.ofNat_eq_coe, decide_eq_true_eq, Nat.lt_irrefl, Nat.le_refl, List.getElem?_toArray, Option.elim_some, Option.elim_none, j_Mo_readCourt_214, g_147, h211, eb]
        · generalize ch T n (bl T n p) = cc at *
          simp (maxSteps := 1000000) (disch := omega) only [↓reduceIte, sp_0, sp_s, Option.map_some, Option.map_none, Option.some.injEq, o_le, o_nle, o_lt, o_nlt, o_eq, o_neq, w32_id, nw_s, px_iconst, px_bipush, px_sipush, px_ldc, px_ldc_w, px_lconst, px_ldc2_w, px_aconst_null, px_getstatic, px_iload_n, px_iload, px_lload_n, px_lload, px_aload_n, px_aload, px_istore_n, px_istore, px_astore_n, px_astore, px_lstore_n, px_lstore, px_iinc, px_iadd, px_isub, px_imul, px_iand, px_ior, px_ixor, px_ishl, px_ishr, px_iushr, px_ladd, px_lsub, px_lmul, px_land, px_lor, px_lcmp, px_lushr, px_lshl, px_ineg, px_i2l, px_l2i, px_idiv, px_irem, px_ldiv, px_lrem, px_dup0, px_pop0, px_dup2, px_pop2, px_dup2x, px_goto, px_if_eq, px_ic_eq, px_if_ne, px_ic_ne, px_if_lt, px_ic_lt, px_if_ge, px_ic_ge, px_if_gt, px_ic_gt, px_if_le, px_ic_le, px_ifnull, px_ifnonnull, px_lookupswitch, px_tableswitch, px_getfield, px_iaload, px_laload, px_caload, px_aaload, px_iastore, px_lastore, px_arraylength, px_putfield, px_ireturn, px_lreturn, px_areturn, px_return, px_iv0, px_is0, px_iv1, px_is1, px_iv2, px_is2, px_iv3, px_is3, px_iv4, px_is4, px_iv5, px_is5, px_iv6, px_is6, px_max, px_min, px_abs, px_maxJ, px_minJ, px_ii0, px_ii1, px_iio, px_copy, pz_cpk, pz_lk, pz_alk, pz_ask, pz_gfk, pz_lnk, pz_bx, pz_b, pz_z, pz_s1, pz_s2, pz_wt, pz_cmp, List.getElem?_cons_zero, List.getElem?_cons_succ, List.getElem?_nil, List.set_cons_zero, List.set_cons_succ, List.length_cons, List.length_nil, List.nil_append, List.cons_append, Option.toList_some, Option.toList_none, if_true, if_false, ite_true, ite_false, and_true, true_and, and_self, or_self, or_false, false_or, true_or, or_true, and_false, false_and, not_true_eq_false, not_false_eq_true, forall_const, ne_eq, reduceCtorEq, implies_true, false_implies, true_implies, Int.toNat_natCast, Nat.reduceAdd, Nat.reduceSub, Nat.reduceLT, Nat.reduceLeDiff, Nat.reduceEqDiff, Int.reduceLT, Int.reduceLE, Int.reduceToNat, Int.reduceNeg, Int.reduceEq, Int.reduceAdd, Nat.reduceMul, Int.reduceSub, Nat.reduceBEq, Int.reduceMul, Nat.add_zero, Nat.zero_add, Int.cast_ofNat_Int, Int.ofNat_eq_coe, decide_eq_true_eq, Nat.lt_irrefl, Nat.le_refl, List.getElem?_toArray, Option.elim_some, Option.elim_none, j_Mo_readCourt_214, g_147, h211, eb]
set_option maxRecDepth 100000 in
/-- the end of a court's text -/
theorem m_rc_262 {M : pz_M} {p : Nat} {x y z : pz_V} {R : Nat → Int} (hR : Rf M) (hT : TR M T n) (h3 : M 147 3 = (p : Int)) (hp : p ≤ n) (h4 : M 147 4 = -1) (h20 : M 147 20 = R 141) (h21 : M 147 21 = R 142) : pz_p bl_Mo_readCourt (pz_cal (d + 5)) 0 0 262 [] [(2, 147), (x.1, x.2), (y.1, y.2), (z.1, z.2)] [] ((pz_SH, ss, 0, 0, dd), M) = if ch T n (bl T n p) = -1 ∧ R 141 ≠ 0 ∧ R 142 ≠ 0 then some (some (0, -1), ((pz_SH, ss, 0, 0, dd), pz_up M 147 3 (bl T n p : Int))) else some (some (0, (bl T n p : Int)), ((pz_SH, ss, 0, 0, dd), pz_up (pz_up M 147 3 (bl T n p : Int)) 147 4 (bl T n p : Int))) := by
  have e1 := m_look (d := d + 3) (ss := ss) (dd := dd) hR hT h3 hp
  have h31 : pz_up M 147 3 (bl T n p : Int) 147 3 = (bl T n p : Int) := u7_3
  have h41 : pz_up M 147 3 (bl T n p : Int) 147 4 = -1 := by rw [u7_o (by decide)]; exact h4
  have h201 : pz_up M 147 3 (bl T n p : Int) 147 20 = R 141 := by rw [u7_o (by decide)]; exact h20
  have h211 : pz_up M 147 3 (bl T n p : Int) 147 21 = R 142 := by rw [u7_o (by decide)]; exact h21
  have eb := m_bad (d := d + 4) (ss := ss) (dd := dd) h31 h41
  have h42 : pz_up (pz_up M 147 3 (bl T n p : Int)) 147 4 (bl T n p : Int) 147 4 = (bl T n p : Int) := u7_4
  generalize pz_up (pz_up M 147 3 (bl T n p : Int)) 147 4 (bl T n p : Int) = M2 at *
  generalize pz_up M 147 3 (bl T n p : Int) = M1 at *
  generalize ch T n (bl T n p) = cc at *
  rw [j_Mo_readCourt_262]
  by_cases c1 : cc = -1
  · subst c1
    by_cases c2 : R 141 = 0
    · rw [if_neg (fun h => h.2.1 c2)]
      simp (maxSteps := 1000000) (disch := omega) only [↓reduceIte, sp_0, sp_s, Option.map_some, Option.map_none, Option.some.injEq, o_le, o_nle, o_lt, o_nlt, o_eq, o_neq, w32_id, nw_s, px_iconst, px_bipush, px_sipush, px_ldc, px_ldc_w, px_lconst, px_ldc2_w, px_aconst_null, px_getstatic, px_iload_n, px_iload, px_lload_n, px_lload, px_aload_n, px_aload, px_istore_n, px_istore, px_astore_n, px_astore, px_lstore_n, px_lstore, px_iinc, px_iadd, px_isub, px_imul, px_iand, px_ior, px_ixor, px_ishl, px_ishr, px_iushr, px_ladd, px_lsub, px_lmul, px_land, px_lor, px_lcmp, px_lushr, px_lshl, px_ineg, px_i2l, px_l2i, px_idiv, px_irem, px_ldiv, px_lrem, px_dup0, px_pop0, px_dup2, px_pop2, px_dup2x, px_goto, px_if_eq, px_ic_eq, px_if_ne, px_ic_ne, px_if_lt, px_ic_lt, px_if_ge, px_ic_ge, px_if_gt, px_ic_gt, px_if_le, px_ic_le, px_ifnull, px_ifnonnull, px_lookupswitch, px_tableswitch, px_getfield, px_iaload, px_laload, px_caload, px_aaload, px_iastore, px_lastore, px_arraylength, px_putfield, px_ireturn, px_lreturn, px_areturn, px_return, px_iv0, px_is0, px_iv1, px_is1, px_iv2, px_is2, px_iv3, px_is3, px_iv4, px_is4, px_iv5, px_is5, px_iv6, px_is6, px_max, px_min, px_abs, px_maxJ, px_minJ, px_ii0, px_ii1, px_iio, px_copy, pz_cpk, pz_lk, pz_alk, pz_ask, pz_gfk, pz_lnk, pz_bx, pz_b, pz_z, pz_s1, pz_s2, pz_wt, pz_cmp, List.getElem?_cons_zero, List.getElem?_cons_succ, List.getElem?_nil, List.set_cons_zero, List.set_cons_succ, List.length_cons, List.length_nil, List.nil_append, List.cons_append, Option.toList_some, Option.toList_none, if_true, if_false, ite_true, ite_false, and_true, true_and, and_self, or_self, or_false, false_or, true_or, or_true, and_false, false_and, not_true_eq_false, not_false_eq_true, forall_const, ne_eq, reduceCtorEq, implies_true, false_implies, true_implies, Int.toNat_natCast, Nat.reduceAdd, Nat.reduceSub, Nat.reduceLT, Nat.reduceLeDiff, Nat.reduceEqDiff, Int.reduceLT, Int.reduceLE, Int.reduceToNat, Int.reduceNeg, Int.reduceEq, Int.reduceAdd, Nat.reduceMul, Int.reduceSub, Nat.reduceBEq, Int.reduceMul, Nat.add_zero, Nat.zero_add, Int.cast_ofNat_Int, Int.ofNat_eq_coe, decide_eq_true_eq, Nat.lt_irrefl, Nat.le_refl, List.getElem?_toArray, Option.elim_some, Option.elim_none, j_Mo_readCourt_292, j_Mo_readCourt_296, g_147, h4, e1, h201, c2, eb, h42]
    · by_cases c3 : R 142 = 0
      · rw [if_neg (fun h => h.2.2 c3)]
        simp (maxSteps := 1000000) (disch := omega) only [↓reduceIte, sp_0, sp_s, Option.map_some, Option.map_none, Option.some.injEq, o_le, o_nle, o_lt, o_nlt, o_eq, o_neq, w32_id, nw_s, px_iconst, px_bipush, px_sipush, px_ldc, px_ldc_w, px_lconst, px_ldc2_w, px_aconst_null, px_getstatic, px_iload_n, px_iload, px_lload_n, px_lload, px_aload_n, px_aload, px_istore_n, px_istore, px_astore_n, px_astore, px_lstore_n, px_lstore, px_iinc, px_iadd, px_isub, px_imul, px_iand, px_ior, px_ixor, px_ishl, px_ishr, px_iushr, px_ladd, px_lsub, px_lmul, px_land, px_lor, px_lcmp, px_lushr, px_lshl, px_ineg, px_i2l, px_l2i, px_idiv, px_irem, px_ldiv, px_lrem, px_dup0, px_pop0, px_dup2, px_pop2, px_dup2x, px_goto, px_if_eq, px_ic_eq, px_if_ne, px_ic_ne, px_if_lt, px_ic_lt, px_if_ge, px_ic_ge, px_if_gt, px_ic_gt, px_if_le, px_ic_le, px_ifnull, px_ifnonnull, px_lookupswitch, px_tableswitch, px_getfield, px_iaload, px_laload, px_caload, px_aaload, px_iastore, px_lastore, px_arraylength, px_putfield, px_ireturn, px_lreturn, px_areturn, px_return, px_iv0, px_is0, px_iv1, px_is1, px_iv2, px_is2, px_iv3, px_is3, px_iv4, px_is4, px_iv5, px_is5, px_iv6, px_is6, px_max, px_min, px_abs, px_maxJ, px_minJ, px_ii0, px_ii1, px_iio, px_copy, pz_cpk, pz_lk, pz_alk, pz_ask, pz_gfk, pz_lnk, pz_bx, pz_b, pz_z, pz_s1, pz_s2, pz_wt, pz_cmp, List.getElem?_cons_zero, List.getElem?_cons_succ, List.getElem?_nil, List.set_cons_zero, List.set_cons_succ, List.length_cons, List.length_nil, List.nil_append, List.cons_append, Option.toList_some, Option.toList_none, if_true, if_false, ite_true, ite_false, and_true, true_and, and_self, or_self, or_false, false_or, true_or, or_true, and_false, false_and, not_true_eq_false, not_false_eq_true, forall_const, ne_eq, reduceCtorEq, implies_true, false_implies, true_implies, Int.toNat_natCast, Nat.reduceAdd, Nat.reduceSub, Nat.reduceLT, Nat.reduceLeDiff, Nat.reduceEqDiff, Int.reduceLT, Int.reduceLE, Int.reduceToNat, Int.reduceNeg, Int.reduceEq, Int.reduceAdd, Nat.reduceMul, Int.reduceSub, Nat.reduceBEq, Int.reduceMul, Nat.add_zero, Nat.zero_add, Int.cast_ofNat_Int, Int.ofNat_eq_coe, decide_eq_true_eq, Nat.lt_irrefl, Nat.le_refl, List.getElem?_toArray, Option.elim_some, Option.elim_none, j_Mo_readCourt_292, j_Mo_readCourt_296, g_147, h4, e1, h201, c2, h211, c3, eb, h42]
      · rw [if_pos ⟨rfl, c2, c3⟩]
        simp (maxSteps := 1000000) (disch := omega) only [↓reduceIte, sp_0, sp_s, Option.map_some, Option.map_none, Option.some.injEq, o_le, o_nle, o_lt, o_nlt, o_eq, o_neq, w32_id, nw_s, px_iconst, px_bipush, px_sipush, px_ldc, px_ldc_w, px_lconst, px_ldc2_w, px_aconst_null, px_getstatic, px_iload_n, px_iload, px_lload_n, px_lload, px_aload_n, px_aload, px_istore_n, px_istore, px_astore_n, px_astore, px_lstore_n, px_lstore, px_iinc, px_iadd, px_isub, px_imul, px_iand, px_ior, px_ixor, px_ishl, px_ishr, px_iushr, px_ladd, px_lsub, px_lmul, px_land, px_lor, px_lcmp, px_lushr, px_lshl, px_ineg, px_i2l, px_l2i, px_idiv, px_irem, px_ldiv, px_lrem, px_dup0, px_pop0, px_dup2, px_pop2, px_dup2x, px_goto, px_if_eq, px_ic_eq, px_if_ne, px_ic_ne, px_if_lt, px_ic_lt, px_if_ge, px_ic_ge, px_if_gt, px_ic_gt, px_if_le, px_ic_le, px_ifnull, px_ifnonnull, px_lookupswitch, px_tableswitch, px_getfield, px_iaload, px_laload, px_caload, px_aaload, px_iastore, px_lastore, px_arraylength, px_putfield, px_ireturn, px_lreturn, px_areturn, px_return, px_iv0, px_is0, px_iv1, px_is1, px_iv2, px_is2, px_iv3, px_is3, px_iv4, px_is4, px_iv5, px_is5, px_iv6, px_is6, px_max, px_min, px_abs, px_maxJ, px_minJ, px_ii0, px_ii1, px_iio, px_copy, pz_cpk, pz_lk, pz_alk, pz_ask, pz_gfk, pz_lnk, pz_bx, pz_b, pz_z, pz_s1, pz_s2, pz_wt, pz_cmp, List.getElem?_cons_zero, List.getElem?_cons_succ, List.getElem?_nil, List.set_cons_zero, List.set_cons_succ, List.length_cons, List.length_nil, List.nil_append, List.cons_append, Option.toList_some, Option.toList_none, if_true, if_false, ite_true, ite_false, and_true, true_and, and_self, or_self, or_false, false_or, true_or, or_true, and_false, false_and, not_true_eq_false, not_false_eq_true, forall_const, ne_eq, reduceCtorEq, implies_true, false_implies, true_implies, Int.toNat_natCast, Nat.reduceAdd, Nat.reduceSub, Nat.reduceLT, Nat.reduceLeDiff, Nat.reduceEqDiff, Int.reduceLT, Int.reduceLE, Int.reduceToNat, Int.reduceNeg, Int.reduceEq, Int.reduceAdd, Nat.reduceMul, Int.reduceSub, Nat.reduceBEq, Int.reduceMul, Nat.add_zero, Nat.zero_add, Int.cast_ofNat_Int, Int.ofNat_eq_coe, decide_eq_true_eq, Nat.lt_irrefl, Nat.le_refl, List.getElem?_toArray, Option.elim_some, Option.elim_none, j_Mo_readCourt_292, j_Mo_readCourt_296, g_147, h4, e1, h201, c2, h211, c3, h41]
  · rw [if_neg (fun h => c1 h.1)]
    simp (maxSteps := 1000000) (disch := omega) only [↓reduceIte, sp_0, sp_s, Option.map_some, Option.map_none, Option.some.injEq, o_le, o_nle, o_lt, o_nlt, o_eq, o_neq, w32_id, nw_s, px_iconst, px_bipush, px_sipush, px_ldc, px_ldc_w, px_lconst, px_ldc2_w, px_aconst_null, px_getstatic, px_iload_n, px_iload, px_lload_n, px_lload, px_aload_n, px_aload, px_istore_n, px_istore, px_astore_n, px_astore, px_lstore_n, px_lstore, px_iinc, px_iadd, px_isub, px_imul, px_iand, px_ior, px_ixor, px_ishl, px_ishr, px_iushr, px_ladd, px_lsub, px_lmul, px_land, px_lor, px_lcmp, px_lushr, px_lshl, px_ineg, px_i2l, px_l2i, px_idiv, px_irem, px_ldiv, px_lrem, px_dup0, px_pop0, px_dup2, px_pop2, px_dup2x, px_goto, px_if_eq, px_ic_eq, px_if_ne, px_ic_ne, px_if_lt, px_ic_lt, px_if_ge, px_ic_ge, px_if_gt, px_ic_gt, px_if_le, px_ic_le, px_ifnull, px_ifnonnull, px_lookupswitch, px_tableswitch, px_getfield, px_iaload, px_laload, px_caload, px_aaload, px_iastore, px_lastore, px_arraylength, px_putfield, px_ireturn, px_lreturn, px_areturn, px_return, px_iv0, px_is0, px_iv1, px_is1, px_iv2, px_is2, px_iv3, px_is3, px_iv4, px_is4, px_iv5, px_is5, px_iv6, px_is6, px_max, px_min, px_abs, px_maxJ, px_minJ, px_ii0, px_ii1, px_iio, px_copy, pz_cpk, pz_lk, pz_alk, pz_ask, pz_gfk, pz_lnk, pz_bx, pz_b, pz_z, pz_s1, pz_s2, pz_wt, pz_cmp, List.getElem?_cons_zero, List.getElem?_cons_succ, List.getElem?_nil, List.set_cons_zero, List.set_cons_succ, List.length_cons, List.length_nil, List.nil_append, List.cons_append, Option.toList_some, Option.toList_none, if_true, if_false, ite_true, ite_false, and_true, true_and, and_self, or_self, or_false, false_or, true_or, or_true, and_false, false_and, not_true_eq_false, not_false_eq_true, forall_const, ne_eq, reduceCtorEq, implies_true, false_implies, true_implies, Int.toNat_natCast, Nat.reduceAdd, Nat.reduceSub, Nat.reduceLT, Nat.reduceLeDiff, Nat.reduceEqDiff, Int.reduceLT, Int.reduceLE, Int.reduceToNat, Int.reduceNeg, Int.reduceEq, Int.reduceAdd, Nat.reduceMul, Int.reduceSub, Nat.reduceBEq, Int.reduceMul, Nat.add_zero, Nat.zero_add, Int.cast_ofNat_Int, Int.ofNat_eq_coe, decide_eq_true_eq, Nat.lt_irrefl, Nat.le_refl, List.getElem?_toArray, Option.elim_some, Option.elim_none, j_Mo_readCourt_292, j_Mo_readCourt_296, g_147, h4, e1, eb, h42]
set_option maxRecDepth 100000 in
theorem m_rc_w {M : pz_M} {w a : Nat} {hb cc : Int} (h4 : M 147 4 = (w : Int)) (h3 : M 147 3 = (a : Int)) (ha : a ≤ 300) : pz_p bl_Mo_readCourt (pz_cal (d + 5)) 0 0 218 [] [(2, 147), (0, hb), (0, 1), (0, cc)] [] ((pz_SH, ss, 0, 0, dd), M) = some (some (0, (w : Int)), ((pz_SH, ss, 0, 0, dd), M)) := by
  have e : pz_up M 147 3 (a : Int) = M := by rw [← h3, up_self]
  have t : pz_p bl_Mo_readCourt (pz_cal (d + 5)) 0 0 218 [] [(2, 147), (0, hb), (0, 1), (0, cc)] [] ((pz_SH, ss, 0, 0, dd), M) = pz_p bl_Mo_readCourt (pz_cal (d + 5)) 0 0 50 [] [(2, 147), (0, hb), (0, 0), (0, cc)] [] ((pz_SH, ss, 0, 0, dd), M) := by
    rw [j_Mo_readCourt_218]
    simp (maxSteps := 1000000) (disch := omega) only [↓reduceIte, sp_0, sp_s, Option.map_some, Option.map_none, Option.some.injEq, o_le, o_nle, o_lt, o_nlt, o_eq, o_neq, w32_id, nw_s, px_iconst, px_bipush, px_sipush, px_ldc, px_ldc_w, px_lconst, px_ldc2_w, px_aconst_null, px_getstatic, px_iload_n, px_iload, px_lload_n, px_lload, px_aload_n, px_aload, px_istore_n, px_istore, px_astore_n, px_astore, px_lstore_n, px_lstore, px_iinc, px_iadd, px_isub, px_imul, px_iand, px_ior, px_ixor, px_ishl, px_ishr, px_iushr, px_ladd, px_lsub, px_lmul, px_land, px_lor, px_lcmp, px_lushr, px_lshl, px_ineg, px_i2l, px_l2i, px_idiv, px_irem, px_ldiv, px_lrem, px_dup0, px_pop0, px_dup2, px_pop2, px_dup2x, px_goto, px_if_eq, px_ic_eq, px_if_ne, px_ic_ne, px_if_lt, px_ic_lt, px_if_ge, px_ic_ge, px_if_gt, px_ic_gt, px_if_le, px_ic_le, px_ifnull, px_ifnonnull, px_lookupswitch, px_tableswitch, px_getfield, px_iaload, px_laload, px_caload, px_aaload, px_iastore, px_lastore, px_arraylength, px_putfield, px_ireturn, px_lreturn, px_areturn, px_return, px_iv0, px_is0, px_iv1, px_is1, px_iv2, px_is2, px_iv3, px_is3, px_iv4, px_is4, px_iv5, px_is5, px_iv6, px_is6, px_max, px_min, px_abs, px_maxJ, px_minJ, px_ii0, px_ii1, px_iio, px_copy, pz_cpk, pz_lk, pz_alk, pz_ask, pz_gfk, pz_lnk, pz_bx, pz_b, pz_z, pz_s1, pz_s2, pz_wt, pz_cmp, List.getElem?_cons_zero, List.getElem?_cons_succ, List.getElem?_nil, List.set_cons_zero, List.set_cons_succ, List.length_cons, List.length_nil, List.nil_append, List.cons_append, Option.toList_some, Option.toList_none, if_true, if_false, ite_true, ite_false, and_true, true_and, and_self, or_self, or_false, false_or, true_or, or_true, and_false, false_and, not_true_eq_false, not_false_eq_true, forall_const, ne_eq, reduceCtorEq, implies_true, false_implies, true_implies, Int.toNat_natCast, Nat.reduceAdd, Nat.reduceSub, Nat.reduceLT, Nat.reduceLeDiff, Nat.reduceEqDiff, Int.reduceLT, Int.reduceLE, Int.reduceToNat, Int.reduceNeg, Int.reduceEq, Int.reduceAdd, Nat.reduceMul, Int.reduceSub, Nat.reduceBEq, Int.reduceMul, Nat.add_zero, Nat.zero_add, Int.cast_ofNat_Int, Int.ofNat_eq_coe, decide_eq_true_eq, Nat.lt_irrefl, Nat.le_refl, List.getElem?_toArray, Option.elim_some, Option.elim_none, j_Mo_readCourt_239, j_Mo_readCourt_240, j_Mo_readCourt_254, j_Mo_readCourt_255, g_147, h4, h3, Int.add_zero, e]
  rw [t, j_Mo_readCourt_50]
  simp (maxSteps := 1000000) (disch := omega) only [↓reduceIte, sp_0, sp_s, Option.map_some, Option.map_none, Option.some.injEq, o_le, o_nle, o_lt, o_nlt, o_eq, o_neq, w32_id, nw_s, px_iconst, px_bipush, px_sipush, px_ldc, px_ldc_w, px_lconst, px_ldc2_w, px_aconst_null, px_getstatic, px_iload_n, px_iload, px_lload_n, px_lload, px_aload_n, px_aload, px_istore_n, px_istore, px_astore_n, px_astore, px_lstore_n, px_lstore, px_iinc, px_iadd, px_isub, px_imul, px_iand, px_ior, px_ixor, px_ishl, px_ishr, px_iushr, px_ladd, px_lsub, px_lmul, px_land, px_lor, px_lcmp, px_lushr, px_lshl, px_ineg, px_i2l, px_l2i, px_idiv, px_irem, px_ldiv, px_lrem, px_dup0, px_pop0, px_dup2, px_pop2, px_dup2x, px_goto, px_if_eq, px_ic_eq, px_if_ne, px_ic_ne, px_if_lt, px_ic_lt, px_if_ge, px_ic_ge, px_if_gt, px_ic_gt, px_if_le, px_ic_le, px_ifnull, px_ifnonnull, px_lookupswitch, px_tableswitch, px_getfield, px_iaload, px_laload, px_caload, px_aaload, px_iastore, px_lastore, px_arraylength, px_putfield, px_ireturn, px_lreturn, px_areturn, px_return, px_iv0, px_is0, px_iv1, px_is1, px_iv2, px_is2, px_iv3, px_is3, px_iv4, px_is4, px_iv5, px_is5, px_iv6, px_is6, px_max, px_min, px_abs, px_maxJ, px_minJ, px_ii0, px_ii1, px_iio, px_copy, pz_cpk, pz_lk, pz_alk, pz_ask, pz_gfk, pz_lnk, pz_bx, pz_b, pz_z, pz_s1, pz_s2, pz_wt, pz_cmp, List.getElem?_cons_zero, List.getElem?_cons_succ, List.getElem?_nil, List.set_cons_zero, List.set_cons_succ, List.length_cons, List.length_nil, List.nil_append, List.cons_append, Option.toList_some, Option.toList_none, if_true, if_false, ite_true, ite_false, and_true, true_and, and_self, or_self, or_false, false_or, true_or, or_true, and_false, false_and, not_true_eq_false, not_false_eq_true, forall_const, ne_eq, reduceCtorEq, implies_true, false_implies, true_implies, Int.toNat_natCast, Nat.reduceAdd, Nat.reduceSub, Nat.reduceLT, Nat.reduceLeDiff, Nat.reduceEqDiff, Int.reduceLT, Int.reduceLE, Int.reduceToNat, Int.reduceNeg, Int.reduceEq, Int.reduceAdd, Nat.reduceMul, Int.reduceSub, Nat.reduceBEq, Int.reduceMul, Nat.add_zero, Nat.zero_add, Int.cast_ofNat_Int, Int.ofNat_eq_coe, decide_eq_true_eq, Nat.lt_irrefl, Nat.le_refl, List.getElem?_toArray, Option.elim_some, Option.elim_none, j_Mo_readCourt_262, j_Mo_readCourt_296, g_147, h4]
set_option maxRecDepth 100000 in
theorem m_rc_us {M0 : pz_M} (hR0 : Rf M0) : ∀ (f i : Nat) (M : pz_M), i + f = 7 → Pk M0 M → (∀ j, j < i → M 158 j = usu 98 j) → ∃ M', pz_p bl_Mo_readCourt (pz_cal (d + 5)) 0 0 24 [] [(2, 147), (0, 0), (0, (i : Int)), (9, 0)] [] ((pz_SH, ss, 0, 0, dd), M) = pz_p bl_Mo_readCourt (pz_cal (d + 5)) 0 0 48 [] [(2, 147), (0, 0), (0, 7), (9, 0)] [] ((pz_SH, ss, 0, 0, dd), M') ∧ Pk M0 M' ∧ M' 147 = M 147 ∧ ∀ j, j < 7 → M' 158 j = usu 98 j
  | 0, i, M, hi, hF, h => by
    have h6 : i = 7 := by omega
    subst h6
    refine ⟨M, ?_, hF, rfl, h⟩
    show pz_p bl_Mo_readCourt (pz_cal (d + 5)) 0 0 24 [] [(2, 147), (0, 0), (0, 7), (9, 0)] [] ((pz_SH, ss, 0, 0, dd), M) = _
    conv => lhs; rw [j_Mo_readCourt_24]
    simp (maxSteps := 1000000) (disch := omega) only [↓reduceIte, sp_0, sp_s, Option.map_some, Option.map_none, Option.some.injEq, o_le, o_nle, o_lt, o_nlt, o_eq, o_neq, w32_id, nw_s, px_iconst, px_bipush, px_sipush, px_ldc, px_ldc_w, px_lconst, px_ldc2_w, px_aconst_null, px_getstatic, px_iload_n, px_iload, px_lload_n, px_lload, px_aload_n, px_aload, px_istore_n, px_istore, px_astore_n, px_astore, px_lstore_n, px_lstore, px_iinc, px_iadd, px_isub, px_imul, px_iand, px_ior, px_ixor, px_ishl, px_ishr, px_iushr, px_ladd, px_lsub, px_lmul, px_land, px_lor, px_lcmp, px_lushr, px_lshl, px_ineg, px_i2l, px_l2i, px_idiv, px_irem, px_ldiv, px_lrem, px_dup0, px_pop0, px_dup2, px_pop2, px_dup2x, px_goto, px_if_eq, px_ic_eq, px_if_ne, px_ic_ne, px_if_lt, px_ic_lt, px_if_ge, px_ic_ge, px_if_gt, px_ic_gt, px_if_le, px_ic_le, px_ifnull, px_ifnonnull, px_lookupswitch, px_tableswitch, px_getfield, px_iaload, px_laload, px_caload, px_aaload, px_iastore, px_lastore, px_arraylength, px_putfield, px_ireturn, px_lreturn, px_areturn, px_return, px_iv0, px_is0, px_iv1, px_is1, px_iv2, px_is2, px_iv3, px_is3, px_iv4, px_is4, px_iv5, px_is5, px_iv6, px_is6, px_max, px_min, px_abs, px_maxJ, px_minJ, px_ii0, px_ii1, px_iio, px_copy, pz_cpk, pz_lk, pz_alk, pz_ask, pz_gfk, pz_lnk, pz_bx, pz_b, pz_z, pz_s1, pz_s2, pz_wt, pz_cmp, List.getElem?_cons_zero, List.getElem?_cons_succ, List.getElem?_nil, List.set_cons_zero, List.set_cons_succ, List.length_cons, List.length_nil, List.nil_append, List.cons_append, Option.toList_some, Option.toList_none, if_true, if_false, ite_true, ite_false, and_true, true_and, and_self, or_self, or_false, false_or, true_or, or_true, and_false, false_and, not_true_eq_false, not_false_eq_true, forall_const, ne_eq, reduceCtorEq, implies_true, false_implies, true_implies, Int.toNat_natCast, Nat.reduceAdd, Nat.reduceSub, Nat.reduceLT, Nat.reduceLeDiff, Nat.reduceEqDiff, Int.reduceLT, Int.reduceLE, Int.reduceToNat, Int.reduceNeg, Int.reduceEq, Int.reduceAdd, Nat.reduceMul, Int.reduceSub, Nat.reduceBEq, Int.reduceMul, Nat.add_zero, Nat.zero_add, Int.cast_ofNat_Int, Int.ofNat_eq_coe, decide_eq_true_eq, Nat.lt_irrefl, Nat.le_refl, List.getElem?_toArray, Option.elim_some, Option.elim_none]
  | f + 1, i, M, hi, hF, h => by
    have hR := Rf_Pk hR0 hF
    have e := m_usual (d := d + 4) (ss := ss) (dd := dd) (M := M) (q := 98) (k := i) (.inl rfl) (by show i < 7; omega)
    obtain ⟨M', t, r1, r2, r3⟩ := m_rc_us hR0 f (i + 1) (pz_up M 158 i (usu 98 i)) (by omega) (Pk_t hF Pk_8) (fun j hj => by
      rw [up_at]
      by_cases g : j = i
      · rw [if_pos ⟨rfl, g⟩, g]
      · rw [if_neg (fun e => g e.2)]; exact h j (by omega))
    refine ⟨M', ?_, r1, by rw [r2]; funext z; rw [up_at, if_neg (by omega)], r3⟩
    rw [← t]
    show _ = pz_p bl_Mo_readCourt (pz_cal (d + 5)) 0 0 24 [] [(2, 147), (0, 0), (0, (i : Int) + 1), (9, 0)] [] ((pz_SH, ss, 0, 0, dd), pz_up M 158 i (usu 98 i))
    generalize usu 98 i = us at *
    conv => lhs; rw [j_Mo_readCourt_24]
    simp (maxSteps := 1000000) (disch := omega) only [↓reduceIte, sp_0, sp_s, Option.map_some, Option.map_none, Option.some.injEq, o_le, o_nle, o_lt, o_nlt, o_eq, o_neq, w32_id, nw_s, px_iconst, px_bipush, px_sipush, px_ldc, px_ldc_w, px_lconst, px_ldc2_w, px_aconst_null, px_getstatic, px_iload_n, px_iload, px_lload_n, px_lload, px_aload_n, px_aload, px_istore_n, px_istore, px_astore_n, px_astore, px_lstore_n, px_lstore, px_iinc, px_iadd, px_isub, px_imul, px_iand, px_ior, px_ixor, px_ishl, px_ishr, px_iushr, px_ladd, px_lsub, px_lmul, px_land, px_lor, px_lcmp, px_lushr, px_lshl, px_ineg, px_i2l, px_l2i, px_idiv, px_irem, px_ldiv, px_lrem, px_dup0, px_pop0, px_dup2, px_pop2, px_dup2x, px_goto, px_if_eq, px_ic_eq, px_if_ne, px_ic_ne, px_if_lt, px_ic_lt, px_if_ge, px_ic_ge, px_if_gt, px_ic_gt, px_if_le, px_ic_le, px_ifnull, px_ifnonnull, px_lookupswitch, px_tableswitch, px_getfield, px_iaload, px_laload, px_caload, px_aaload, px_iastore, px_lastore, px_arraylength, px_putfield, px_ireturn, px_lreturn, px_areturn, px_return, px_iv0, px_is0, px_iv1, px_is1, px_iv2, px_is2, px_iv3, px_is3, px_iv4, px_is4, px_iv5, px_is5, px_iv6, px_is6, px_max, px_min, px_abs, px_maxJ, px_minJ, px_ii0, px_ii1, px_iio, px_copy, pz_cpk, pz_lk, pz_alk, pz_ask, pz_gfk, pz_lnk, pz_bx, pz_b, pz_z, pz_s1, pz_s2, pz_wt, pz_cmp, List.getElem?_cons_zero, List.getElem?_cons_succ, List.getElem?_nil, List.set_cons_zero, List.set_cons_succ, List.length_cons, List.length_nil, List.nil_append, List.cons_append, Option.toList_some, Option.toList_none, if_true, if_false, ite_true, ite_false, and_true, true_and, and_self, or_self, or_false, false_or, true_or, or_true, and_false, false_and, not_true_eq_false, not_false_eq_true, forall_const, ne_eq, reduceCtorEq, implies_true, false_implies, true_implies, Int.toNat_natCast, Nat.reduceAdd, Nat.reduceSub, Nat.reduceLT, Nat.reduceLeDiff, Nat.reduceEqDiff, Int.reduceLT, Int.reduceLE, Int.reduceToNat, Int.reduceNeg, Int.reduceEq, Int.reduceAdd, Nat.reduceMul, Int.reduceSub, Nat.reduceBEq, Int.reduceMul, Nat.add_zero, Nat.zero_add, Int.cast_ofNat_Int, Int.ofNat_eq_coe, decide_eq_true_eq, Nat.lt_irrefl, Nat.le_refl, List.getElem?_toArray, Option.elim_some, Option.elim_none, g_147, g_158, rf_147_17 hR, e]
set_option maxRecDepth 100000 in
theorem m_readCourt {M : pz_M} (hR : Rf M) (hT : TR M T n) : ∃ M', pz_cal (d + 6) 184 [(2, 147)] ((pz_SH, ss, 0, 0, dd), M) = some (some (0, Rv (gCt T n)), ((pz_SH, ss, 0, 0, dd), M')) ∧ Pk M M' ∧ ∀ z, gCt T n = .inl z → RM M' z.1 := by
  have n240 := hT.2.1
  have hF1 : Pk M (pz_up (pz_up (pz_up (pz_up M 147 3 0) 147 4 (-1)) 147 20 0) 147 21 0) := Pk_t Pk_3 (Pk_t Pk_4 (Pk_t (Pk_7 (.inr (.inr (.inl rfl)))) (Pk_7 (.inr (.inr (.inr rfl))))))
  have v3 : pz_up (pz_up (pz_up (pz_up M 147 3 0) 147 4 (-1)) 147 20 0) 147 21 0 147 3 = ((0 : Nat) : Int) := by rw [u7_o (by decide), u7_o (by decide), u7_o (by decide)]; exact u7_3
  have v4 : pz_up (pz_up (pz_up (pz_up M 147 3 0) 147 4 (-1)) 147 20 0) 147 21 0 147 4 = -1 := by rw [u7_o (by decide), u7_o (by decide)]; exact u7_4
  have v20 : pz_up (pz_up (pz_up (pz_up M 147 3 0) 147 4 (-1)) 147 20 0) 147 21 0 147 20 = 0 := by rw [u7_o (by decide), up_at, if_pos ⟨rfl, rfl⟩]
  have v21 : pz_up (pz_up (pz_up (pz_up M 147 3 0) 147 4 (-1)) 147 20 0) 147 21 0 147 21 = 0 := by rw [up_at, if_pos ⟨rfl, rfl⟩]
  have t0 : pz_cal (d + 6) 184 [(2, 147)] ((pz_SH, ss, 0, 0, dd), M) = pz_p bl_Mo_readCourt (pz_cal (d + 5)) 0 0 24 [] [(2, 147), (0, 0), (0, 0), (9, 0)] [] ((pz_SH, ss, 0, 0, dd), pz_up (pz_up (pz_up (pz_up M 147 3 0) 147 4 (-1)) 147 20 0) 147 21 0) := by
    simp (maxSteps := 1000000) (disch := omega) only [↓reduceIte, sp_0, sp_s, Option.map_some, Option.map_none, Option.some.injEq, o_le, o_nle, o_lt, o_nlt, o_eq, o_neq, w32_id, up_at, nw_at, nw_s, k_Mo_readCourt, px_iconst, px_bipush, px_sipush, px_ldc, px_ldc_w, px_lconst, px_ldc2_w, px_aconst_null, px_getstatic, px_iload_n, px_iload, px_lload_n, px_lload, px_aload_n, px_aload, px_istore_n, px_istore, px_astore_n, px_astore, px_lstore_n, px_lstore, px_iinc, px_iadd, px_isub, px_imul, px_iand, px_ior, px_ixor, px_ishl, px_ishr, px_iushr, px_ladd, px_lsub, px_lmul, px_land, px_lor, px_lcmp, px_lushr, px_lshl, px_ineg, px_i2l, px_l2i, px_idiv, px_irem, px_ldiv, px_lrem, px_dup0, px_pop0, px_dup2, px_pop2, px_dup2x, px_goto, px_if_eq, px_ic_eq, px_if_ne, px_ic_ne, px_if_lt, px_ic_lt, px_if_ge, px_ic_ge, px_if_gt, px_ic_gt, px_if_le, px_ic_le, px_ifnull, px_ifnonnull, px_lookupswitch, px_tableswitch, px_getfield, px_iaload, px_laload, px_caload, px_aaload, px_iastore, px_lastore, px_arraylength, px_putfield, px_ireturn, px_lreturn, px_areturn, px_return, px_iv0, px_is0, px_iv1, px_is1, px_iv2, px_is2, px_iv3, px_is3, px_iv4, px_is4, px_iv5, px_is5, px_iv6, px_is6, px_max, px_min, px_abs, px_maxJ, px_minJ, px_ii0, px_ii1, px_iio, px_copy, pz_cpk, pz_lk, pz_alk, pz_ask, pz_gfk, pz_lnk, pz_bx, pz_b, pz_z, pz_s1, pz_s2, pz_wt, pz_cmp, List.getElem?_cons_zero, List.getElem?_cons_succ, List.getElem?_nil, List.set_cons_zero, List.set_cons_succ, List.length_cons, List.length_nil, List.nil_append, List.cons_append, Option.toList_some, Option.toList_none, if_true, if_false, ite_true, ite_false, and_true, true_and, and_self, or_self, or_false, false_or, true_or, or_true, and_false, false_and, not_true_eq_false, not_false_eq_true, forall_const, ne_eq, reduceCtorEq, implies_true, false_implies, true_implies, Int.toNat_natCast, Nat.reduceAdd, Nat.reduceSub, Nat.reduceLT, Nat.reduceLeDiff, Nat.reduceEqDiff, Int.reduceLT, Int.reduceLE, Int.reduceToNat, Int.reduceNeg, Int.reduceEq, Int.reduceAdd, Nat.reduceMul, Int.reduceSub, Nat.reduceBEq, Int.reduceMul, Nat.add_zero, Nat.zero_add, Int.cast_ofNat_Int, Int.ofNat_eq_coe, decide_eq_true_eq, Nat.lt_irrefl, Nat.le_refl, List.getElem?_toArray, Option.elim_some, Option.elim_none, j_Mo_readCourt_0, g_147]
  generalize pz_up (pz_up (pz_up (pz_up M 147 3 0) 147 4 (-1)) 147 20 0) 147 21 0 = M1 at *
  obtain ⟨M2, t2, f2, k2, r2⟩ := m_rc_us (d := d) (ss := ss) (dd := dd) hR 7 0 M1 (by omega) hF1 (fun j hj => by omega)
  have t2 : pz_p bl_Mo_readCourt (pz_cal (d + 5)) 0 0 24 [] [(2, 147), (0, 0), (0, 0), (9, 0)] [] ((pz_SH, ss, 0, 0, dd), M1) = pz_p bl_Mo_readCourt (pz_cal (d + 5)) 0 0 48 [] [(2, 147), (0, 0), (0, 7), (9, 0)] [] ((pz_SH, ss, 0, 0, dd), M2) := t2
  have t3 : pz_p bl_Mo_readCourt (pz_cal (d + 5)) 0 0 48 [] [(2, 147), (0, 0), (0, 7), (9, 0)] [] ((pz_SH, ss, 0, 0, dd), M2) = pz_p bl_Mo_readCourt (pz_cal (d + 5)) 0 0 50 [] [(2, 147), (0, 0), (0, 1), (9, 0)] [] ((pz_SH, ss, 0, 0, dd), M2) := by
    rw [j_Mo_readCourt_48]
    simp (maxSteps := 1000000) (disch := omega) only [↓reduceIte, sp_0, sp_s, Option.map_some, Option.map_none, Option.some.injEq, o_le, o_nle, o_lt, o_nlt, o_eq, o_neq, w32_id, nw_s, px_iconst, px_bipush, px_sipush, px_ldc, px_ldc_w, px_lconst, px_ldc2_w, px_aconst_null, px_getstatic, px_iload_n, px_iload, px_lload_n, px_lload, px_aload_n, px_aload, px_istore_n, px_istore, px_astore_n, px_astore, px_lstore_n, px_lstore, px_iinc, px_iadd, px_isub, px_imul, px_iand, px_ior, px_ixor, px_ishl, px_ishr, px_iushr, px_ladd, px_lsub, px_lmul, px_land, px_lor, px_lcmp, px_lushr, px_lshl, px_ineg, px_i2l, px_l2i, px_idiv, px_irem, px_ldiv, px_lrem, px_dup0, px_pop0, px_dup2, px_pop2, px_dup2x, px_goto, px_if_eq, px_ic_eq, px_if_ne, px_ic_ne, px_if_lt, px_ic_lt, px_if_ge, px_ic_ge, px_if_gt, px_ic_gt, px_if_le, px_ic_le, px_ifnull, px_ifnonnull, px_lookupswitch, px_tableswitch, px_getfield, px_iaload, px_laload, px_caload, px_aaload, px_iastore, px_lastore, px_arraylength, px_putfield, px_ireturn, px_lreturn, px_areturn, px_return, px_iv0, px_is0, px_iv1, px_is1, px_iv2, px_is2, px_iv3, px_is3, px_iv4, px_is4, px_iv5, px_is5, px_iv6, px_is6, px_max, px_min, px_abs, px_maxJ, px_minJ, px_ii0, px_ii1, px_iio, px_copy, pz_cpk, pz_lk, pz_alk, pz_ask, pz_gfk, pz_lnk, pz_bx, pz_b, pz_z, pz_s1, pz_s2, pz_wt, pz_cmp, List.getElem?_cons_zero, List.getElem?_cons_succ, List.getElem?_nil, List.set_cons_zero, List.set_cons_succ, List.length_cons, List.length_nil, List.nil_append, List.cons_append, Option.toList_some, Option.toList_none, if_true, if_false, ite_true, ite_false, and_true, true_and, and_self, or_self, or_false, false_or, true_or, or_true, and_false, false_and, not_true_eq_false, not_false_eq_true, forall_const, ne_eq, reduceCtorEq, implies_true, false_implies, true_implies, Int.toNat_natCast, Nat.reduceAdd, Nat.reduceSub, Nat.reduceLT, Nat.reduceLeDiff, Nat.reduceEqDiff, Int.reduceLT, Int.reduceLE, Int.reduceToNat, Int.reduceNeg, Int.reduceEq, Int.reduceAdd, Nat.reduceMul, Int.reduceSub, Nat.reduceBEq, Int.reduceMul, Nat.add_zero, Nat.zero_add, Int.cast_ofNat_Int, Int.ofNat_eq_coe, decide_eq_true_eq, Nat.lt_irrefl, Nat.le_refl, List.getElem?_toArray, Option.elim_some, Option.elim_none]
  have M2R : RM M2 row0 := by
    refine ⟨fun k hk => by rw [r2 k hk]; unfold row0; rw [if_pos hk], fun c k hc hk => ?_, fun a k ha hk => ?_, by rw [k2, v20]; rfl, by rw [k2, v21]; rfl⟩
    · have : row0 141 = 0 := rfl
      omega
    · have : row0 142 = 0 := rfl
      omega
  /- from the end of a clause on -/
  have lp : ∀ (f i : Nat) (s : Int × (Nat → Int)) (p : Nat) (M3 : pz_M) (cc : Int), i + f = 240 → i ≤ p → p ≤ n → Pk M M3 → M3 147 3 = (p : Int) → M3 147 4 = -1 → (s.1 = 0 ∨ s.1 = 1) → RM M3 s.2 → CI s.2 → (s.1 = 0 → ∀ k, k < 7 → s.2 k = usu 98 k) → ∃ M', pz_p bl_Mo_readCourt (pz_cal (d + 5)) 0 0 218 [] [(2, 147), (0, s.1), (0, 1), (0, cc)] [] ((pz_SH, ss, 0, 0, dd), M3) = some (some (0, Rv (gCe T n (gCs T n f s p))), ((pz_SH, ss, 0, 0, dd), M')) ∧ Pk M M' ∧ ∀ z, gCe T n (gCs T n f s p) = .inl z → RM M' z.1 := by
    intro f
    have done : ∀ (s : Int × (Nat → Int)) (p : Nat) (M3 : pz_M) (cc : Int), p ≤ n → Pk M M3 → M3 147 3 = (p : Int) → M3 147 4 = -1 → RM M3 s.2 → ch T n (bl T n p) ≠ 59 → ∃ M', pz_p bl_Mo_readCourt (pz_cal (d + 5)) 0 0 218 [] [(2, 147), (0, s.1), (0, 1), (0, cc)] [] ((pz_SH, ss, 0, 0, dd), M3) = some (some (0, Rv (gCe T n (.inl (s, bl T n p)))), ((pz_SH, ss, 0, 0, dd), M')) ∧ Pk M M' ∧ ∀ z, gCe T n (.inl (s, bl T n p)) = .inl z → RM M' z.1 := by
      intro s p M3 cc hp hF h3 h4 hM c
      have b1 := bl_le (T := T) hp
      have hR3 := Rf_Pk hR hF
      have e1 := m_look (d := d + 3) (ss := ss) (dd := dd) hR3 (TR_Pk hT hF) h3 hp
      have hF4 : Pk M (pz_up M3 147 3 (bl T n p : Int)) := Pk_t hF Pk_3
      have h34 : pz_up M3 147 3 (bl T n p : Int) 147 3 = (bl T n p : Int) := u7_3
      have h44 : pz_up M3 147 3 (bl T n p : Int) 147 4 = -1 := by rw [u7_o (by decide)]; exact h4
      have M4 := RM_7 (j := 3) (v := (bl T n p : Int)) hM (by decide)
      have k4 : pz_up (pz_up M3 147 3 (bl T n p : Int)) 147 3 (bl T n p : Int) = pz_up M3 147 3 (bl T n p : Int) := up_up2
      have ee := m_rc_262 (d := d) (ss := ss) (dd := dd) (x := (0, s.1)) (y := (0, 0)) (z := (0, cc)) (R := s.2) (Rf_Pk hR hF4) (TR_Pk hT hF4) h34 b1 h44 M4.2.2.2.1 M4.2.2.2.2
      rw [bl_bl, up_up2] at ee
      have ed : gCe T n (.inl (s, bl T n p)) = if ch T n (bl T n p) = -1 ∧ s.2 141 ≠ 0 ∧ s.2 142 ≠ 0 then .inl (s.2, bl T n p) else .inr (bl T n p) := by
        show (if ch T n (bl T n (bl T n p)) = -1 ∧ s.2 141 ≠ 0 ∧ s.2 142 ≠ 0 then _ else _) = _
        rw [bl_bl]
      have run : pz_p bl_Mo_readCourt (pz_cal (d + 5)) 0 0 218 [] [(2, 147), (0, s.1), (0, 1), (0, cc)] [] ((pz_SH, ss, 0, 0, dd), M3) = pz_p bl_Mo_readCourt (pz_cal (d + 5)) 0 0 262 [] [(2, 147), (0, s.1), (0, 0), (0, cc)] [] ((pz_SH, ss, 0, 0, dd), pz_up M3 147 3 (bl T n p : Int)) := by
        have t : pz_p bl_Mo_readCourt (pz_cal (d + 5)) 0 0 218 [] [(2, 147), (0, s.1), (0, 1), (0, cc)] [] ((pz_SH, ss, 0, 0, dd), M3) = pz_p bl_Mo_readCourt (pz_cal (d + 5)) 0 0 50 [] [(2, 147), (0, s.1), (0, 0), (0, cc)] [] ((pz_SH, ss, 0, 0, dd), pz_up M3 147 3 (bl T n p : Int)) := by
          generalize ch T n (bl T n p) = c9 at *
          generalize hM4 : pz_up M3 147 3 (bl T n p : Int) = M9 at *
          rw [j_Mo_readCourt_218]
          simp (maxSteps := 1000000) (disch := omega) only [↓reduceIte, sp_0, sp_s, Option.map_some, Option.map_none, Option.some.injEq, o_le, o_nle, o_lt, o_nlt, o_eq, o_neq, w32_id, nw_s, px_iconst, px_bipush, px_sipush, px_ldc, px_ldc_w, px_lconst, px_ldc2_w, px_aconst_null, px_getstatic, px_iload_n, px_iload, px_lload_n, px_lload, px_aload_n, px_aload, px_istore_n, px_istore, px_astore_n, px_astore, px_lstore_n, px_lstore, px_iinc, px_iadd, px_isub, px_imul, px_iand, px_ior, px_ixor, px_ishl, px_ishr, px_iushr, px_ladd, px_lsub, px_lmul, px_land, px_lor, px_lcmp, px_lushr, px_lshl, px_ineg, px_i2l, px_l2i, px_idiv, px_irem, px_ldiv, px_lrem, px_dup0, px_pop0, px_dup2, px_pop2, px_dup2x, px_goto, px_if_eq, px_ic_eq, px_if_ne, px_ic_ne, px_if_lt, px_ic_lt, px_if_ge, px_ic_ge, px_if_gt, px_ic_gt, px_if_le, px_ic_le, px_ifnull, px_ifnonnull, px_lookupswitch, px_tableswitch, px_getfield, px_iaload, px_laload, px_caload, px_aaload, px_iastore, px_lastore, px_arraylength, px_putfield, px_ireturn, px_lreturn, px_areturn, px_return, px_iv0, px_is0, px_iv1, px_is1, px_iv2, px_is2, px_iv3, px_is3, px_iv4, px_is4, px_iv5, px_is5, px_iv6, px_is6, px_max, px_min, px_abs, px_maxJ, px_minJ, px_ii0, px_ii1, px_iio, px_copy, pz_cpk, pz_lk, pz_alk, pz_ask, pz_gfk, pz_lnk, pz_bx, pz_b, pz_z, pz_s1, pz_s2, pz_wt, pz_cmp, List.getElem?_cons_zero, List.getElem?_cons_succ, List.getElem?_nil, List.set_cons_zero, List.set_cons_succ, List.length_cons, List.length_nil, List.nil_append, List.cons_append, Option.toList_some, Option.toList_none, if_true, if_false, ite_true, ite_false, and_true, true_and, and_self, or_self, or_false, false_or, true_or, or_true, and_false, false_and, not_true_eq_false, not_false_eq_true, forall_const, ne_eq, reduceCtorEq, implies_true, false_implies, true_implies, Int.toNat_natCast, Nat.reduceAdd, Nat.reduceSub, Nat.reduceLT, Nat.reduceLeDiff, Nat.reduceEqDiff, Int.reduceLT, Int.reduceLE, Int.reduceToNat, Int.reduceNeg, Int.reduceEq, Int.reduceAdd, Nat.reduceMul, Int.reduceSub, Nat.reduceBEq, Int.reduceMul, Nat.add_zero, Nat.zero_add, Int.cast_ofNat_Int, Int.ofNat_eq_coe, decide_eq_true_eq, Nat.lt_irrefl, Nat.le_refl, List.getElem?_toArray, Option.elim_some, Option.elim_none, j_Mo_readCourt_239, j_Mo_readCourt_240, j_Mo_readCourt_254, j_Mo_readCourt_255, g_147, h4, e1, h34, Int.add_zero, k4]
        rw [t, j_Mo_readCourt_50]
        simp (maxSteps := 1000000) (disch := omega) only [↓reduceIte, sp_0, sp_s, Option.map_some, Option.map_none, Option.some.injEq, o_le, o_nle, o_lt, o_nlt, o_eq, o_neq, w32_id, nw_s, px_iconst, px_bipush, px_sipush, px_ldc, px_ldc_w, px_lconst, px_ldc2_w, px_aconst_null, px_getstatic, px_iload_n, px_iload, px_lload_n, px_lload, px_aload_n, px_aload, px_istore_n, px_istore, px_astore_n, px_astore, px_lstore_n, px_lstore, px_iinc, px_iadd, px_isub, px_imul, px_iand, px_ior, px_ixor, px_ishl, px_ishr, px_iushr, px_ladd, px_lsub, px_lmul, px_land, px_lor, px_lcmp, px_lushr, px_lshl, px_ineg, px_i2l, px_l2i, px_idiv, px_irem, px_ldiv, px_lrem, px_dup0, px_pop0, px_dup2, px_pop2, px_dup2x, px_goto, px_if_eq, px_ic_eq, px_if_ne, px_ic_ne, px_if_lt, px_ic_lt, px_if_ge, px_ic_ge, px_if_gt, px_ic_gt, px_if_le, px_ic_le, px_ifnull, px_ifnonnull, px_lookupswitch, px_tableswitch, px_getfield, px_iaload, px_laload, px_caload, px_aaload, px_iastore, px_lastore, px_arraylength, px_putfield, px_ireturn, px_lreturn, px_areturn, px_return, px_iv0, px_is0, px_iv1, px_is1, px_iv2, px_is2, px_iv3, px_is3, px_iv4, px_is4, px_iv5, px_is5, px_iv6, px_is6, px_max, px_min, px_abs, px_maxJ, px_minJ, px_ii0, px_ii1, px_iio, px_copy, pz_cpk, pz_lk, pz_alk, pz_ask, pz_gfk, pz_lnk, pz_bx, pz_b, pz_z, pz_s1, pz_s2, pz_wt, pz_cmp, List.getElem?_cons_zero, List.getElem?_cons_succ, List.getElem?_nil, List.set_cons_zero, List.set_cons_succ, List.length_cons, List.length_nil, List.nil_append, List.cons_append, Option.toList_some, Option.toList_none, if_true, if_false, ite_true, ite_false, and_true, true_and, and_self, or_self, or_false, false_or, true_or, or_true, and_false, false_and, not_true_eq_false, not_false_eq_true, forall_const, ne_eq, reduceCtorEq, implies_true, false_implies, true_implies, Int.toNat_natCast, Nat.reduceAdd, Nat.reduceSub, Nat.reduceLT, Nat.reduceLeDiff, Nat.reduceEqDiff, Int.reduceLT, Int.reduceLE, Int.reduceToNat, Int.reduceNeg, Int.reduceEq, Int.reduceAdd, Nat.reduceMul, Int.reduceSub, Nat.reduceBEq, Int.reduceMul, Nat.add_zero, Nat.zero_add, Int.cast_ofNat_Int, Int.ofNat_eq_coe, decide_eq_true_eq, Nat.lt_irrefl, Nat.le_refl, List.getElem?_toArray, Option.elim_some, Option.elim_none]
      rw [ed, run]
      have ee : pz_p bl_Mo_readCourt (pz_cal (d + 5)) 0 0 262 [] [(2, 147), (0, s.1), (0, 0), (0, cc)] [] ((pz_SH, ss, 0, 0, dd), pz_up M3 147 3 (bl T n p : Int)) = _ := ee
      by_cases c2 : ch T n (bl T n p) = -1 ∧ s.2 141 ≠ 0 ∧ s.2 142 ≠ 0
      · rw [if_pos c2] at ee ⊢
        exact ⟨_, ee, hF4, fun z hz => by rw [← Sum.inl.inj hz]; exact M4⟩
      · rw [if_neg c2] at ee ⊢
        exact ⟨_, ee, Pk_t hF4 Pk_4, fun z hz => by simp at hz⟩
    induction f with
    | zero =>
      intro i s p M3 cc hi hip hp hF h3 h4 h01 hM hC hu
      refine done s p M3 cc hp hF h3 h4 hM ?_
      have b2 := bl_ge (T := T) (n := n) (p := p)
      unfold ch
      rw [if_neg (by omega)]
      decide
    | succ f ih =>
      intro i s p M3 cc hi hip hp hF h3 h4 h01 hM hC hu
      unfold gCs
      by_cases c : ch T n (bl T n p) = 59
      · rw [if_pos c]
        have b1 := bl_le (T := T) hp
        have b2 := bl_ge (T := T) (n := n) (p := p)
        have b3 : bl T n p < n := ch_lt c (by decide)
        have hR3 := Rf_Pk hR hF
        have e1 := m_look (d := d + 3) (ss := ss) (dd := dd) hR3 (TR_Pk hT hF) h3 hp
        rw [c] at e1
        have h34 : pz_up M3 147 3 (bl T n p : Int) 147 3 = (bl T n p : Int) := u7_3
        have k8 : pz_up (pz_up M3 147 3 (bl T n p : Int)) 147 3 ((bl T n p : Int) + 1) = pz_up M3 147 3 ((bl T n p : Int) + 1) := up_up2
        have hF4 : Pk M (pz_up M3 147 3 ((bl T n p : Int) + 1)) := Pk_t hF Pk_3
        have run : pz_p bl_Mo_readCourt (pz_cal (d + 5)) 0 0 218 [] [(2, 147), (0, s.1), (0, 1), (0, cc)] [] ((pz_SH, ss, 0, 0, dd), M3) = pz_p bl_Mo_readCourt (pz_cal (d + 5)) 0 0 50 [] [(2, 147), (0, s.1), (0, 1), (0, cc)] [] ((pz_SH, ss, 0, 0, dd), pz_up M3 147 3 ((bl T n p : Int) + 1)) := by
          generalize pz_up M3 147 3 ((bl T n p : Int) + 1) = M8 at *
          generalize pz_up M3 147 3 (bl T n p : Int) = M9 at *
          rw [j_Mo_readCourt_218]
          simp (maxSteps := 1000000) (disch := omega) only [↓reduceIte, sp_0, sp_s, Option.map_some, Option.map_none, Option.some.injEq, o_le, o_nle, o_lt, o_nlt, o_eq, o_neq, w32_id, nw_s, px_iconst, px_bipush, px_sipush, px_ldc, px_ldc_w, px_lconst, px_ldc2_w, px_aconst_null, px_getstatic, px_iload_n, px_iload, px_lload_n, px_lload, px_aload_n, px_aload, px_istore_n, px_istore, px_astore_n, px_astore, px_lstore_n, px_lstore, px_iinc, px_iadd, px_isub, px_imul, px_iand, px_ior, px_ixor, px_ishl, px_ishr, px_iushr, px_ladd, px_lsub, px_lmul, px_land, px_lor, px_lcmp, px_lushr, px_lshl, px_ineg, px_i2l, px_l2i, px_idiv, px_irem, px_ldiv, px_lrem, px_dup0, px_pop0, px_dup2, px_pop2, px_dup2x, px_goto, px_if_eq, px_ic_eq, px_if_ne, px_ic_ne, px_if_lt, px_ic_lt, px_if_ge, px_ic_ge, px_if_gt, px_ic_gt, px_if_le, px_ic_le, px_ifnull, px_ifnonnull, px_lookupswitch, px_tableswitch, px_getfield, px_iaload, px_laload, px_caload, px_aaload, px_iastore, px_lastore, px_arraylength, px_putfield, px_ireturn, px_lreturn, px_areturn, px_return, px_iv0, px_is0, px_iv1, px_is1, px_iv2, px_is2, px_iv3, px_is3, px_iv4, px_is4, px_iv5, px_is5, px_iv6, px_is6, px_max, px_min, px_abs, px_maxJ, px_minJ, px_ii0, px_ii1, px_iio, px_copy, pz_cpk, pz_lk, pz_alk, pz_ask, pz_gfk, pz_lnk, pz_bx, pz_b, pz_z, pz_s1, pz_s2, pz_wt, pz_cmp, List.getElem?_cons_zero, List.getElem?_cons_succ, List.getElem?_nil, List.set_cons_zero, List.set_cons_succ, List.length_cons, List.length_nil, List.nil_append, List.cons_append, Option.toList_some, Option.toList_none, if_true, if_false, ite_true, ite_false, and_true, true_and, and_self, or_self, or_false, false_or, true_or, or_true, and_false, false_and, not_true_eq_false, not_false_eq_true, forall_const, ne_eq, reduceCtorEq, implies_true, false_implies, true_implies, Int.toNat_natCast, Nat.reduceAdd, Nat.reduceSub, Nat.reduceLT, Nat.reduceLeDiff, Nat.reduceEqDiff, Int.reduceLT, Int.reduceLE, Int.reduceToNat, Int.reduceNeg, Int.reduceEq, Int.reduceAdd, Nat.reduceMul, Int.reduceSub, Nat.reduceBEq, Int.reduceMul, Nat.add_zero, Nat.zero_add, Int.cast_ofNat_Int, Int.ofNat_eq_coe, decide_eq_true_eq, Nat.lt_irrefl, Nat.le_refl, List.getElem?_toArray, Option.elim_some, Option.elim_none, j_Mo_readCourt_239, j_Mo_readCourt_240, j_Mo_readCourt_254, j_Mo_readCourt_255, g_147, h4, e1, h34, k8]
        obtain ⟨M5, hb5, cc5, t5, f5, q5, r5⟩ := m_rc_clause (d := d) (ss := ss) (dd := dd) (M := pz_up M3 147 3 ((bl T n p : Int) + 1)) (p := bl T n p + 1) (hb := s.1) (R := s.2) (x := (0, cc)) (T := T) (n := n) (Rf_Pk hR hF4) (TR_Pk hT hF4) u7_3 (by omega) (by rw [u7_o (by decide)]; exact h4) (RM_7 hM (by decide)) hC h01 hu
        have g := Gi_gCc (T := T) (n := n) (p := bl T n p + 1) (by omega) hC h01
        rw [run]
        have t5 : pz_p bl_Mo_readCourt (pz_cal (d + 5)) 0 0 50 [] [(2, 147), (0, s.1), (0, 1), (0, cc)] [] ((pz_SH, ss, 0, 0, dd), pz_up M3 147 3 ((bl T n p : Int) + 1)) = _ := t5
        rw [t5]
        match hz : gCc T n s.1 s.2 (bl T n p + 1), r5, g with
        | .inl z, r5, g =>
          obtain ⟨w1, w2, w3, w4, w5⟩ := r5
          subst w1
          have g1 := g.1
          have g2 := g.2.1
          exact ih (i + 1) z.1 z.2 M5 cc5 (by omega) (by omega) g1 (Pk_t hF4 f5) w2 w3 g.2.2.2 w4 g.2.2.1 w5
        | .inr w, r5, g =>
          obtain ⟨w1, a, w2, w3⟩ := r5
          exact ⟨M5, m_rc_w w1 w3 w2, Pk_t hF4 f5, fun z hz => by simp [gCe] at hz⟩
      · rw [if_neg c]
        exact done s p M3 cc hp hF h3 h4 hM c
  obtain ⟨M5, hb5, cc5, t5, f5, q5, r5⟩ := m_rc_clause (d := d) (ss := ss) (dd := dd) (M := M2) (p := 0) (hb := 0) (R := row0) (x := (9, 0)) (T := T) (n := n) (Rf_Pk hR f2) (TR_Pk hT f2) (by rw [k2]; exact v3) (by omega) (by rw [k2]; exact v4) M2R CI_0 (.inl rfl) (fun _ k hk => by unfold row0; rw [if_pos hk])
  have g := Gi_gCc (T := T) (n := n) (hb := 0) (R := row0) (p := 0) (by omega) CI_0 (.inl rfl)
  have t5 : pz_p bl_Mo_readCourt (pz_cal (d + 5)) 0 0 50 [] [(2, 147), (0, 0), (0, 1), (9, 0)] [] ((pz_SH, ss, 0, 0, dd), M2) = _ := t5
  rw [t0, t2, t3, t5]
  unfold gCt
  match hz : gCc T n 0 row0 0, r5, g with
  | .inl z, r5, g =>
    obtain ⟨w1, w2, w3, w4, w5⟩ := r5
    subst w1
    exact lp 240 0 z.1 z.2 M5 cc5 (by omega) (by omega) g.1 (Pk_t f2 f5) w2 w3 g.2.2.2 w4 g.2.2.1 w5
  | .inr w, r5, g =>
    obtain ⟨w1, a, w2, w3⟩ := r5
    exact ⟨M5, m_rc_w w1 w3 w2, Pk_t f2 f5, fun z hz => by simp [gCn, gCe] at hz⟩
end P92
