/-! THE REFERENCE READS A LAW: a clause, the law -/
section P81
variable {d : Nat} {ss : List (Nat × Nat)} {dd : Nat} {T : Nat → Int} {n : Nat} {M : pz_M}
set_option maxRecDepth 100000 in
theorem m_cond_0 {t : Nat} (ht : t ≤ 4) : ∀ M p l, Sr M T n p l t 0 → ∃ M', pz_cal (d + 35) 199 [(2, 147)] ((pz_SH, ss, 0, 0, dd), M) = some (none, ((pz_SH, ss, 0, 0, dd), M')) ∧ Rq M t n p l 0 6 (gCd T n (gUn T n 6) p) M' := by
  have u := m_unit_j (ss := ss) (dd := dd) (T := T) (n := n) ht 6 0 (by decide) (by decide)
  exact m_condition (d := d + 29) (ss := ss) (dd := dd) (j := 6) (D := 0) (by decide) ht (by decide) (Gr_gUn 6) (fun k => by
    have := u (d + k)
    rw [show d + k + 8 + 4 * 6 = d + 29 + k + 3 by omega] at this
    exact this)
set_option maxRecDepth 100000 in
theorem m_cond_1 {t : Nat} (ht : t ≤ 4) {M0 M : pz_M} {p0 l0 p : Nat} {e : Ex} (hB : Br M0 M T n t p0 l0 0 e p) (hx : Xg e 15 False) : ∃ M1 M2 M3, pz_cal (d + 35) 209 [(2, 147)] ((pz_SH, ss, 0, 0, dd), M) = some (none, ((pz_SH, ss, 0, 0, dd), M1)) ∧ pz_cal (d + 35) 211 [(2, 147)] ((pz_SH, ss, 0, 0, dd), M1) = some (none, ((pz_SH, ss, 0, 0, dd), M2)) ∧ pz_cal (d + 35) 212 [(2, 147)] ((pz_SH, ss, 0, 0, dd), M2) = some (none, ((pz_SH, ss, 0, 0, dd), M3)) ∧ Rq M0 t n p0 l0 0 6 (gCb T n e p) M3 := by
  have u := m_unit_j (ss := ss) (dd := dd) (T := T) (n := n) ht 6 0 (by decide) (by decide)
  have s := m_sum_j (ss := ss) (dd := dd) (T := T) (n := n) ht 6 0 (by decide) (by decide) (d + 10)
  obtain ⟨M1, t1, r1⟩ := m_compare (d := d + 31) (ss := ss) (dd := dd) (j := 6) (by decide) ht (by decide) (Gr_gSm 6) s hB
  have g1 := Gr_gCm (T := T) (p0 := p0) (Gr_gSm (T := T) (n := n) 6) hB.2.2.2.2.2.2.1 hB.2.2.2.2.2.2.2.2.2.2 hx
  unfold gCb
  match hz : gCm T n (gSm T n 6) e p, r1, g1 with
  | .inl z, r1, g1 =>
    have hgt : ∀ p, p ≤ n → Gr n p 17 True (sq1 T n oAn (gUn T n 6) p) := Gr_sq1 (h0 := 16) (q := True) (Gr_gUn 6) (by decide) (by omega) (fun _ c hc => oAn_6 hc) (fun f => f)
    have B1 := Br_rq hB r1 g1
    obtain ⟨M2, t2, r2⟩ := m_goOnAnd (d := d + 31) (ss := ss) (dd := dd) (j := 6) (by decide) ht (by decide) (Gr_gUn 6) (u (d + 2)) B1
    have g2 := Gr_chn (T := T) (h := 17) (q := True) (Gr_gUn (T := T) (n := n) 6) (by decide : oAn (-1) = 0) (by omega) (fun _ c hc => oAn_6 hc) 240 z.1 z.2 p0 g1.1 g1.2.1 (Xg_m g1.2.2 (by omega) (fun f => f))
    show ∃ M1 M2 M3, _ ∧ _ ∧ _ ∧ Rq M0 t n p0 l0 0 6 (match chn T n oAn (gUn T n 6) 240 z.1 z.2 with
      | .inl y => chn T n oOr (sq1 T n oAn (gUn T n 6)) 240 y.1 y.2
      | .inr w => .inr w) M3
    match hy : chn T n oAn (gUn T n 6) 240 z.1 z.2, r2, g2 with
    | .inl y, r2, g2 =>
      have tr := m_truth (d := d + 30) (ss := ss) (dd := dd) (j := 6) (by decide) ht (by decide) (Gr_gUn 6) (u (d + 1)) (u (d + 2))
      obtain ⟨M3, t3, r3⟩ := m_goOnOr (d := d + 30) (ss := ss) (dd := dd) (j := 6) (by decide) ht (by decide) hgt tr (Br_rq B1 r2 g2)
      exact ⟨M1, M2, M3, t1, t2, t3, r3⟩
    | .inr w, r2, g2 => exact ⟨M1, M2, M2, t1, t2, m_goOnOr_w r2.2.1, r2⟩
  | .inr w, r1, g1 => exact ⟨M1, M1, M1, t1, m_goOnAnd_w r1.2.1, m_goOnOr_w r1.2.1, r1⟩
set_option maxRecDepth 100000 in
theorem m_cl_90 {t m l q : Nat} (ht : t ≤ 4) (hm : m < 140) (hS : Sr M T n q l t 0) (h52 : M 152 t = (m : Int)) : ∃ M', pz_p bl_Mo_clause (pz_cal (d + 35)) 0 0 90 [] [(2, 147), (0, 140 * (t : Int) + m), (9, 0)] [] ((pz_SH, ss, 0, 0, dd), M) = some (none, ((pz_SH, ss, 0, 0, dd), M')) ∧ Rqc M t m l (gBd T n q) M' := by
  obtain ⟨hR, hT, h3, hq, h4, h5, h14, h51, hl⟩ := hS
  have n240 := hT.2.1
  have e1 : ((140 : Int) * t + m).toNat = 140 * t + m := by omega
  have b1 := bl_le (T := T) hq
  have b2 := bl_ge (T := T) (n := n) (p := q)
  have hP4 : Pr t M (pz_up M 153 (140 * t + m) (l : Int)) := Pr_up (.inr ⟨.inl rfl, by omega, by omega⟩)
  have o4 : ∀ c, c ≠ 153 → pz_up M 153 (140 * t + m) (l : Int) c = M c := fun c hc => by funext z; rw [up_at, if_neg (by omega)]
  have o4b : ∀ i, i ≠ 140 * t + m → pz_up M 153 (140 * t + m) (l : Int) 153 i = M 153 i := fun i hi => by rw [up_at, if_neg (by omega)]
  have v4 : pz_up M 153 (140 * t + m) (l : Int) 153 (140 * t + m) = (l : Int) := by rw [up_at, if_pos ⟨rfl, rfl⟩]
  generalize hM4 : pz_up M 153 (140 * t + m) (l : Int) = M4 at *
  have e2 := m_look (d := d + 33) (ss := ss) (dd := dd) (Rf_Pr hR hP4) (TR_Pr hT hP4) (show M4 147 3 = (q : Int) by rw [o4 147 (by decide)]; exact h3) hq
  have hP5 : Pr t M (pz_up M4 147 3 (bl T n q : Int)) := Pr_t hP4 (Pr_Pe Pe_3)
  have S5 : Sr (pz_up M4 147 3 (bl T n q : Int)) T n (bl T n q) l t 0 := ⟨Rf_Pr hR hP5, TR_Pr hT hP5, u7_3, b1, by rw [u7_o (by decide), o4 147 (by decide)]; exact h4, by rw [u7_o (by decide), o4 147 (by decide)]; exact h5, by rw [u7_o (by decide), o4 147 (by decide)]; exact h14, by rw [u7_c (by decide), o4 151 (by decide)]; exact h51, by omega⟩
  have e3 := m_look (d := d + 33) (ss := ss) (dd := dd) S5.1 S5.2.1 S5.2.2.1 b1
  rw [bl_bl, up_up2] at e3
  have o5 : ∀ c, c ≠ 147 → pz_up M4 147 3 (bl T n q : Int) c = M4 c := fun c hc => u7_c hc
  generalize pz_up M4 147 3 (bl T n q : Int) = M5 at *
  have h525 : M5 152 t = (m : Int) := by rw [o5 152 (by decide), o4 152 (by decide)]; exact h52
  have k9 : M5 149 = M 149 := by rw [o5 149 (by decide), o4 149 (by decide)]
  have k10 : M5 150 = M 150 := by rw [o5 150 (by decide), o4 150 (by decide)]
  have k53 : ∀ M6, Pe t M5 M6 → M6 153 (140 * t + m) = (l : Int) := fun M6 f => by rw [f.1 153 (by decide) (by decide) (by decide) (by decide), o5 153 (by decide)]; exact v4
  have k52 : ∀ M6, Pe t M5 M6 → M6 152 t = (m : Int) := fun M6 f => by rw [f.1 152 (by decide) (by decide) (by decide) (by decide)]; exact h525
  have k14 : ∀ M6, Pe t M5 M6 → M6 147 14 = (t : Int) := fun M6 f => by rw [f.2.1 14 (by decide) (by decide) (by decide)]; exact S5.2.2.2.2.2.2.1
  have old : ∀ M6, Pe t M5 M6 → ∀ i, i < m → M6 153 (140 * t + i) = M 153 (140 * t + i) ∧ M6 154 (140 * t + i) = M 154 (140 * t + i) ∧ M6 155 (140 * t + i) = M 155 (140 * t + i) := fun M6 f i hi => by
    rw [f.1 153 (by decide) (by decide) (by decide) (by decide), f.1 154 (by decide) (by decide) (by decide) (by decide), f.1 155 (by decide) (by decide) (by decide) (by decide), o5 153 (by decide), o5 154 (by decide), o5 155 (by decide), o4b _ (by omega), o4 154 (by decide), o4 155 (by decide)]
    exact ⟨rfl, rfl, rfl⟩
  /- a fault ahead of the end -/
  have bad : ∀ M6 (w : Nat) (b : Int), Pe t M5 M6 → M6 147 4 = (w : Int) → b = 0 ∨ b = 1 → ∃ M', pz_p bl_Mo_clause (pz_cal (d + 35)) 0 0 184 [] [(2, 147), (0, 140 * (t : Int) + m), (0, b)] [] ((pz_SH, ss, 0, 0, dd), M6) = some (none, ((pz_SH, ss, 0, 0, dd), M')) ∧ Rqc M t m l (.inr w) M' := fun M6 w b f h6 hb => by
    refine ⟨_, m_cl_184 (d := d + 34) (Rf_Pe S5.1 f) (k14 M6 f) ht (k52 M6 f) hm (hb.elim .inl (fun h => .inr ⟨h, by omega⟩)), Pr_t hP5 (Pr_t (Pr_Pe f) (Pr_t (Pr_up (.inr ⟨.inr (.inl rfl), by omega, by omega⟩)) (Pr_fz hm))), ?_⟩
    show fz _ t m 147 4 = (w : Int)
    rw [fz_o (by decide) (by decide), up_at, if_neg (by omega)]
    exact h6
  /- a condition that is read -/
  have good : ∀ M6 (e : Ex) (p0 p : Nat), Pe t M5 M6 → Br M5 M6 T n t p0 l 0 e p → ∃ M', pz_p bl_Mo_clause (pz_cal (d + 35)) 0 0 184 [] [(2, 147), (0, 140 * (t : Int) + m), (0, 1)] [] ((pz_SH, ss, 0, 0, dd), M6) = some (none, ((pz_SH, ss, 0, 0, dd), M')) ∧ Rqc M t m l (gRs T n e p) M' := fun M6 e p0 p f hB => by
    obtain ⟨M7, t7, f7, r7⟩ := m_cl_some (d := d + 10) (ss := ss) (dd := dd) (T := T) (n := n) ht hm hB (k52 M6 f) (k53 M6 f)
    refine ⟨M7, t7, Pr_t hP5 (Pr_t (Pr_Pe f) f7), ?_⟩
    match hz : gRs T n e p, r7 with
    | .inl z, r7 =>
      obtain ⟨q1, q2, q3, q4, q5, q6, q7, q8⟩ := r7
      refine ⟨q1, q2, q3, q4, q5, q6, fun i hi => by rw [(q7 i hi).1, (q7 i hi).2, k9, k10]; exact ⟨rfl, rfl⟩, fun i hi => ?_⟩
      have a := q8 i hi
      have b := old M6 f i hi
      exact ⟨a.1.trans b.1, a.2.1.trans b.2.1, a.2.2.trans b.2.2⟩
    | .inr w, r7 => exact r7
  unfold gBd
  by_cases c : ch T n (bl T n q) = 33 ∨ ch T n (bl T n q) = 40
  · rw [if_pos c]
    obtain ⟨M6, t6, r6⟩ := m_cond_0 (d := d) (ss := ss) (dd := dd) (T := T) (n := n) ht M5 (bl T n q) l S5
    have g6 := Gr_gCd (T := T) (Gr_gUn (T := T) (n := n) 6) (bl T n q) b1
    rw [gCd_bl] at r6 g6
    have run : pz_p bl_Mo_clause (pz_cal (d + 35)) 0 0 90 [] [(2, 147), (0, 140 * (t : Int) + m), (9, 0)] [] ((pz_SH, ss, 0, 0, dd), M) = pz_p bl_Mo_clause (pz_cal (d + 35)) 0 0 184 [] [(2, 147), (0, 140 * (t : Int) + m), (0, 1)] [] ((pz_SH, ss, 0, 0, dd), M6) := by
      rcases c with c | c
      · rw [c] at e2 e3
        rw [j_Mo_clause_90]
        simp (maxSteps := 1000000) (disch := omega) only [↓reduceIte, sp_0, sp_s, Option.map_some, Option.map_none, Option.some.injEq, o_le, o_nle, o_lt, o_nlt, o_eq, o_neq, w32_id, nw_s, px_iconst, px_bipush, px_sipush, px_ldc, px_ldc_w, px_lconst, px_ldc2_w, px_aconst_null, px_getstatic, px_iload_n, px_iload, px_lload_n, px_lload, px_aload_n, px_aload, px_istore_n, px_istore, px_astore_n, px_astore, px_lstore_n, px_lstore, px_iinc, px_iadd, px_isub, px_imul, px_iand, px_ior, px_ixor, px_ishl, px_ishr, px_iushr, px_ladd, px_lsub, px_lmul, px_land, px_lor, px_lcmp, px_lushr, px_lshl, px_ineg, px_i2l, px_l2i, px_idiv, px_irem, px_ldiv, px_lrem, px_dup0, px_pop0, px_dup2, px_pop2, px_dup2x, px_goto, px_if_eq, px_ic_eq, px_if_ne, px_ic_ne, px_if_lt, px_ic_lt, px_if_ge, px_ic_ge, px_if_gt, px_ic_gt, px_if_le, px_ic_le, px_ifnull, px_ifnonnull, px_lookupswitch, px_tableswitch, px_getfield, px_iaload, px_laload, px_caload, px_aaload, px_iastore, px_lastore, px_arraylength, px_putfield, px_ireturn, px_lreturn, px_areturn, px_return, px_iv0, px_is0, px_iv1, px_is1, px_iv2, px_is2, px_iv3, px_is3, px_iv4, px_is4, px_iv5, px_is5, px_iv6, px_is6, px_max, px_min, px_abs, px_maxJ, px_minJ, px_ii0, px_ii1, px_iio, px_copy, pz_cpk, pz_lk, pz_alk, pz_ask, pz_gfk, pz_lnk, pz_bx, pz_b, pz_z, pz_s1, pz_s2, pz_wt, pz_cmp, List.getElem?_cons_zero, List.getElem?_cons_succ, List.getElem?_nil, List.set_cons_zero, List.set_cons_succ, List.length_cons, List.length_nil, List.nil_append, List.cons_append, Option.toList_some, Option.toList_none, if_true, if_false, ite_true, ite_false, and_true, true_and, and_self, or_self, or_false, false_or, true_or, or_true, and_false, false_and, not_true_eq_false, not_false_eq_true, forall_const, ne_eq, reduceCtorEq, implies_true, false_implies, true_implies, Int.toNat_natCast, Nat.reduceAdd, Nat.reduceSub, Nat.reduceLT, Nat.reduceLeDiff, Nat.reduceEqDiff, Int.reduceLT, Int.reduceLE, Int.reduceToNat, Int.reduceNeg, Int.reduceEq, Int.reduceAdd, Nat.reduceMul, Int.reduceSub, Nat.reduceBEq, Int.reduceMul, Nat.add_zero, Nat.zero_add, Int.cast_ofNat_Int, Int.ofNat_eq_coe, decide_eq_true_eq, Nat.lt_irrefl, Nat.le_refl, List.getElem?_toArray, Option.elim_some, Option.elim_none, j_Mo_clause_123, j_Mo_clause_127, j_Mo_clause_128, g_147, g_151, g_153, rf_147_8 hR, rf_147_10 hR, h14, h51, e1, hM4, e2, e3, t6]
      · rw [c] at e2 e3
        rw [j_Mo_clause_90]
        simp (maxSteps := 1000000) (disch := omega) only [↓reduceIte, sp_0, sp_s, Option.map_some, Option.map_none, Option.some.injEq, o_le, o_nle, o_lt, o_nlt, o_eq, o_neq, w32_id, nw_s, px_iconst, px_bipush, px_sipush, px_ldc, px_ldc_w, px_lconst, px_ldc2_w, px_aconst_null, px_getstatic, px_iload_n, px_iload, px_lload_n, px_lload, px_aload_n, px_aload, px_istore_n, px_istore, px_astore_n, px_astore, px_lstore_n, px_lstore, px_iinc, px_iadd, px_isub, px_imul, px_iand, px_ior, px_ixor, px_ishl, px_ishr, px_iushr, px_ladd, px_lsub, px_lmul, px_land, px_lor, px_lcmp, px_lushr, px_lshl, px_ineg, px_i2l, px_l2i, px_idiv, px_irem, px_ldiv, px_lrem, px_dup0, px_pop0, px_dup2, px_pop2, px_dup2x, px_goto, px_if_eq, px_ic_eq, px_if_ne, px_ic_ne, px_if_lt, px_ic_lt, px_if_ge, px_ic_ge, px_if_gt, px_ic_gt, px_if_le, px_ic_le, px_ifnull, px_ifnonnull, px_lookupswitch, px_tableswitch, px_getfield, px_iaload, px_laload, px_caload, px_aaload, px_iastore, px_lastore, px_arraylength, px_putfield, px_ireturn, px_lreturn, px_areturn, px_return, px_iv0, px_is0, px_iv1, px_is1, px_iv2, px_is2, px_iv3, px_is3, px_iv4, px_is4, px_iv5, px_is5, px_iv6, px_is6, px_max, px_min, px_abs, px_maxJ, px_minJ, px_ii0, px_ii1, px_iio, px_copy, pz_cpk, pz_lk, pz_alk, pz_ask, pz_gfk, pz_lnk, pz_bx, pz_b, pz_z, pz_s1, pz_s2, pz_wt, pz_cmp, List.getElem?_cons_zero, List.getElem?_cons_succ, List.getElem?_nil, List.set_cons_zero, List.set_cons_succ, List.length_cons, List.length_nil, List.nil_append, List.cons_append, Option.toList_some, Option.toList_none, if_true, if_false, ite_true, ite_false, and_true, true_and, and_self, or_self, or_false, false_or, true_or, or_true, and_false, false_and, not_true_eq_false, not_false_eq_true, forall_const, ne_eq, reduceCtorEq, implies_true, false_implies, true_implies, Int.toNat_natCast, Nat.reduceAdd, Nat.reduceSub, Nat.reduceLT, Nat.reduceLeDiff, Nat.reduceEqDiff, Int.reduceLT, Int.reduceLE, Int.reduceToNat, Int.reduceNeg, Int.reduceEq, Int.reduceAdd, Nat.reduceMul, Int.reduceSub, Nat.reduceBEq, Int.reduceMul, Nat.add_zero, Nat.zero_add, Int.cast_ofNat_Int, Int.ofNat_eq_coe, decide_eq_true_eq, Nat.lt_irrefl, Nat.le_refl, List.getElem?_toArray, Option.elim_some, Option.elim_none, j_Mo_clause_123, j_Mo_clause_127, j_Mo_clause_128, g_147, g_151, g_153, rf_147_8 hR, rf_147_10 hR, h14, h51, e1, hM4, e2, e3, t6]
    rw [run]
    match hz : gCd T n (gUn T n 6) q, r6, g6 with
    | .inl z, r6, g6 => exact good M6 z.1 _ z.2 r6.1 (Br_of S5 r6 g6)
    | .inr w, r6, g6 => exact bad M6 w 1 r6.1 r6.2.1 (.inr rfl)
  · rw [if_neg c]
    have c1 : ch T n (bl T n q) ≠ 33 := fun h => c (.inl h)
    have c2 : ch T n (bl T n q) ≠ 40 := fun h => c (.inr h)
    obtain ⟨M6, t6, r6⟩ := m_sum_j (ss := ss) (dd := dd) (T := T) (n := n) ht 6 0 (by decide) (by decide) (d + 11) M5 (bl T n q) l S5
    have t6 : pz_cal (d + 35) 204 [(2, 147)] ((pz_SH, ss, 0, 0, dd), M5) = some (none, ((pz_SH, ss, 0, 0, dd), M6)) := t6
    have g6 := Gr_gSm (T := T) (n := n) 6 (bl T n q) b1
    rw [gSm_bl] at r6 g6
    match hz : gSm T n 6 q, r6, g6 with
    | .inl z, r6, g6 =>
      have B6 := Br_of S5 r6 g6
      have z1 := bl_le (T := T) g6.1
      have z2 := bl_ge (T := T) (n := n) (p := z.2)
      have h46 := r6.2.2.1
      have e4 := m_look (d := d + 33) (ss := ss) (dd := dd) (Rf_Pe S5.1 r6.1) (TR_Pe S5.2.1 r6.1) r6.2.1 g6.1
      have e5 := m_isSign (d := d + 34) (ss := ss) (dd := dd) (M := pz_up M6 147 3 (bl T n z.2 : Int)) (c := ch T n (bl T n z.2))
      have f7 : Pe t M5 (pz_up M6 147 3 (bl T n z.2 : Int)) := Pe_t r6.1 Pe_3
      have B7 : Br M5 (pz_up M6 147 3 (bl T n z.2 : Int)) T n t (bl T n q) l 0 z.1 (bl T n z.2) := ⟨B6.1, B6.2.1, B6.2.2.1, B6.2.2.2.1, f7, u7_3, z1, by rw [u7_o (by decide)]; exact h46, by rw [u7_o (by decide)]; exact r6.2.2.2.1, Am2_7 r6.2.2.2.2, by have := g6.2.1; omega⟩
      show ∃ M', _ = _ ∧ Rqc M t m l (if oCm (ch T n (bl T n z.2)) = 0 then _ else _) M'
      generalize pz_up M6 147 3 (bl T n z.2 : Int) = M7 at *
      by_cases c6 : oCm (ch T n (bl T n z.2)) = 0
      · rw [if_pos c6] at e5 ⊢
        have e6 := m_cl_184 (d := d + 34) (ss := ss) (dd := dd) (b := 0) (Rf_Pe S5.1 f7) (k14 M7 f7) ht (k52 M7 f7) hm (.inl rfl)
        have run : pz_p bl_Mo_clause (pz_cal (d + 35)) 0 0 90 [] [(2, 147), (0, 140 * (t : Int) + m), (9, 0)] [] ((pz_SH, ss, 0, 0, dd), M) = pz_p bl_Mo_clause (pz_cal (d + 35)) 0 0 184 [] [(2, 147), (0, 140 * (t : Int) + m), (0, 0)] [] ((pz_SH, ss, 0, 0, dd), M7) := by
          generalize ch T n (bl T n z.2) = c7 at *
          generalize ch T n (bl T n q) = c8 at *
          rw [j_Mo_clause_90]
          simp (maxSteps := 1000000) (disch := omega) only [↓reduceIte, sp_0, sp_s, Option.map_some, Option.map_none, Option.some.injEq, o_le, o_nle, o_lt, o_nlt, o_eq, o_neq, w32_id, nw_s, px_iconst, px_bipush, px_sipush, px_ldc, px_ldc_w, px_lconst, px_ldc2_w, px_aconst_null, px_getstatic, px_iload_n, px_iload, px_lload_n, px_lload, px_aload_n, px_aload, px_istore_n, px_istore, px_astore_n, px_astore, px_lstore_n, px_lstore, px_iinc, px_iadd, px_isub, px_imul, px_iand, px_ior, px_ixor, px_ishl, px_ishr, px_iushr, px_ladd, px_lsub, px_lmul, px_land, px_lor, px_lcmp, px_lushr, px_lshl, px_ineg, px_i2l, px_l2i, px_idiv, px_irem, px_ldiv, px_lrem, px_dup0, px_pop0, px_dup2, px_pop2, px_dup2x, px_goto, px_if_eq, px_ic_eq, px_if_ne, px_ic_ne, px_if_lt, px_ic_lt, px_if_ge, px_ic_ge, px_if_gt, px_ic_gt, px_if_le, px_ic_le, px_ifnull, px_ifnonnull, px_lookupswitch, px_tableswitch, px_getfield, px_iaload, px_laload, px_caload, px_aaload, px_iastore, px_lastore, px_arraylength, px_putfield, px_ireturn, px_lreturn, px_areturn, px_return, px_iv0, px_is0, px_iv1, px_is1, px_iv2, px_is2, px_iv3, px_is3, px_iv4, px_is4, px_iv5, px_is5, px_iv6, px_is6, px_max, px_min, px_abs, px_maxJ, px_minJ, px_ii0, px_ii1, px_iio, px_copy, pz_cpk, pz_lk, pz_alk, pz_ask, pz_gfk, pz_lnk, pz_bx, pz_b, pz_z, pz_s1, pz_s2, pz_wt, pz_cmp, List.getElem?_cons_zero, List.getElem?_cons_succ, List.getElem?_nil, List.set_cons_zero, List.set_cons_succ, List.length_cons, List.length_nil, List.nil_append, List.cons_append, Option.toList_some, Option.toList_none, if_true, if_false, ite_true, ite_false, and_true, true_and, and_self, or_self, or_false, false_or, true_or, or_true, and_false, false_and, not_true_eq_false, not_false_eq_true, forall_const, ne_eq, reduceCtorEq, implies_true, false_implies, true_implies, Int.toNat_natCast, Nat.reduceAdd, Nat.reduceSub, Nat.reduceLT, Nat.reduceLeDiff, Nat.reduceEqDiff, Int.reduceLT, Int.reduceLE, Int.reduceToNat, Int.reduceNeg, Int.reduceEq, Int.reduceAdd, Nat.reduceMul, Int.reduceSub, Nat.reduceBEq, Int.reduceMul, Nat.add_zero, Nat.zero_add, Int.cast_ofNat_Int, Int.ofNat_eq_coe, decide_eq_true_eq, Nat.lt_irrefl, Nat.le_refl, List.getElem?_toArray, Option.elim_some, Option.elim_none, j_Mo_clause_123, j_Mo_clause_127, j_Mo_clause_128, j_Mo_clause_140, j_Mo_clause_166, j_Mo_clause_167, g_147, g_151, g_153, rf_147_8 hR, rf_147_10 hR, h14, h51, e1, hM4, e2, e3, t6, h46, e4, e5]
        rw [run]
        obtain ⟨_, _, _, _, _, a6, a7, a8, a9, a10, _⟩ := B7
        have hP8 : Pr t M7 (pz_up M7 154 (140 * t + m) (M7 153 (140 * t + m))) := Pr_up (.inr ⟨.inr (.inl rfl), by omega, by omega⟩)
        have o8 : ∀ c, c ≠ 154 → pz_up M7 154 (140 * t + m) (M7 153 (140 * t + m)) c = M7 c := fun c hc => by funext y; rw [up_at, if_neg (by omega)]
        have o8b : ∀ i, i ≠ 140 * t + m → pz_up M7 154 (140 * t + m) (M7 153 (140 * t + m)) 154 i = M7 154 i := fun i hi => by rw [up_at, if_neg (by omega)]
        have v8 : pz_up M7 154 (140 * t + m) (M7 153 (140 * t + m)) 154 (140 * t + m) = (l : Int) := by rw [up_at, if_pos ⟨rfl, rfl⟩]; exact k53 M7 f7
        generalize pz_up M7 154 (140 * t + m) (M7 153 (140 * t + m)) = M8 at *
        refine ⟨_, e6, Pr_t hP5 (Pr_t (Pr_Pe f7) (Pr_t hP8 (Pr_fz hm))), ?_⟩
        have x1 : xc (none, z.1) = z.1.1 := rfl
        have k151 : fz M8 t m 151 t = ((l + z.1.1.length : Nat) : Int) := by rw [fz_o (by decide) (by decide), o8 151 (by decide)]; exact a10.1
        refine ⟨by rw [fz_o (by decide) (by decide), o8 147 (by decide)]; exact a6, by rw [fz_o (by decide) (by decide), o8 147 (by decide)]; exact a8, by rw [fz_o (by decide) (by decide), o8 147 (by decide)]; exact a9, fz_152, k151, ⟨?_, ?_, ?_, ?_⟩, ?_, ?_⟩
        · rw [fz_o (by decide) (by decide), o8 153 (by decide)]; exact k53 M7 f7
        · rw [fz_o (by decide) (by decide)]; exact v8
        · rw [fz_155, ← fz_o (M := M8) (t := t) (m := m) (c := 151) (by decide) (by decide)]; exact k151
        · intro k u hk
          rw [fz_o (by decide) (by decide), fz_o (by decide) (by decide), o8 149 (by decide), o8 150 (by decide)]
          exact a10.2.2 k u hk
        · intro i hi
          rw [fz_o (by decide) (by decide), fz_o (by decide) (by decide), o8 149 (by decide), o8 150 (by decide), ← k9, ← k10]
          exact a10.2.1 i hi
        · intro i hi
          rw [fz_o (by decide) (by decide), fz_o (by decide) (by decide), fz_155o (by omega), o8 153 (by decide), o8 155 (by decide), o8b _ (by omega)]
          exact old M7 f7 i hi
      · rw [if_neg c6] at e5 ⊢
        obtain ⟨M8, M9, M10, t8, t9, t10, r10⟩ := m_cond_1 (d := d) (ss := ss) (dd := dd) ht B7 g6.2.2
        have g10 := Gr_gCb (T := T) (n := n) (p0 := bl T n q) z1 (by have := g6.2.1; omega) g6.2.2
        have eb : gCb T n z.1 (bl T n z.2) = gCb T n z.1 z.2 := by unfold gCb; rw [gCm_bl]
        rw [eb] at r10 g10
        have run : pz_p bl_Mo_clause (pz_cal (d + 35)) 0 0 90 [] [(2, 147), (0, 140 * (t : Int) + m), (9, 0)] [] ((pz_SH, ss, 0, 0, dd), M) = pz_p bl_Mo_clause (pz_cal (d + 35)) 0 0 184 [] [(2, 147), (0, 140 * (t : Int) + m), (0, 1)] [] ((pz_SH, ss, 0, 0, dd), M10) := by
          generalize ch T n (bl T n z.2) = c7 at *
          generalize ch T n (bl T n q) = c8 at *
          rw [j_Mo_clause_90]
          simp (maxSteps := 1000000) (disch := omega) only [↓reduceIte, sp_0, sp_s, Option.map_some, Option.map_none, Option.some.injEq, o_le, o_nle, o_lt, o_nlt, o_eq, o_neq, w32_id, nw_s, px_iconst, px_bipush, px_sipush, px_ldc, px_ldc_w, px_lconst, px_ldc2_w, px_aconst_null, px_getstatic, px_iload_n, px_iload, px_lload_n, px_lload, px_aload_n, px_aload, px_istore_n, px_istore, px_astore_n, px_astore, px_lstore_n, px_lstore, px_iinc, px_iadd, px_isub, px_imul, px_iand, px_ior, px_ixor, px_ishl, px_ishr, px_iushr, px_ladd, px_lsub, px_lmul, px_land, px_lor, px_lcmp, px_lushr, px_lshl, px_ineg, px_i2l, px_l2i, px_idiv, px_irem, px_ldiv, px_lrem, px_dup0, px_pop0, px_dup2, px_pop2, px_dup2x, px_goto, px_if_eq, px_ic_eq, px_if_ne, px_ic_ne, px_if_lt, px_ic_lt, px_if_ge, px_ic_ge, px_if_gt, px_ic_gt, px_if_le, px_ic_le, px_ifnull, px_ifnonnull, px_lookupswitch, px_tableswitch, px_getfield, px_iaload, px_laload, px_caload, px_aaload, px_iastore, px_lastore, px_arraylength, px_putfield, px_ireturn, px_lreturn, px_areturn, px_return, px_iv0, px_is0, px_iv1, px_is1, px_iv2, px_is2, px_iv3, px_is3, px_iv4, px_is4, px_iv5, px_is5, px_iv6, px_is6, px_max, px_min, px_abs, px_maxJ, px_minJ, px_ii0, px_ii1, px_iio, px_copy, pz_cpk, pz_lk, pz_alk, pz_ask, pz_gfk, pz_lnk, pz_bx, pz_b, pz_z, pz_s1, pz_s2, pz_wt, pz_cmp, List.getElem?_cons_zero, List.getElem?_cons_succ, List.getElem?_nil, List.set_cons_zero, List.set_cons_succ, List.length_cons, List.length_nil, List.nil_append, List.cons_append, Option.toList_some, Option.toList_none, if_true, if_false, ite_true, ite_false, and_true, true_and, and_self, or_self, or_false, false_or, true_or, or_true, and_false, false_and, not_true_eq_false, not_false_eq_true, forall_const, ne_eq, reduceCtorEq, implies_true, false_implies, true_implies, Int.toNat_natCast, Nat.reduceAdd, Nat.reduceSub, Nat.reduceLT, Nat.reduceLeDiff, Nat.reduceEqDiff, Int.reduceLT, Int.reduceLE, Int.reduceToNat, Int.reduceNeg, Int.reduceEq, Int.reduceAdd, Nat.reduceMul, Int.reduceSub, Nat.reduceBEq, Int.reduceMul, Nat.add_zero, Nat.zero_add, Int.cast_ofNat_Int, Int.ofNat_eq_coe, decide_eq_true_eq, Nat.lt_irrefl, Nat.le_refl, List.getElem?_toArray, Option.elim_some, Option.elim_none, j_Mo_clause_123, j_Mo_clause_127, j_Mo_clause_128, j_Mo_clause_140, j_Mo_clause_166, j_Mo_clause_167, g_147, g_151, g_153, rf_147_8 hR, rf_147_10 hR, h14, h51, e1, hM4, e2, e3, t6, h46, e4, e5, t8, t9, t10]
        rw [run]
        match hy : gCb T n z.1 z.2, r10, g10 with
        | .inl y, r10, g10 => exact good M10 y.1 _ y.2 r10.1 (Br_rq B7 r10 g10)
        | .inr w, r10, g10 => exact bad M10 w 1 r10.1 r10.2.1 (.inr rfl)
    | .inr w, r6, g6 =>
      have h46 := r6.2.1
      have run : pz_p bl_Mo_clause (pz_cal (d + 35)) 0 0 90 [] [(2, 147), (0, 140 * (t : Int) + m), (9, 0)] [] ((pz_SH, ss, 0, 0, dd), M) = pz_p bl_Mo_clause (pz_cal (d + 35)) 0 0 184 [] [(2, 147), (0, 140 * (t : Int) + m), (0, 0)] [] ((pz_SH, ss, 0, 0, dd), M6) := by
        generalize ch T n (bl T n q) = c8 at *
        rw [j_Mo_clause_90]
        simp (maxSteps := 1000000) (disch := omega) only [↓reduceIte, sp_0, sp_s, Option.map_some, Option.map_none, Option.some.injEq, o_le, o_nle, o_lt, o_nlt, o_eq, o_neq, w32_id, nw_s, px_iconst, px_bipush, px_sipush, px_ldc, px_ldc_w, px_lconst, px_ldc2_w, px_aconst_null, px_getstatic, px_iload_n, px_iload, px_lload_n, px_lload, px_aload_n, px_aload, px_istore_n, px_istore, px_astore_n, px_astore, px_lstore_n, px_lstore, px_iinc, px_iadd, px_isub, px_imul, px_iand, px_ior, px_ixor, px_ishl, px_ishr, px_iushr, px_ladd, px_lsub, px_lmul, px_land, px_lor, px_lcmp, px_lushr, px_lshl, px_ineg, px_i2l, px_l2i, px_idiv, px_irem, px_ldiv, px_lrem, px_dup0, px_pop0, px_dup2, px_pop2, px_dup2x, px_goto, px_if_eq, px_ic_eq, px_if_ne, px_ic_ne, px_if_lt, px_ic_lt, px_if_ge, px_ic_ge, px_if_gt, px_ic_gt, px_if_le, px_ic_le, px_ifnull, px_ifnonnull, px_lookupswitch, px_tableswitch, px_getfield, px_iaload, px_laload, px_caload, px_aaload, px_iastore, px_lastore, px_arraylength, px_putfield, px_ireturn, px_lreturn, px_areturn, px_return, px_iv0, px_is0, px_iv1, px_is1, px_iv2, px_is2, px_iv3, px_is3, px_iv4, px_is4, px_iv5, px_is5, px_iv6, px_is6, px_max, px_min, px_abs, px_maxJ, px_minJ, px_ii0, px_ii1, px_iio, px_copy, pz_cpk, pz_lk, pz_alk, pz_ask, pz_gfk, pz_lnk, pz_bx, pz_b, pz_z, pz_s1, pz_s2, pz_wt, pz_cmp, List.getElem?_cons_zero, List.getElem?_cons_succ, List.getElem?_nil, List.set_cons_zero, List.set_cons_succ, List.length_cons, List.length_nil, List.nil_append, List.cons_append, Option.toList_some, Option.toList_none, if_true, if_false, ite_true, ite_false, and_true, true_and, and_self, or_self, or_false, false_or, true_or, or_true, and_false, false_and, not_true_eq_false, not_false_eq_true, forall_const, ne_eq, reduceCtorEq, implies_true, false_implies, true_implies, Int.toNat_natCast, Nat.reduceAdd, Nat.reduceSub, Nat.reduceLT, Nat.reduceLeDiff, Nat.reduceEqDiff, Int.reduceLT, Int.reduceLE, Int.reduceToNat, Int.reduceNeg, Int.reduceEq, Int.reduceAdd, Nat.reduceMul, Int.reduceSub, Nat.reduceBEq, Int.reduceMul, Nat.add_zero, Nat.zero_add, Int.cast_ofNat_Int, Int.ofNat_eq_coe, decide_eq_true_eq, Nat.lt_irrefl, Nat.le_refl, List.getElem?_toArray, Option.elim_some, Option.elim_none, j_Mo_clause_123, j_Mo_clause_127, j_Mo_clause_128, j_Mo_clause_140, j_Mo_clause_166, j_Mo_clause_167, g_147, g_151, g_153, rf_147_8 hR, rf_147_10 hR, h14, h51, e1, hM4, e2, e3, t6, h46]
      rw [run]
      exact bad M6 w 0 r6.1 h46 (.inl rfl)
set_option maxRecDepth 100000 in
theorem m_clause {t m l p : Nat} (ht : t ≤ 4) (hm : m < 140) (hS : Sr M T n p l t 0) (h52 : M 152 t = (m : Int)) : ∃ M', pz_cal (d + 36) 198 [(2, 147)] ((pz_SH, ss, 0, 0, dd), M) = some (none, ((pz_SH, ss, 0, 0, dd), M')) ∧ Rqc M t m l (gCl T n p) M' := by
  obtain ⟨hR, hT, h3, hp, h4, h5, h14, h51, hl⟩ := hS
  have n240 := hT.2.1
  have b1 := bl_le (T := T) hp
  have b2 := bl_ge (T := T) (n := n) (p := p)
  have e1 := m_look (d := d + 33) (ss := ss) (dd := dd) hR hT h3 hp
  have h31 : pz_up M 147 3 (bl T n p : Int) 147 3 = (bl T n p : Int) := u7_3
  have h41 : pz_up M 147 3 (bl T n p : Int) 147 4 = -1 := by rw [u7_o (by decide)]; exact h4
  unfold gCl
  by_cases c1 : ch T n (bl T n p) = 121
  · rw [if_pos c1]
    rw [c1] at e1
    have b3 : bl T n p < n := ch_lt c1 (by decide)
    have k8 : pz_up (pz_up M 147 3 (bl T n p : Int)) 147 3 ((bl T n p : Int) + 1) = pz_up M 147 3 ((bl T n p : Int) + 1) := up_up2
    have hF2 : Pe t M (pz_up M 147 3 ((bl T n p : Int) + 1)) := Pe_3
    have h42 : pz_up M 147 3 ((bl T n p : Int) + 1) 147 4 = -1 := by rw [u7_o (by decide)]; exact h4
    have e2 := m_look (d := d + 33) (ss := ss) (dd := dd) (M := pz_up M 147 3 ((bl T n p : Int) + 1)) (p := bl T n p + 1) (Rf_Pe hR hF2) (TR_Pe hT hF2) u7_3 (by omega)
    rw [up_up2] at e2
    have b4 := bl_le (T := T) (n := n) (p := bl T n p + 1) (by omega)
    have b5 := bl_ge (T := T) (n := n) (p := bl T n p + 1)
    have h33 : pz_up M 147 3 (bl T n (bl T n p + 1) : Int) 147 3 = (bl T n (bl T n p + 1) : Int) := u7_3
    have h43 : pz_up M 147 3 (bl T n (bl T n p + 1) : Int) 147 4 = -1 := by rw [u7_o (by decide)]; exact h4
    by_cases c2 : ch T n (bl T n (bl T n p + 1)) = 58
    · rw [if_pos c2]
      rw [c2] at e2
      have b6 : bl T n (bl T n p + 1) < n := ch_lt c2 (by decide)
      have k9 : pz_up (pz_up M 147 3 (bl T n (bl T n p + 1) : Int)) 147 3 ((bl T n (bl T n p + 1) : Int) + 1) = pz_up M 147 3 ((bl T n (bl T n p + 1) : Int) + 1) := up_up2
      have hF4 : Pe t M (pz_up M 147 3 ((bl T n (bl T n p + 1) : Int) + 1)) := Pe_3
      have h44 : pz_up M 147 3 ((bl T n (bl T n p + 1) : Int) + 1) 147 4 = -1 := by rw [u7_o (by decide)]; exact h4
      obtain ⟨M5, t5, f5, r5⟩ := m_cl_90 (d := d) (ss := ss) (dd := dd) (M := pz_up M 147 3 ((bl T n (bl T n p + 1) : Int) + 1)) (T := T) (n := n) (t := t) (m := m) (l := l) (q := bl T n (bl T n p + 1) + 1) ht hm ⟨Rf_Pe hR hF4, TR_Pe hT hF4, u7_3, by omega, h44, by rw [u7_o (by decide)]; exact h5, by rw [u7_o (by decide)]; exact h14, by rw [u7_c (by decide)]; exact h51, by omega⟩ (by rw [u7_c (by decide)]; exact h52)
      have k149 : pz_up M 147 3 ((bl T n (bl T n p + 1) : Int) + 1) 149 = M 149 := u7_c (by decide)
      have k150 : pz_up M 147 3 ((bl T n (bl T n p + 1) : Int) + 1) 150 = M 150 := u7_c (by decide)
      have k153 : pz_up M 147 3 ((bl T n (bl T n p + 1) : Int) + 1) 153 = M 153 := u7_c (by decide)
      have k154 : pz_up M 147 3 ((bl T n (bl T n p + 1) : Int) + 1) 154 = M 154 := u7_c (by decide)
      have k155 : pz_up M 147 3 ((bl T n (bl T n p + 1) : Int) + 1) 155 = M 155 := u7_c (by decide)
      generalize pz_up M 147 3 ((bl T n (bl T n p + 1) : Int) + 1) = M4 at *
      refine ⟨M5, ?_, Pr_t (Pr_Pe hF4) f5, ?_⟩
      · rw [← t5]
        generalize pz_up M 147 3 (bl T n (bl T n p + 1) : Int) = M3 at *
        generalize pz_up M 147 3 ((bl T n p : Int) + 1) = M2 at *
        generalize pz_up M 147 3 (bl T n p : Int) = M1 at *
        simp (maxSteps := 1000000) (disch := omega) only [↓reduceIte, sp_0, sp_s, Option.map_some, Option.map_none, Option.some.injEq, o_le, o_nle, o_lt, o_nlt, o_eq, o_neq, w32_id, up_at, nw_at, nw_s, k_Mo_clause, px_iconst, px_bipush, px_sipush, px_ldc, px_ldc_w, px_lconst, px_ldc2_w, px_aconst_null, px_getstatic, px_iload_n, px_iload, px_lload_n, px_lload, px_aload_n, px_aload, px_istore_n, px_istore, px_astore_n, px_astore, px_lstore_n, px_lstore, px_iinc, px_iadd, px_isub, px_imul, px_iand, px_ior, px_ixor, px_ishl, px_ishr, px_iushr, px_ladd, px_lsub, px_lmul, px_land, px_lor, px_lcmp, px_lushr, px_lshl, px_ineg, px_i2l, px_l2i, px_idiv, px_irem, px_ldiv, px_lrem, px_dup0, px_pop0, px_dup2, px_pop2, px_dup2x, px_goto, px_if_eq, px_ic_eq, px_if_ne, px_ic_ne, px_if_lt, px_ic_lt, px_if_ge, px_ic_ge, px_if_gt, px_ic_gt, px_if_le, px_ic_le, px_ifnull, px_ifnonnull, px_lookupswitch, px_tableswitch, px_getfield, px_iaload, px_laload, px_caload, px_aaload, px_iastore, px_lastore, px_arraylength, px_putfield, px_ireturn, px_lreturn, px_areturn, px_return, px_iv0, px_is0, px_iv1, px_is1, px_iv2, px_is2, px_iv3, px_is3, px_iv4, px_is4, px_iv5, px_is5, px_iv6, px_is6, px_max, px_min, px_abs, px_maxJ, px_minJ, px_ii0, px_ii1, px_iio, px_copy, pz_cpk, pz_lk, pz_alk, pz_ask, pz_gfk, pz_lnk, pz_bx, pz_b, pz_z, pz_s1, pz_s2, pz_wt, pz_cmp, List.getElem?_cons_zero, List.getElem?_cons_succ, List.getElem?_nil, List.set_cons_zero, List.set_cons_succ, List.length_cons, List.length_nil, List.nil_append, List.cons_append, Option.toList_some, Option.toList_none, if_true, if_false, ite_true, ite_false, and_true, true_and, and_self, or_self, or_false, false_or, true_or, or_true, and_false, false_and, not_true_eq_false, not_false_eq_true, forall_const, ne_eq, reduceCtorEq, implies_true, false_implies, true_implies, Int.toNat_natCast, Nat.reduceAdd, Nat.reduceSub, Nat.reduceLT, Nat.reduceLeDiff, Nat.reduceEqDiff, Int.reduceLT, Int.reduceLE, Int.reduceToNat, Int.reduceNeg, Int.reduceEq, Int.reduceAdd, Nat.reduceMul, Int.reduceSub, Nat.reduceBEq, Int.reduceMul, Nat.add_zero, Nat.zero_add, Int.cast_ofNat_Int, Int.ofNat_eq_coe, decide_eq_true_eq, Nat.lt_irrefl, Nat.le_refl, List.getElem?_toArray, Option.elim_some, Option.elim_none, j_Mo_clause_0, j_Mo_clause_40, j_Mo_clause_71, g_147, g_152, rf_147_9 hR, h14, h52, h4, e1, h31, k8, h42, e2, h33, k9, h44]
      · match hz : gBd T n (bl T n (bl T n p + 1) + 1), r5 with
        | .inl z, r5 =>
          obtain ⟨q1, q2, q3, q4, q5, q6, q7, q8⟩ := r5
          rw [k149, k150] at q7
          rw [k153, k154, k155] at q8
          exact ⟨q1, q2, q3, q4, q5, q6, q7, q8⟩
        | .inr w, r5 => exact r5
    · rw [if_neg c2]
      have e3 := m_bad (d := d + 34) (ss := ss) (dd := dd) h33 h43
      have h34 : pz_up (pz_up M 147 3 (bl T n (bl T n p + 1) : Int)) 147 4 (bl T n (bl T n p + 1) : Int) 147 3 = (bl T n (bl T n p + 1) : Int) := by rw [u7_o (by decide)]; exact u7_3
      have h44 : pz_up (pz_up M 147 3 (bl T n (bl T n p + 1) : Int)) 147 4 (bl T n (bl T n p + 1) : Int) 147 4 = (bl T n (bl T n p + 1) : Int) := u7_4
      have hF4 : Pe t M (pz_up (pz_up M 147 3 (bl T n (bl T n p + 1) : Int)) 147 4 (bl T n (bl T n p + 1) : Int)) := Pe_t Pe_3 Pe_4
      generalize ch T n (bl T n (bl T n p + 1)) = c9 at *
      generalize pz_up (pz_up M 147 3 (bl T n (bl T n p + 1) : Int)) 147 4 (bl T n (bl T n p + 1) : Int) = M4 at *
      have h45 : pz_up M4 147 3 ((bl T n (bl T n p + 1) : Int) + 1) 147 4 = (bl T n (bl T n p + 1) : Int) := by rw [u7_o (by decide)]; exact h44
      refine ⟨pz_up M4 147 3 ((bl T n (bl T n p + 1) : Int) + 1), ?_, Pr_Pe (Pe_t hF4 Pe_3), h45⟩
      generalize hM5 : pz_up M4 147 3 ((bl T n (bl T n p + 1) : Int) + 1) = M5 at *
      generalize pz_up M 147 3 (bl T n (bl T n p + 1) : Int) = M3 at *
      generalize pz_up M 147 3 ((bl T n p : Int) + 1) = M2 at *
      generalize pz_up M 147 3 (bl T n p : Int) = M1 at *
      simp (maxSteps := 1000000) (disch := omega) only [↓reduceIte, sp_0, sp_s, Option.map_some, Option.map_none, Option.some.injEq, o_le, o_nle, o_lt, o_nlt, o_eq, o_neq, w32_id, up_at, nw_at, nw_s, k_Mo_clause, px_iconst, px_bipush, px_sipush, px_ldc, px_ldc_w, px_lconst, px_ldc2_w, px_aconst_null, px_getstatic, px_iload_n, px_iload, px_lload_n, px_lload, px_aload_n, px_aload, px_istore_n, px_istore, px_astore_n, px_astore, px_lstore_n, px_lstore, px_iinc, px_iadd, px_isub, px_imul, px_iand, px_ior, px_ixor, px_ishl, px_ishr, px_iushr, px_ladd, px_lsub, px_lmul, px_land, px_lor, px_lcmp, px_lushr, px_lshl, px_ineg, px_i2l, px_l2i, px_idiv, px_irem, px_ldiv, px_lrem, px_dup0, px_pop0, px_dup2, px_pop2, px_dup2x, px_goto, px_if_eq, px_ic_eq, px_if_ne, px_ic_ne, px_if_lt, px_ic_lt, px_if_ge, px_ic_ge, px_if_gt, px_ic_gt, px_if_le, px_ic_le, px_ifnull, px_ifnonnull, px_lookupswitch, px_tableswitch, px_getfield, px_iaload, px_laload, px_caload, px_aaload, px_iastore, px_lastore, px_arraylength, px_putfield, px_ireturn, px_lreturn, px_areturn, px_return, px_iv0, px_is0, px_iv1, px_is1, px_iv2, px_is2, px_iv3, px_is3, px_iv4, px_is4, px_iv5, px_is5, px_iv6, px_is6, px_max, px_min, px_abs, px_maxJ, px_minJ, px_ii0, px_ii1, px_iio, px_copy, pz_cpk, pz_lk, pz_alk, pz_ask, pz_gfk, pz_lnk, pz_bx, pz_b, pz_z, pz_s1, pz_s2, pz_wt, pz_cmp, List.getElem?_cons_zero, List.getElem?_cons_succ, List.getElem?_nil, List.set_cons_zero, List.set_cons_succ, List.length_cons, List.length_nil, List.nil_append, List.cons_append, Option.toList_some, Option.toList_none, if_true, if_false, ite_true, ite_false, and_true, true_and, and_self, or_self, or_false, false_or, true_or, or_true, and_false, false_and, not_true_eq_false, not_false_eq_true, forall_const, ne_eq, reduceCtorEq, implies_true, false_implies, true_implies, Int.toNat_natCast, Nat.reduceAdd, Nat.reduceSub, Nat.reduceLT, Nat.reduceLeDiff, Nat.reduceEqDiff, Int.reduceLT, Int.reduceLE, Int.reduceToNat, Int.reduceNeg, Int.reduceEq, Int.reduceAdd, Nat.reduceMul, Int.reduceSub, Nat.reduceBEq, Int.reduceMul, Nat.add_zero, Nat.zero_add, Int.cast_ofNat_Int, Int.ofNat_eq_coe, decide_eq_true_eq, Nat.lt_irrefl, Nat.le_refl, List.getElem?_toArray, Option.elim_some, Option.elim_none, j_Mo_clause_0, j_Mo_clause_40, j_Mo_clause_71, g_147, g_152, rf_147_9 hR, h14, h52, h4, e1, h31, k8, h42, e2, e3, h34, hM5, h45]
  · rw [if_neg c1]
    have e3 := m_bad (d := d + 34) (ss := ss) (dd := dd) h31 h41
    have hF2 : Pe t M (pz_up (pz_up M 147 3 (bl T n p : Int)) 147 4 (bl T n p : Int)) := Pe_t Pe_3 Pe_4
    have h32 : pz_up (pz_up M 147 3 (bl T n p : Int)) 147 4 (bl T n p : Int) 147 3 = (bl T n p : Int) := by rw [u7_o (by decide)]; exact u7_3
    have h42 : pz_up (pz_up M 147 3 (bl T n p : Int)) 147 4 (bl T n p : Int) 147 4 = (bl T n p : Int) := u7_4
    generalize ch T n (bl T n p) = c9 at *
    generalize pz_up (pz_up M 147 3 (bl T n p : Int)) 147 4 (bl T n p : Int) = M2 at *
    have h33 : pz_up M2 147 3 ((bl T n p : Int) + 1) 147 3 = (bl T n p : Int) + 1 := u7_3
    have h43 : pz_up M2 147 3 ((bl T n p : Int) + 1) 147 4 = (bl T n p : Int) := by rw [u7_o (by decide)]; exact h42
    have hF3 : Pe t M (pz_up M2 147 3 ((bl T n p : Int) + 1)) := Pe_t hF2 Pe_3
    generalize hM3 : pz_up M2 147 3 ((bl T n p : Int) + 1) = M3 at *
    have h44 : pz_up M3 147 3 ((bl T n p : Int) + 1 + 1) 147 4 = (bl T n p : Int) := by rw [u7_o (by decide)]; exact h43
    refine ⟨pz_up M3 147 3 ((bl T n p : Int) + 1 + 1), ?_, Pr_Pe (Pe_t hF3 Pe_3), h44⟩
    generalize hM4 : pz_up M3 147 3 ((bl T n p : Int) + 1 + 1) = M4 at *
    generalize pz_up M 147 3 (bl T n p : Int) = M1 at *
    simp (maxSteps := 1000000) (disch := omega) only [↓reduceIte, sp_0, sp_s, Option.map_some, Option.map_none, Option.some.injEq, o_le, o_nle, o_lt, o_nlt, o_eq, o_neq, w32_id, up_at, nw_at, nw_s, k_Mo_clause, px_iconst, px_bipush, px_sipush, px_ldc, px_ldc_w, px_lconst, px_ldc2_w, px_aconst_null, px_getstatic, px_iload_n, px_iload, px_lload_n, px_lload, px_aload_n, px_aload, px_istore_n, px_istore, px_astore_n, px_astore, px_lstore_n, px_lstore, px_iinc, px_iadd, px_isub, px_imul, px_iand, px_ior, px_ixor, px_ishl, px_ishr, px_iushr, px_ladd, px_lsub, px_lmul, px_land, px_lor, px_lcmp, px_lushr, px_lshl, px_ineg, px_i2l, px_l2i, px_idiv, px_irem, px_ldiv, px_lrem, px_dup0, px_pop0, px_dup2, px_pop2, px_dup2x, px_goto, px_if_eq, px_ic_eq, px_if_ne, px_ic_ne, px_if_lt, px_ic_lt, px_if_ge, px_ic_ge, px_if_gt, px_ic_gt, px_if_le, px_ic_le, px_ifnull, px_ifnonnull, px_lookupswitch, px_tableswitch, px_getfield, px_iaload, px_laload, px_caload, px_aaload, px_iastore, px_lastore, px_arraylength, px_putfield, px_ireturn, px_lreturn, px_areturn, px_return, px_iv0, px_is0, px_iv1, px_is1, px_iv2, px_is2, px_iv3, px_is3, px_iv4, px_is4, px_iv5, px_is5, px_iv6, px_is6, px_max, px_min, px_abs, px_maxJ, px_minJ, px_ii0, px_ii1, px_iio, px_copy, pz_cpk, pz_lk, pz_alk, pz_ask, pz_gfk, pz_lnk, pz_bx, pz_b, pz_z, pz_s1, pz_s2, pz_wt, pz_cmp, List.getElem?_cons_zero, List.getElem?_cons_succ, List.getElem?_nil, List.set_cons_zero, List.set_cons_succ, List.length_cons, List.length_nil, List.nil_append, List.cons_append, Option.toList_some, Option.toList_none, if_true, if_false, ite_true, ite_false, and_true, true_and, and_self, or_self, or_false, false_or, true_or, or_true, and_false, false_and, not_true_eq_false, not_false_eq_true, forall_const, ne_eq, reduceCtorEq, implies_true, false_implies, true_implies, Int.toNat_natCast, Nat.reduceAdd, Nat.reduceSub, Nat.reduceLT, Nat.reduceLeDiff, Nat.reduceEqDiff, Int.reduceLT, Int.reduceLE, Int.reduceToNat, Int.reduceNeg, Int.reduceEq, Int.reduceAdd, Nat.reduceMul, Int.reduceSub, Nat.reduceBEq, Int.reduceMul, Nat.add_zero, Nat.zero_add, Int.cast_ofNat_Int, Int.ofNat_eq_coe, decide_eq_true_eq, Nat.lt_irrefl, Nat.le_refl, List.getElem?_toArray, Option.elim_some, Option.elim_none, j_Mo_clause_0, j_Mo_clause_40, j_Mo_clause_71, g_147, g_152, rf_147_9 hR, h14, h52, h4, e1, e3, h32, hM3, h33, h43, hM4, h44]
end P81
