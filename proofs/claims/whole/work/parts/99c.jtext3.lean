/-! BOTH TOGETHER: texts -/
theorem Gr2_CI {R : Nat → Int} (h : CI R) : Gr2 R := by
  obtain ⟨a, b, c, d, e, f, g, i⟩ := h
  refine ⟨⟨fun j hj => ?_, fun j hj => ?_, fun x hx => by rw [c x hx]; decide, fun x hx => ⟨?_, ?_⟩, f.2, g.2, by rw [i]; decide⟩, fun x hx => ?_, fun x hx h2 => by rw [i] at h2; omega⟩
  · by_cases q1 : j < 7
    · have := a j q1; have := hig_r (q := 98) (k := (j : Int)); omega
    · by_cases q2 : j < 63
      · by_cases q3 : (j - 7) % 7 = 6
        · have := c ((j - 7) / 7) (by omega)
          rw [show 7 + 7 * ((j - 7) / 7) + 6 = j by omega] at this
          rw [this]; decide
        · have := b ((j - 7) / 7) ((j - 7) % 7) (by omega) (by omega)
          rw [show 7 + 7 * ((j - 7) / 7) + (j - 7) % 7 = j by omega] at this
          have := hig_r (q := 99) (k := (((j - 7) % 7 : Nat) : Int))
          omega
      · by_cases q4 : j < 81
        · have := d ((j - 63) / 3) ((j - 63) % 3) (by omega) (by omega)
          rw [show 63 + 3 * ((j - 63) / 3) + (j - 63) % 3 = j by omega] at this
          have := hig_r (q := 97) (k := (((j - 63) % 3 : Nat) : Int))
          omega
        · by_cases q5 : j < 141
          · rw [e j (by omega) q5]; decide
          · rcases (by omega : j = 141 ∨ j = 142 ∨ j = 143) with rfl | rfl | rfl
            · omega
            · omega
            · rw [i]; decide
  · have := (a j (by omega)).2
    have h9 : hig 98 (j : Int) = 9 := by unfold hig; rw [if_pos rfl, if_neg (by omega), if_neg (by omega)]
    omega
  · have := (d x 0 hx (by decide)).2
    have h9 : hig 97 ((0 : Nat) : Int) = 99 := by decide
    rw [h9] at this
    show R (63 + 3 * x + 0) ≤ 100
    omega
  · have := (d x 1 hx (by decide)).2
    have h9 : hig 97 ((1 : Nat) : Int) = 1 := by decide
    rw [h9] at this
    exact this
  · have := (b x 4 hx (by decide)).2
    have h9 : hig 99 ((4 : Nat) : Int) = 9 := by decide
    rw [h9] at this
    exact this
section P99c
variable {d : Nat} {ss : List (Nat × Nat)} {dd : Nat} {M : pz_M}
/-- the memory behind a new court -/
def opc (M : pz_M) : pz_M := pz_up (pz_up (pz_up (pz_cp (pz_up M 1 1 0) 5 10 0 0 144) 15 2 0) 0 12 0) 0 9 0
theorem opc_o {c : Nat} (h0 : c ≠ 0) (h1 : c ≠ 1) (h2 : c ≠ 10) (h3 : c ≠ 15) : opc M c = M c := by
  unfold opc
  funext z
  rw [up_at, if_neg (by omega), up_at, if_neg (by omega), up_at, if_neg (by omega)]
  unfold pz_cp
  rw [if_neg (by omega), up_at, if_neg (by omega)]
theorem opc_0 {j : Nat} (h0 : j ≠ 9) (h1 : j ≠ 12) : opc M 0 j = M 0 j := by
  unfold opc
  rw [up_at, if_neg (by omega), up_at, if_neg (by omega), up_at, if_neg (by omega)]
  unfold pz_cp
  rw [if_neg (by omega), up_at, if_neg (by omega)]
theorem opc_09 : opc M 0 9 = 0 := by unfold opc; rw [up_at, if_pos ⟨rfl, rfl⟩]
theorem opc_012 : opc M 0 12 = 0 := by unfold opc; rw [up_at, if_neg (by omega), up_at, if_pos ⟨rfl, rfl⟩]
theorem opc_1 {j : Nat} (h : j ≠ 1) : opc M 1 j = M 1 j := by
  unfold opc
  rw [up_at, if_neg (by omega), up_at, if_neg (by omega), up_at, if_neg (by omega)]
  unfold pz_cp
  rw [if_neg (by omega), up_at, if_neg (by omega)]
theorem opc_11 : opc M 1 1 = 0 := by
  unfold opc
  rw [up_at, if_neg (by omega), up_at, if_neg (by omega), up_at, if_neg (by omega)]
  unfold pz_cp
  rw [if_neg (by omega), up_at, if_pos ⟨rfl, rfl⟩]
theorem opc_10 {j : Nat} (h : j < 144) : opc M 10 j = M 5 j := by
  unfold opc
  rw [up_at, if_neg (by omega), up_at, if_neg (by omega), up_at, if_neg (by omega)]
  unfold pz_cp
  rw [if_pos ⟨rfl, by omega, by omega⟩, up_at, if_neg (by omega)]
  congr 1
  omega
theorem opc_15 {j : Nat} (h : j ≠ 2) : opc M 15 j = M 15 j := by
  unfold opc
  rw [up_at, if_neg (by omega), up_at, if_neg (by omega), up_at, if_neg (by omega)]
  unfold pz_cp
  rw [if_neg (by omega), up_at, if_neg (by omega)]
theorem opc_152 : opc M 15 2 = 0 := by unfold opc; rw [up_at, if_neg (by omega), up_at, if_neg (by omega), up_at, if_pos ⟨rfl, rfl⟩]
theorem Rf_opc (hR : Rf M) : Rf (opc M) := Rf_of hR (fun x hx => by
  have h1 : x.1 ≠ 10 ∧ (x.1 = 0 → x.2.1 ≠ 9 ∧ x.2.1 ≠ 12) ∧ (x.1 = 1 → x.2.1 ≠ 1) ∧ (x.1 = 15 → x.2.1 ≠ 2) := (by decide +kernel : ∀ x ∈ rf_L, x.1 ≠ 10 ∧ (x.1 = 0 → x.2.1 ≠ 9 ∧ x.2.1 ≠ 12) ∧ (x.1 = 1 → x.2.1 ≠ 1) ∧ (x.1 = 15 → x.2.1 ≠ 2)) x hx
  by_cases e : x.1 = 0
  · rw [e]; exact opc_0 (h1.2.1 e).1 (h1.2.1 e).2
  · by_cases e1 : x.1 = 1
    · rw [e1]; exact opc_1 (h1.2.2.1 e1)
    · by_cases e2 : x.1 = 15
      · rw [e2]; exact opc_15 (h1.2.2.2 e2)
      · rw [opc_o e e1 h1.1 e2])
set_option maxRecDepth 100000 in
theorem c_openCourt (hR : Rf M) (h1 : 0 ≤ M 1 1) : pz_cal (d + 3) 101 [(2, 0)] ((pz_SH, ss, 0, 0, dd), M) = some (some (0, M 5 141), ((pz_SH, ss, 0, 0, dd), opc M)) := by
  have e1 := c_Ta_cutTo (d := d + 1) (ss := ss) (dd := dd) (M := M) (n := 0)
  rw [if_pos ⟨by decide, h1⟩] at e1
  have hF2 : Pc M M := Pc_r
  have hR2 : Rf (pz_up M 1 1 0) := Rf_up hR (by decide +kernel)
  have e2 := c_draft (d := d + 1) (ss := ss) (dd := dd) hR2
  have e3 := c_Co_copy (d := d + 1) (ss := ss) (dd := dd) (M := pz_up M 1 1 0) (r := 9) (o := 4) g_9 (by show pz_sh _ (pz_up M 1 1 0 9 0) = _; rw [rf_9_0 hR2]; exact g_10) (by decide) (by show pz_up M 1 1 0 9 0 < 4096; rw [rf_9_0 hR2]; decide) g_4 (by show pz_sh _ (pz_up M 1 1 0 4 0) = _; rw [rf_4_0 hR2]; exact g_5) (by decide) (by show pz_up M 1 1 0 4 0 < 4096; rw [rf_4_0 hR2]; decide) (by decide)
  have e3 : pz_cal (d + 2) 10 [(2, 9), (2, 4)] ((pz_SH, ss, 0, 0, dd), pz_up M 1 1 0) = some (none, ((pz_SH, ss, 0, 0, dd), pz_cp (pz_up M 1 1 0) (pz_up M 1 1 0 4 0).toNat (pz_up M 1 1 0 9 0).toNat 0 0 144)) := e3
  rw [rf_4_0 hR2, rf_9_0 hR2] at e3
  have e3 : pz_cal (d + 2) 10 [(2, 9), (2, 4)] ((pz_SH, ss, 0, 0, dd), pz_up M 1 1 0) = some (none, ((pz_SH, ss, 0, 0, dd), pz_cp (pz_up M 1 1 0) 5 10 0 0 144)) := e3
  have hR3 : Rf (pz_cp (pz_up M 1 1 0) 5 10 0 0 144) := Rf_of hR2 (fun x hx => by
    have h1 : x.1 ≠ 10 := (by decide +kernel : ∀ x ∈ rf_L, x.1 ≠ 10) x hx
    unfold pz_cp
    rw [if_neg (fun h => h1 h.1)])
  have e4 := c_forget (d := d + 1) (ss := ss) (dd := dd) (M := pz_cp (pz_up M 1 1 0) 5 10 0 0 144)
  have hR6 : Rf (opc M) := Rf_opc hR
  have e5 := c_Co_cats (d := d + 1) (ss := ss) (dd := dd) (M := opc M) (r := 9) g_9 (by show pz_sh _ (opc M 9 0) = _; rw [rf_9_0 hR6]; exact g_10) (by decide)
  have e5 : pz_cal (d + 2) 4 [(2, 9)] ((pz_SH, ss, 0, 0, dd), opc M) = some (some (0, opc M (opc M 9 0).toNat 141), ((pz_SH, ss, 0, 0, dd), opc M)) := e5
  rw [rf_9_0 hR6] at e5
  have e5 : pz_cal (d + 2) 4 [(2, 9)] ((pz_SH, ss, 0, 0, dd), opc M) = some (some (0, opc M 10 141), ((pz_SH, ss, 0, 0, dd), opc M)) := e5
  rw [opc_10 (by decide)] at e5
  have hM6 : pz_up (pz_up (pz_up (pz_cp (pz_up M 1 1 0) 5 10 0 0 144) 15 2 0) 0 12 0) 0 9 0 = opc M := rfl
  have hR4 : Rf (pz_up (pz_cp (pz_up M 1 1 0) 5 10 0 0 144) 15 2 0) := Rf_up hR3 (by decide +kernel)
  generalize opc M = M6 at *
  generalize pz_up (pz_cp (pz_up M 1 1 0) 5 10 0 0 144) 15 2 0 = M4 at *
  generalize pz_cp (pz_up M 1 1 0) 5 10 0 0 144 = M3 at *
  generalize pz_up M 1 1 0 = M2 at *
  simp (maxSteps := 1000000) (disch := omega) only [↓reduceIte, sp_0, sp_s, Option.map_some, Option.map_none, Option.some.injEq, o_le, o_nle, o_lt, o_nlt, o_eq, o_neq, w32_id, up_at, nw_at, nw_s, k_CC_openCourt, px_iconst, px_bipush, px_sipush, px_ldc, px_ldc_w, px_lconst, px_ldc2_w, px_aconst_null, px_getstatic, px_iload_n, px_iload, px_lload_n, px_lload, px_aload_n, px_aload, px_istore_n, px_istore, px_astore_n, px_astore, px_lstore_n, px_lstore, px_iinc, px_iadd, px_isub, px_imul, px_iand, px_ior, px_ixor, px_ishl, px_ishr, px_iushr, px_ladd, px_lsub, px_lmul, px_land, px_lor, px_lcmp, px_lushr, px_lshl, px_ineg, px_i2l, px_l2i, px_idiv, px_irem, px_ldiv, px_lrem, px_dup0, px_pop0, px_dup2, px_pop2, px_dup2x, px_goto, px_if_eq, px_ic_eq, px_if_ne, px_ic_ne, px_if_lt, px_ic_lt, px_if_ge, px_ic_ge, px_if_gt, px_ic_gt, px_if_le, px_ic_le, px_ifnull, px_ifnonnull, px_lookupswitch, px_tableswitch, px_getfield, px_iaload, px_laload, px_caload, px_aaload, px_iastore, px_lastore, px_arraylength, px_putfield, px_ireturn, px_lreturn, px_areturn, px_return, px_iv0, px_is0, px_iv1, px_is1, px_iv2, px_is2, px_iv3, px_is3, px_iv4, px_is4, px_iv5, px_is5, px_iv6, px_is6, px_max, px_min, px_abs, px_maxJ, px_minJ, px_ii0, px_ii1, px_iio, px_copy, pz_cpk, pz_lk, pz_alk, pz_ask, pz_gfk, pz_lnk, pz_bx, pz_b, pz_z, pz_s1, pz_s2, pz_wt, pz_cmp, List.getElem?_cons_zero, List.getElem?_cons_succ, List.getElem?_nil, List.set_cons_zero, List.set_cons_succ, List.length_cons, List.length_nil, List.nil_append, List.cons_append, Option.toList_some, Option.toList_none, if_true, if_false, ite_true, ite_false, and_true, true_and, and_self, or_self, or_false, false_or, true_or, or_true, and_false, false_and, not_true_eq_false, not_false_eq_true, forall_const, ne_eq, reduceCtorEq, implies_true, false_implies, true_implies, Int.toNat_natCast, Nat.reduceAdd, Nat.reduceSub, Nat.reduceLT, Nat.reduceLeDiff, Nat.reduceEqDiff, Int.reduceLT, Int.reduceLE, Int.reduceToNat, Int.reduceNeg, Int.reduceEq, Int.reduceAdd, Nat.reduceMul, Int.reduceSub, Nat.reduceBEq, Int.reduceMul, Nat.add_zero, Nat.zero_add, Int.cast_ofNat_Int, Int.ofNat_eq_coe, decide_eq_true_eq, Nat.lt_irrefl, Nat.le_refl, List.getElem?_toArray, Option.elim_some, Option.elim_none, j_CC_openCourt_0, g_0, g_1, g_3, g_9, g_15, rf_0_0 hR, rf_0_6 hR2, rf_0_1 hR2, rf_0_10 hR3, rf_0_6 hR6, e1, e2, e3, e4, hM6, e5]
set_option maxRecDepth 100000 in
theorem c_tellLaw {t cn : Nat} (hR : Rf M) (ht : t < 4) (h4 : M 0 4 = (t : Int)) (h1 : 0 ≤ M 1 1) (h6 : M 6 2 = (cn : Int)) (hc : cn ≤ 240) : ∃ M', pz_cal (d + 3) 102 [(2, 0)] ((pz_SH, ss, 0, 0, dd), M) = some (some (0, (t : Int)), ((pz_SH, ss, 0, 0, dd), M')) ∧ M' 1 1 = 0 ∧ M' 0 4 = (t : Int) + 1 ∧ M' (135 + 3 * t) 1 = (cn : Int) ∧ (∀ i, i < cn → M' (136 + 3 * t) i = M 7 i) ∧ (∀ j, j ≠ 4 → M' 0 j = M 0 j) ∧ (∀ j, j ≠ 1 → M' 1 j = M 1 j) ∧ (∀ j, j ≠ 1 → M' (135 + 3 * t) j = M (135 + 3 * t) j) ∧ ∀ c, c ≠ 0 → c ≠ 1 → c ≠ 135 + 3 * t → c ≠ 136 + 3 * t → M' c = M c := by
  have e1 := c_Ta_cutTo (d := d + 1) (ss := ss) (dd := dd) (M := M) (n := 0)
  rw [if_pos ⟨by decide, h1⟩] at e1
  have hR2 : Rf (pz_up M 1 1 0) := Rf_up hR (by decide +kernel)
  have hr0 : pz_up M 1 1 0 (135 + 3 * t) 0 = ((136 + 3 * t : Nat) : Int) := (Lc_k (len := 0) (M := pz_up (pz_up M 1 1 0) (135 + 3 * t) 1 0) (Rf_of hR2 (fun x hx => by
    have h1 : (135 ≤ x.1 ∧ x.1 < 147 → x.2.1 ≠ 1) := (by decide +kernel : ∀ x ∈ rf_L, (135 ≤ x.1 ∧ x.1 < 147 → x.2.1 ≠ 1)) x hx
    rw [up_at, if_neg (fun h => h1 (by omega) h.2)])) ht (by rw [up_at, if_pos ⟨rfl, rfl⟩]; rfl) (by omega)).2.2.2.2.2.2.1 |> fun h => by rw [up_at, if_neg (by omega)] at h; exact h
  obtain ⟨M3, t3, a1, a2, a3, a4⟩ := c_learn (d := d) (ss := ss) (dd := dd) (M := pz_up M 1 1 0) (cn := cn) (Lsh_k (ss := ss) (dd := dd) ht) (by omega) hr0 hc
  have el := rf_laws hR2 ht
  have hR3 : Rf M3 := Rf_of hR2 (fun x hx => by
    have h1 : (135 ≤ x.1 ∧ x.1 < 147 → x.2.1 ≠ 1 ∧ x.1 % 3 = 0) := (by decide +kernel : ∀ x ∈ rf_L, (135 ≤ x.1 ∧ x.1 < 147 → x.2.1 ≠ 1 ∧ x.1 % 3 = 0)) x hx
    by_cases e : x.1 = 135 + 3 * t
    · rw [e]; exact a3 _ (h1 (by omega)).1
    · rw [a4 x.1 e (fun e2 => by have := (h1 (by omega)).2; omega)])
  have h62 : pz_up M 1 1 0 6 2 = (cn : Int) := by rw [up_at, if_neg (by omega)]; exact h6
  have h42 : pz_up M 1 1 0 0 4 = (t : Int) := by rw [up_at, if_neg (by omega)]; exact h4
  have h43 : M3 0 4 = (t : Int) := by rw [a4 0 (by omega) (by omega)]; exact h42
  have e4 : pz_cal (d + 2) 48 [(2, 6), (2, ((135 + 3 * t : Nat) : Int))] ((pz_SH, ss, 0, 0, dd), pz_up M 1 1 0) = some (none, ((pz_SH, ss, 0, 0, dd), M3)) := by
    have g : ∀ M', pz_sh ((pz_SH, ss, 0, 0, dd), M') ((135 + 3 * t : Nat) : Int) = some (3, 3) := (Lsh_k (ss := ss) (dd := dd) ht).1
    have g9 : (0 : Int) ≤ ((135 + 3 * t : Nat) : Int) ∧ ((135 + 3 * t : Nat) : Int) < 4096 := by omega
    generalize ((135 + 3 * t : Nat) : Int) = rr at *
    generalize pz_up M 1 1 0 = M2 at *
    simp (maxSteps := 1000000) (disch := omega) only [↓reduceIte, sp_0, sp_s, Option.map_some, Option.map_none, Option.some.injEq, o_le, o_nle, o_lt, o_nlt, o_eq, o_neq, w32_id, up_at, nw_at, nw_s, k_Lt_giveTo, px_iconst, px_bipush, px_sipush, px_ldc, px_ldc_w, px_lconst, px_ldc2_w, px_aconst_null, px_getstatic, px_iload_n, px_iload, px_lload_n, px_lload, px_aload_n, px_aload, px_istore_n, px_istore, px_astore_n, px_astore, px_lstore_n, px_lstore, px_iinc, px_iadd, px_isub, px_imul, px_iand, px_ior, px_ixor, px_ishl, px_ishr, px_iushr, px_ladd, px_lsub, px_lmul, px_land, px_lor, px_lcmp, px_lushr, px_lshl, px_ineg, px_i2l, px_l2i, px_idiv, px_irem, px_ldiv, px_lrem, px_dup0, px_pop0, px_dup2, px_pop2, px_dup2x, px_goto, px_if_eq, px_ic_eq, px_if_ne, px_ic_ne, px_if_lt, px_ic_lt, px_if_ge, px_ic_ge, px_if_gt, px_ic_gt, px_if_le, px_ic_le, px_ifnull, px_ifnonnull, px_lookupswitch, px_tableswitch, px_getfield, px_iaload, px_laload, px_caload, px_aaload, px_iastore, px_lastore, px_arraylength, px_putfield, px_ireturn, px_lreturn, px_areturn, px_return, px_iv0, px_is0, px_iv1, px_is1, px_iv2, px_is2, px_iv3, px_is3, px_iv4, px_is4, px_iv5, px_is5, px_iv6, px_is6, px_max, px_min, px_abs, px_maxJ, px_minJ, px_ii0, px_ii1, px_iio, px_copy, pz_cpk, pz_lk, pz_alk, pz_ask, pz_gfk, pz_lnk, pz_bx, pz_b, pz_z, pz_s1, pz_s2, pz_wt, pz_cmp, List.getElem?_cons_zero, List.getElem?_cons_succ, List.getElem?_nil, List.set_cons_zero, List.set_cons_succ, List.length_cons, List.length_nil, List.nil_append, List.cons_append, Option.toList_some, Option.toList_none, if_true, if_false, ite_true, ite_false, and_true, true_and, and_self, or_self, or_false, false_or, true_or, or_true, and_false, false_and, not_true_eq_false, not_false_eq_true, forall_const, ne_eq, reduceCtorEq, implies_true, false_implies, true_implies, Int.toNat_natCast, Nat.reduceAdd, Nat.reduceSub, Nat.reduceLT, Nat.reduceLeDiff, Nat.reduceEqDiff, Int.reduceLT, Int.reduceLE, Int.reduceToNat, Int.reduceNeg, Int.reduceEq, Int.reduceAdd, Nat.reduceMul, Int.reduceSub, Nat.reduceBEq, Int.reduceMul, Nat.add_zero, Nat.zero_add, Int.cast_ofNat_Int, Int.ofNat_eq_coe, decide_eq_true_eq, Nat.lt_irrefl, Nat.le_refl, List.getElem?_toArray, Option.elim_some, Option.elim_none, j_Lt_giveTo_0, j_Lt_giveTo_16, g_6, rf_6_1 hR2, h62, g, t3]
  have h44 : pz_up M3 0 4 ((t : Int) + 1) 0 4 = (t : Int) + 1 := by rw [up_at, if_pos ⟨rfl, rfl⟩]
  refine ⟨pz_up M3 0 4 ((t : Int) + 1), ?_, by rw [up_at, if_neg (by omega), a4 1 (by omega) (by omega), up_at, if_pos ⟨rfl, rfl⟩], h44, by rw [up_at, if_neg (by omega)]; exact a1, fun i hi => by rw [up_at, if_neg (by omega), a2 i hi, up_at, if_neg (by omega)], fun j hj => by rw [up_at, if_neg (by omega), a4 0 (by omega) (by omega), up_at, if_neg (by omega)], fun j hj => by rw [up_at, if_neg (by omega), a4 1 (by omega) (by omega), up_at, if_neg (by omega)], fun j hj => by rw [up_at, if_neg (by omega), a3 j hj, up_at, if_neg (by omega)], fun c x0 x1 x2 x3 => ?_⟩
  · have e9 : (t : Int) + 1 - 1 = (t : Int) := by omega
    rw [show ((135 + 3 * t : Nat) : Int) = 135 + 3 * (t : Int) by omega] at e4
    generalize hM4 : pz_up M3 0 4 ((t : Int) + 1) = M4 at *
    generalize pz_up M 1 1 0 = M2 at *
    simp (maxSteps := 1000000) (disch := omega) only [↓reduceIte, sp_0, sp_s, Option.map_some, Option.map_none, Option.some.injEq, o_le, o_nle, o_lt, o_nlt, o_eq, o_neq, w32_id, up_at, nw_at, nw_s, k_CC_tellLaw, px_iconst, px_bipush, px_sipush, px_ldc, px_ldc_w, px_lconst, px_ldc2_w, px_aconst_null, px_getstatic, px_iload_n, px_iload, px_lload_n, px_lload, px_aload_n, px_aload, px_istore_n, px_istore, px_astore_n, px_astore, px_lstore_n, px_lstore, px_iinc, px_iadd, px_isub, px_imul, px_iand, px_ior, px_ixor, px_ishl, px_ishr, px_iushr, px_ladd, px_lsub, px_lmul, px_land, px_lor, px_lcmp, px_lushr, px_lshl, px_ineg, px_i2l, px_l2i, px_idiv, px_irem, px_ldiv, px_lrem, px_dup0, px_pop0, px_dup2, px_pop2, px_dup2x, px_goto, px_if_eq, px_ic_eq, px_if_ne, px_ic_ne, px_if_lt, px_ic_lt, px_if_ge, px_ic_ge, px_if_gt, px_ic_gt, px_if_le, px_ic_le, px_ifnull, px_ifnonnull, px_lookupswitch, px_tableswitch, px_getfield, px_iaload, px_laload, px_caload, px_aaload, px_iastore, px_lastore, px_arraylength, px_putfield, px_ireturn, px_lreturn, px_areturn, px_return, px_iv0, px_is0, px_iv1, px_is1, px_iv2, px_is2, px_iv3, px_is3, px_iv4, px_is4, px_iv5, px_is5, px_iv6, px_is6, px_max, px_min, px_abs, px_maxJ, px_minJ, px_ii0, px_ii1, px_iio, px_copy, pz_cpk, pz_lk, pz_alk, pz_ask, pz_gfk, pz_lnk, pz_bx, pz_b, pz_z, pz_s1, pz_s2, pz_wt, pz_cmp, List.getElem?_cons_zero, List.getElem?_cons_succ, List.getElem?_nil, List.set_cons_zero, List.set_cons_succ, List.length_cons, List.length_nil, List.nil_append, List.cons_append, Option.toList_some, Option.toList_none, if_true, if_false, ite_true, ite_false, and_true, true_and, and_self, or_self, or_false, false_or, true_or, or_true, and_false, false_and, not_true_eq_false, not_false_eq_true, forall_const, ne_eq, reduceCtorEq, implies_true, false_implies, true_implies, Int.toNat_natCast, Nat.reduceAdd, Nat.reduceSub, Nat.reduceLT, Nat.reduceLeDiff, Nat.reduceEqDiff, Int.reduceLT, Int.reduceLE, Int.reduceToNat, Int.reduceNeg, Int.reduceEq, Int.reduceAdd, Nat.reduceMul, Int.reduceSub, Nat.reduceBEq, Int.reduceMul, Nat.add_zero, Nat.zero_add, Int.cast_ofNat_Int, Int.ofNat_eq_coe, decide_eq_true_eq, Nat.lt_irrefl, Nat.le_refl, List.getElem?_toArray, Option.elim_some, Option.elim_none, j_CC_tellLaw_0, j_CC_tellLaw_19, j_CC_tellLaw_21, g_0, g_1, g_6, g_8, rf_0_0 hR, rf_0_3 hR, rf_0_2 hR2, rf_0_3 hR2, h4, h42, e1, el, e4, h43, hM4, h44, e9]
  · funext z
    rw [up_at, if_neg (by omega), a4 c x2 x3, up_at, if_neg (by omega)]
theorem w_text (hs : SSh ss dd) (hJ : JJ M) {x : Int} : ∃ v M1 M2, pz_cal (d + 40) 100 [(2, 0), (0, x)] ((pz_SH, ss, 0, 0, dd), M) = some (some (0, v), ((pz_SH, ss, 0, 0, dd), M1)) ∧ pz_cal (d + 40) 214 [(2, 147), (0, x)] ((pz_SH, ss, 0, 0, dd), M1) = some (some (0, v), ((pz_SH, ss, 0, 0, dd), M2)) ∧ Ou M M1 ∧ JJ M2 ∧ Ou M M2 := by
  obtain ⟨hR, T, n, t, lws, h, R, nx, ln, H, G, sn, sc, sa, sd, im, I, N, jc, jr, jp⟩ := id hJ
  have t4 := jp.1
  by_cases g0 : x = 0
  · subst g0
    have k1 := c_ctread (d := d + 33) (ss := ss) (dd := dd) hs hR jc.2.2.1 jc.2.2.2.2.2.2.2.2.2.2
    match hz : gCt T n, k1 with
    | .inl z, k1 =>
      obtain ⟨M1, e1, f1, w1, re1, ci1, nz1, nz2⟩ := k1
      have e1 : pz_cal (d + 39) 21 [(2, 3)] ((pz_SH, ss, 0, 0, dd), M) = some (some (0, 1), ((pz_SH, ss, 0, 0, dd), M1)) := e1
      have hR1 := Rf_Pc hR f1
      have h11 : M1 1 1 = (n : Int) := by rw [f1.2.1 1 (by decide) (by decide)]; exact jc.2.2.1.1
      have e2 := c_openCourt (d := d + 36) (ss := ss) (dd := dd) hR1 (by rw [h11]; omega)
      have e2 : pz_cal (d + 39) 101 [(2, 0)] ((pz_SH, ss, 0, 0, dd), M1) = some (some (0, M1 5 141), ((pz_SH, ss, 0, 0, dd), opc M1)) := e2
      rw [re1 141 (by decide)] at e2
      have hR6 := Rf_opc hR1
      have o6 : ∀ c, c ≠ 0 → c ≠ 1 → c ≠ 3 → c ≠ 5 → c ≠ 10 → c ≠ 15 → opc M1 c = M c := fun c a b x y z w => (opc_o a b z w).trans (f1.1 c b x y)
      have v10 : ∀ j, j < 144 → opc M1 10 j = z.1 j := fun j hj => (opc_10 hj).trans (re1 j hj)
      have w0 : ∀ j, j ≠ 9 → j ≠ 12 → opc M1 0 j = M 0 j := fun j a b => (opc_0 a b).trans (by rw [f1.1 0 (by decide) (by decide) (by decide)])
      have w15 : opc M1 15 1 = M 15 1 := (opc_15 (by decide)).trans (by rw [f1.1 15 (by decide) (by decide) (by decide)])
      have x09 : opc M1 0 9 = 0 := opc_09
      have x012 : opc M1 0 12 = 0 := opc_012
      have x11 : opc M1 1 1 = 0 := opc_11
      have x152 : opc M1 15 2 = 0 := opc_152
      generalize opc M1 = M6 at *
      have j6 : JR M6 T n t lws h R ln G sn sc sa sd im N := JR_c jr (fun c a b => o6 c (by omega) (by omega) (by omega) (by omega) (by omega) (by omega))
      obtain ⟨M7, e7, f7, rm7⟩ := m_readCourt (d := d + 33) (ss := ss) (dd := dd) hR6 j6.1
      rw [hz] at e7 rm7
      have e7 : pz_cal (d + 39) 184 [(2, 147)] ((pz_SH, ss, 0, 0, dd), M6) = some (some (0, -1), ((pz_SH, ss, 0, 0, dd), M7)) := e7
      have rm7 := RM_7 (j := 2) (v := 0) (rm7 z rfl) (by decide)
      have hR7 := Rf_Pk hR6 f7
      have hR8 : Rf (pz_up M7 147 2 0) := Rf_up hR7 (by decide +kernel)
      obtain ⟨M9, e9, f9, sx9, nw9, s46, s36, s49, _⟩ := m_takeCourt (d := d + 38) (ss := ss) (dd := dd) hR8 rm7 ci1
      have e9 : pz_cal (d + 39) 215 [(2, 147)] ((pz_SH, ss, 0, 0, dd), pz_up M7 147 2 0) = some (some (0, z.1 141), ((pz_SH, ss, 0, 0, dd), M9)) := e9
      have hR9 : Rf M9 := Rf_tk hR8 (fun c a b x y z w => f9.1 c a (by omega)) f9.2
      have o9 : ∀ c, c ≠ 147 → c < 158 ∨ 165 < c → M9 c = M6 c := fun c a b => by rw [f9.1 c a (by omega), u7_c a, f7.1 c a (by omega) (by omega) (by omega)]
      have u7 : ∀ j, j = 13 ∨ j = 30 → M9 147 j = M 147 j := fun j hj => by rw [f9.2 j (by omega) (by omega) (by omega) (by omega) (by omega) (by omega), u7_o (by omega), f7.2 j (by omega) (by omega) (by omega) (by omega), o6 147 (by decide) (by decide) (by decide) (by decide) (by decide) (by decide)]
      have u2 : M9 147 2 = 0 := by rw [f9.2 2 (by decide) (by decide) (by decide) (by decide) (by decide) (by decide), up_at, if_pos ⟨rfl, rfl⟩]
      have o99 : ∀ c, c ≠ 0 → c ≠ 1 → c ≠ 3 → c ≠ 5 → c ≠ 10 → c ≠ 15 → c ≠ 147 → c < 158 ∨ 165 < c → M9 c = M c := fun c a b x y z w p q => (o9 c p q).trans (o6 c a b x y z w)
      have rz : z.1 143 ≤ 60 := (Gr2_CI ci1).1.2.2.2.2.2.2
      refine ⟨z.1 141, M6, M9, ?_, ?_, fun c hc => o6 c (by omega) (by omega) (by omega) (by omega) (by omega) (by omega), ⟨hR9, T, 0, t, lws, h, M6 10, nx, 0, H, G, 0, sc, sa, sd, 0, I, N, ?_, ?_, ⟨jp.1, jp.2.1, jp.2.2.1, Gr2_e (Gr2_CI ci1) v10, fun i hi => by omega, .inl rfl, fun q => by simp at q⟩⟩, fun c hc => o99 c (by omega) (by omega) (by omega) (by omega) (by omega) (by omega) (by omega) (by omega)⟩
      · generalize z.1 141 = zz at *
        simp (maxSteps := 1000000) (disch := omega) only [↓reduceIte, sp_0, sp_s, Option.map_some, Option.map_none, Option.some.injEq, o_le, o_nle, o_lt, o_nlt, o_eq, o_neq, w32_id, up_at, nw_at, nw_s, k_CC_text, px_iconst, px_bipush, px_sipush, px_ldc, px_ldc_w, px_lconst, px_ldc2_w, px_aconst_null, px_getstatic, px_iload_n, px_iload, px_lload_n, px_lload, px_aload_n, px_aload, px_istore_n, px_istore, px_astore_n, px_astore, px_lstore_n, px_lstore, px_iinc, px_iadd, px_isub, px_imul, px_iand, px_ior, px_ixor, px_ishl, px_ishr, px_iushr, px_ladd, px_lsub, px_lmul, px_land, px_lor, px_lcmp, px_lushr, px_lshl, px_ineg, px_i2l, px_l2i, px_idiv, px_irem, px_ldiv, px_lrem, px_dup0, px_pop0, px_dup2, px_pop2, px_dup2x, px_goto, px_if_eq, px_ic_eq, px_if_ne, px_ic_ne, px_if_lt, px_ic_lt, px_if_ge, px_ic_ge, px_if_gt, px_ic_gt, px_if_le, px_ic_le, px_ifnull, px_ifnonnull, px_lookupswitch, px_tableswitch, px_getfield, px_iaload, px_laload, px_caload, px_aaload, px_iastore, px_lastore, px_arraylength, px_putfield, px_ireturn, px_lreturn, px_areturn, px_return, px_iv0, px_is0, px_iv1, px_is1, px_iv2, px_is2, px_iv3, px_is3, px_iv4, px_is4, px_iv5, px_is5, px_iv6, px_is6, px_max, px_min, px_abs, px_maxJ, px_minJ, px_ii0, px_ii1, px_iio, px_copy, pz_cpk, pz_lk, pz_alk, pz_ask, pz_gfk, pz_lnk, pz_bx, pz_b, pz_z, pz_s1, pz_s2, pz_wt, pz_cmp, List.getElem?_cons_zero, List.getElem?_cons_succ, List.getElem?_nil, List.set_cons_zero, List.set_cons_succ, List.length_cons, List.length_nil, List.nil_append, List.cons_append, Option.toList_some, Option.toList_none, if_true, if_false, ite_true, ite_false, and_true, true_and, and_self, or_self, or_false, false_or, true_or, or_true, and_false, false_and, not_true_eq_false, not_false_eq_true, forall_const, ne_eq, reduceCtorEq, implies_true, false_implies, true_implies, Int.toNat_natCast, Nat.reduceAdd, Nat.reduceSub, Nat.reduceLT, Nat.reduceLeDiff, Nat.reduceEqDiff, Int.reduceLT, Int.reduceLE, Int.reduceToNat, Int.reduceNeg, Int.reduceEq, Int.reduceAdd, Nat.reduceMul, Int.reduceSub, Nat.reduceBEq, Int.reduceMul, Nat.add_zero, Nat.zero_add, Int.cast_ofNat_Int, Int.ofNat_eq_coe, decide_eq_true_eq, Nat.lt_irrefl, Nat.le_refl, List.getElem?_toArray, Option.elim_some, Option.elim_none, j_CC_text_0, j_CC_text_19, j_CC_text_47, g_0, g_3, rf_0_1 hR, e1, e2]
      · generalize z.1 141 = zz at *
        generalize hM8 : pz_up M7 147 2 0 = M8 at *
        simp (maxSteps := 1000000) (disch := omega) only [↓reduceIte, sp_0, sp_s, Option.map_some, Option.map_none, Option.some.injEq, o_le, o_nle, o_lt, o_nlt, o_eq, o_neq, w32_id, up_at, nw_at, nw_s, k_Mo_text, px_iconst, px_bipush, px_sipush, px_ldc, px_ldc_w, px_lconst, px_ldc2_w, px_aconst_null, px_getstatic, px_iload_n, px_iload, px_lload_n, px_lload, px_aload_n, px_aload, px_istore_n, px_istore, px_astore_n, px_astore, px_lstore_n, px_lstore, px_iinc, px_iadd, px_isub, px_imul, px_iand, px_ior, px_ixor, px_ishl, px_ishr, px_iushr, px_ladd, px_lsub, px_lmul, px_land, px_lor, px_lcmp, px_lushr, px_lshl, px_ineg, px_i2l, px_l2i, px_idiv, px_irem, px_ldiv, px_lrem, px_dup0, px_pop0, px_dup2, px_pop2, px_dup2x, px_goto, px_if_eq, px_ic_eq, px_if_ne, px_ic_ne, px_if_lt, px_ic_lt, px_if_ge, px_ic_ge, px_if_gt, px_ic_gt, px_if_le, px_ic_le, px_ifnull, px_ifnonnull, px_lookupswitch, px_tableswitch, px_getfield, px_iaload, px_laload, px_caload, px_aaload, px_iastore, px_lastore, px_arraylength, px_putfield, px_ireturn, px_lreturn, px_areturn, px_return, px_iv0, px_is0, px_iv1, px_is1, px_iv2, px_is2, px_iv3, px_is3, px_iv4, px_is4, px_iv5, px_is5, px_iv6, px_is6, px_max, px_min, px_abs, px_maxJ, px_minJ, px_ii0, px_ii1, px_iio, px_copy, pz_cpk, pz_lk, pz_alk, pz_ask, pz_gfk, pz_lnk, pz_bx, pz_b, pz_z, pz_s1, pz_s2, pz_wt, pz_cmp, List.getElem?_cons_zero, List.getElem?_cons_succ, List.getElem?_nil, List.set_cons_zero, List.set_cons_succ, List.length_cons, List.length_nil, List.nil_append, List.cons_append, Option.toList_some, Option.toList_none, if_true, if_false, ite_true, ite_false, and_true, true_and, and_self, or_self, or_false, false_or, true_or, or_true, and_false, false_and, not_true_eq_false, not_false_eq_true, forall_const, ne_eq, reduceCtorEq, implies_true, false_implies, true_implies, Int.toNat_natCast, Nat.reduceAdd, Nat.reduceSub, Nat.reduceLT, Nat.reduceLeDiff, Nat.reduceEqDiff, Int.reduceLT, Int.reduceLE, Int.reduceToNat, Int.reduceNeg, Int.reduceEq, Int.reduceAdd, Nat.reduceMul, Int.reduceSub, Nat.reduceBEq, Int.reduceMul, Nat.add_zero, Nat.zero_add, Int.cast_ofNat_Int, Int.ofNat_eq_coe, decide_eq_true_eq, Nat.lt_irrefl, Nat.le_refl, List.getElem?_toArray, Option.elim_some, Option.elim_none, j_Mo_text_0, j_Mo_text_22, j_Mo_text_69, g_147, e7, hM8, e9]
      · have m0 : M9 0 = M6 0 := o9 0 (by decide) (by decide)
        have m1 : M9 1 = M6 1 := o9 1 (by decide) (by decide)
        have m15 : M9 15 = M6 15 := o9 15 (by decide) (by decide)
        have o3 : ∀ c, c = 2 ∨ 16 ≤ c ∧ (c < 147 ∨ 178 ≤ c) → M9 c = M c := fun c hc => o99 c (by omega) (by omega) (by omega) (by omega) (by omega) (by omega) (by omega) (by omega)
        exact JC_k jc jp.1 (fun c hc _ => o3 c (by omega)) (Z0_o jc.1 (fun c hc => o3 c (by omega))) (o9 10 (by decide) (by decide)) ⟨by rw [m1]; exact x11, by omega, fun i hi => by omega⟩ (by rw [m0]; exact w0 4 (by decide) (by decide)) (by rw [m0]; exact w0 5 (by decide) (by decide)) ⟨by rw [m15, w15]; exact jc.2.2.2.2.2.2.1.1, jc.2.2.2.2.2.2.1.2.1, by rw [m15]; exact x152, by omega, fun i hi => by omega⟩ ⟨by rw [m0]; exact x012, by omega, fun i hi => by omega⟩ (by rw [m0]; exact x09) (fun q => by simp at q)
      · exact JR_k jr (fun c h1 h2 => o99 c (by omega) (by omega) (by omega) (by omega) (by omega) (by omega) (by omega) (by omega)) ⟨u2, by omega, fun i hi => by omega⟩ (u7 13 (.inl rfl)) (u7 30 (.inr rfl)) (Sx_St sx9 (St_e v10)) (Nw_R nw9 rz v10) ⟨s36, by omega, fun i hi => by omega⟩ ⟨s46, by omega, fun i hi => by omega⟩ s49 (fun q => by simp at q)
    | .inr w, k1 =>
      obtain ⟨M1, e1, f1, w1⟩ := k1
      have e1 : pz_cal (d + 39) 21 [(2, 3)] ((pz_SH, ss, 0, 0, dd), M) = some (some (0, 0), ((pz_SH, ss, 0, 0, dd), M1)) := e1
      have hR1 := Rf_Pc hR f1
      have o1 : ∀ c, c ≠ 1 → c ≠ 3 → c ≠ 5 → M1 c = M c := f1.1
      have j1 : JR M1 T n t lws h R ln G sn sc sa sd im N := JR_c jr (fun x a b => o1 x (by omega) (by omega) (by omega))
      obtain ⟨M2, e3, f3, _⟩ := m_readCourt (d := d + 33) (ss := ss) (dd := dd) hR1 j1.1
      rw [hz] at e3
      have e3 : pz_cal (d + 39) 184 [(2, 147)] ((pz_SH, ss, 0, 0, dd), M1) = some (some (0, (w : Int)), ((pz_SH, ss, 0, 0, dd), M2)) := e3
      have o2 : ∀ c, c ≠ 1 → c ≠ 3 → c ≠ 5 → c ≠ 147 → c ≠ 158 → c ≠ 159 → c ≠ 160 → M2 c = M c := fun c a b x y z w u => (f3.1 c y z w u).trans (o1 c a b x)
      have m1 : M2 1 1 = M 1 1 := by rw [f3.1 1 (by decide) (by decide) (by decide) (by decide)]; exact f1.2.1 1 (by decide) (by decide)
      have u7 : ∀ j, j ≠ 3 → j ≠ 4 → j ≠ 20 → j ≠ 21 → M2 147 j = M 147 j := fun j a b x y => by rw [f3.2 j a b x y, o1 147 (by decide) (by decide) (by decide)]
      refine ⟨-1, M1, M2, ?_, ?_, fun c hc => o1 c (by omega) (by omega) (by omega), ⟨Rf_Pk hR1 f3, T, n, t, lws, h, R, nx, ln, H, G, sn, sc, sa, sd, im, I, N, ?_, ?_, jp⟩, fun x hx => o2 x (by omega) (by omega) (by omega) (by omega) (by omega) (by omega) (by omega)⟩
      · simp (maxSteps := 1000000) (disch := omega) only [↓reduceIte, sp_0, sp_s, Option.map_some, Option.map_none, Option.some.injEq, o_le, o_nle, o_lt, o_nlt, o_eq, o_neq, w32_id, up_at, nw_at, nw_s, k_CC_text, px_iconst, px_bipush, px_sipush, px_ldc, px_ldc_w, px_lconst, px_ldc2_w, px_aconst_null, px_getstatic, px_iload_n, px_iload, px_lload_n, px_lload, px_aload_n, px_aload, px_istore_n, px_istore, px_astore_n, px_astore, px_lstore_n, px_lstore, px_iinc, px_iadd, px_isub, px_imul, px_iand, px_ior, px_ixor, px_ishl, px_ishr, px_iushr, px_ladd, px_lsub, px_lmul, px_land, px_lor, px_lcmp, px_lushr, px_lshl, px_ineg, px_i2l, px_l2i, px_idiv, px_irem, px_ldiv, px_lrem, px_dup0, px_pop0, px_dup2, px_pop2, px_dup2x, px_goto, px_if_eq, px_ic_eq, px_if_ne, px_ic_ne, px_if_lt, px_ic_lt, px_if_ge, px_ic_ge, px_if_gt, px_ic_gt, px_if_le, px_ic_le, px_ifnull, px_ifnonnull, px_lookupswitch, px_tableswitch, px_getfield, px_iaload, px_laload, px_caload, px_aaload, px_iastore, px_lastore, px_arraylength, px_putfield, px_ireturn, px_lreturn, px_areturn, px_return, px_iv0, px_is0, px_iv1, px_is1, px_iv2, px_is2, px_iv3, px_is3, px_iv4, px_is4, px_iv5, px_is5, px_iv6, px_is6, px_max, px_min, px_abs, px_maxJ, px_minJ, px_ii0, px_ii1, px_iio, px_copy, pz_cpk, pz_lk, pz_alk, pz_ask, pz_gfk, pz_lnk, pz_bx, pz_b, pz_z, pz_s1, pz_s2, pz_wt, pz_cmp, List.getElem?_cons_zero, List.getElem?_cons_succ, List.getElem?_nil, List.set_cons_zero, List.set_cons_succ, List.length_cons, List.length_nil, List.nil_append, List.cons_append, Option.toList_some, Option.toList_none, if_true, if_false, ite_true, ite_false, and_true, true_and, and_self, or_self, or_false, false_or, true_or, or_true, and_false, false_and, not_true_eq_false, not_false_eq_true, forall_const, ne_eq, reduceCtorEq, implies_true, false_implies, true_implies, Int.toNat_natCast, Nat.reduceAdd, Nat.reduceSub, Nat.reduceLT, Nat.reduceLeDiff, Nat.reduceEqDiff, Int.reduceLT, Int.reduceLE, Int.reduceToNat, Int.reduceNeg, Int.reduceEq, Int.reduceAdd, Nat.reduceMul, Int.reduceSub, Nat.reduceBEq, Int.reduceMul, Nat.add_zero, Nat.zero_add, Int.cast_ofNat_Int, Int.ofNat_eq_coe, decide_eq_true_eq, Nat.lt_irrefl, Nat.le_refl, List.getElem?_toArray, Option.elim_some, Option.elim_none, j_CC_text_0, j_CC_text_19, j_CC_text_47, g_0, g_3, rf_0_1 hR, e1]
      · simp (maxSteps := 1000000) (disch := omega) only [↓reduceIte, sp_0, sp_s, Option.map_some, Option.map_none, Option.some.injEq, o_le, o_nle, o_lt, o_nlt, o_eq, o_neq, w32_id, up_at, nw_at, nw_s, k_Mo_text, px_iconst, px_bipush, px_sipush, px_ldc, px_ldc_w, px_lconst, px_ldc2_w, px_aconst_null, px_getstatic, px_iload_n, px_iload, px_lload_n, px_lload, px_aload_n, px_aload, px_istore_n, px_istore, px_astore_n, px_astore, px_lstore_n, px_lstore, px_iinc, px_iadd, px_isub, px_imul, px_iand, px_ior, px_ixor, px_ishl, px_ishr, px_iushr, px_ladd, px_lsub, px_lmul, px_land, px_lor, px_lcmp, px_lushr, px_lshl, px_ineg, px_i2l, px_l2i, px_idiv, px_irem, px_ldiv, px_lrem, px_dup0, px_pop0, px_dup2, px_pop2, px_dup2x, px_goto, px_if_eq, px_ic_eq, px_if_ne, px_ic_ne, px_if_lt, px_ic_lt, px_if_ge, px_ic_ge, px_if_gt, px_ic_gt, px_if_le, px_ic_le, px_ifnull, px_ifnonnull, px_lookupswitch, px_tableswitch, px_getfield, px_iaload, px_laload, px_caload, px_aaload, px_iastore, px_lastore, px_arraylength, px_putfield, px_ireturn, px_lreturn, px_areturn, px_return, px_iv0, px_is0, px_iv1, px_is1, px_iv2, px_is2, px_iv3, px_is3, px_iv4, px_is4, px_iv5, px_is5, px_iv6, px_is6, px_max, px_min, px_abs, px_maxJ, px_minJ, px_ii0, px_ii1, px_iio, px_copy, pz_cpk, pz_lk, pz_alk, pz_ask, pz_gfk, pz_lnk, pz_bx, pz_b, pz_z, pz_s1, pz_s2, pz_wt, pz_cmp, List.getElem?_cons_zero, List.getElem?_cons_succ, List.getElem?_nil, List.set_cons_zero, List.set_cons_succ, List.length_cons, List.length_nil, List.nil_append, List.cons_append, Option.toList_some, Option.toList_none, if_true, if_false, ite_true, ite_false, and_true, true_and, and_self, or_self, or_false, false_or, true_or, or_true, and_false, false_and, not_true_eq_false, not_false_eq_true, forall_const, ne_eq, reduceCtorEq, implies_true, false_implies, true_implies, Int.toNat_natCast, Nat.reduceAdd, Nat.reduceSub, Nat.reduceLT, Nat.reduceLeDiff, Nat.reduceEqDiff, Int.reduceLT, Int.reduceLE, Int.reduceToNat, Int.reduceNeg, Int.reduceEq, Int.reduceAdd, Nat.reduceMul, Int.reduceSub, Nat.reduceBEq, Int.reduceMul, Nat.add_zero, Nat.zero_add, Int.cast_ofNat_Int, Int.ofNat_eq_coe, decide_eq_true_eq, Nat.lt_irrefl, Nat.le_refl, List.getElem?_toArray, Option.elim_some, Option.elim_none, j_Mo_text_0, j_Mo_text_22, j_Mo_text_69, g_147, e3]
      · have o3 : ∀ c, c = 0 ∨ c = 2 ∨ 6 ≤ c ∧ (c < 147 ∨ 178 ≤ c) → M2 c = M c := fun c hc => o2 c (by omega) (by omega) (by omega) (by omega) (by omega) (by omega) (by omega)
        exact JC_k jc jp.1 (fun c hc _ => o3 c (by omega)) (Z0_o jc.1 (fun c hc => o3 c (by omega))) ((o3 10 (by decide)).trans jc.2.1) (TC_o jc.2.2.1 m1 (o3 2 (by decide))) (by rw [o3 0 (by decide)]) (by rw [o3 0 (by decide)]) (Ps_o jc.2.2.2.2.2.2.1 (o3 15 (by decide)) (fun c h1 h2 => o3 c (by omega))) (Se_o jc.2.2.2.2.2.2.2.1 (by rw [o3 0 (by decide)]) (o3 97 (by decide))) (by rw [o3 0 (by decide)]; exact jc.2.2.2.2.2.2.2.2.1) (by rw [o3 14 (by decide)]; exact jc.2.2.2.2.2.2.2.2.2.1)
      · have o4 : ∀ c, 148 ≤ c → c < 158 ∨ 160 < c → M2 c = M c := fun c a b => o2 c (by omega) (by omega) (by omega) (by omega) (by omega) (by omega) (by omega)
        exact JR_k jr (fun c h1 h2 => o4 c (by omega) (by omega)) (TR_o jr.1 (u7 2 (by decide) (by decide) (by decide) (by decide)) (o4 148 (by decide) (by decide))) (u7 13 (by decide) (by decide) (by decide) (by decide)) (u7 30 (by decide) (by decide) (by decide) (by decide)) (Sx_o jr.2.2.2.2.1 (fun j h1 h2 => u7 j (by omega) (by omega) (by omega) (by omega)) (fun c h1 h2 => o4 c (by omega) (by omega))) (by rw [o4 165 (by decide) (by decide)]; exact jr.2.2.2.2.2.1) (Pm_fr jr.2.2.2.2.2.2.1 (u7 36 (by decide) (by decide) (by decide) (by decide)) (o4 169 (by decide) (by decide))) (Sm_o jr.2.2.2.2.2.2.2.1 (u7 46 (by decide) (by decide) (by decide) (by decide)) (fun c h1 h2 => o4 c (by omega) (by omega))) ((u7 49 (by decide) (by decide) (by decide) (by decide)).trans jr.2.2.2.2.2.2.2.2.1) (by rw [o4 177 (by decide) (by decide)]; exact jr.2.2.2.2.2.2.2.2.2)
  · by_cases g1 : x = 1
    · subst g1
      have h04 := jc.2.2.2.1
      have h713 := jr.2.1
      by_cases g4 : t = 4
      · subst g4
        refine ⟨-1, M, M, ?_, ?_, Ou_r, hJ, Ou_r⟩
        · simp (maxSteps := 1000000) (disch := omega) only [↓reduceIte, sp_0, sp_s, Option.map_some, Option.map_none, Option.some.injEq, o_le, o_nle, o_lt, o_nlt, o_eq, o_neq, w32_id, up_at, nw_at, nw_s, k_CC_text, px_iconst, px_bipush, px_sipush, px_ldc, px_ldc_w, px_lconst, px_ldc2_w, px_aconst_null, px_getstatic, px_iload_n, px_iload, px_lload_n, px_lload, px_aload_n, px_aload, px_istore_n, px_istore, px_astore_n, px_astore, px_lstore_n, px_lstore, px_iinc, px_iadd, px_isub, px_imul, px_iand, px_ior, px_ixor, px_ishl, px_ishr, px_iushr, px_ladd, px_lsub, px_lmul, px_land, px_lor, px_lcmp, px_lushr, px_lshl, px_ineg, px_i2l, px_l2i, px_idiv, px_irem, px_ldiv, px_lrem, px_dup0, px_pop0, px_dup2, px_pop2, px_dup2x, px_goto, px_if_eq, px_ic_eq, px_if_ne, px_ic_ne, px_if_lt, px_ic_lt, px_if_ge, px_ic_ge, px_if_gt, px_ic_gt, px_if_le, px_ic_le, px_ifnull, px_ifnonnull, px_lookupswitch, px_tableswitch, px_getfield, px_iaload, px_laload, px_caload, px_aaload, px_iastore, px_lastore, px_arraylength, px_putfield, px_ireturn, px_lreturn, px_areturn, px_return, px_iv0, px_is0, px_iv1, px_is1, px_iv2, px_is2, px_iv3, px_is3, px_iv4, px_is4, px_iv5, px_is5, px_iv6, px_is6, px_max, px_min, px_abs, px_maxJ, px_minJ, px_ii0, px_ii1, px_iio, px_copy, pz_cpk, pz_lk, pz_alk, pz_ask, pz_gfk, pz_lnk, pz_bx, pz_b, pz_z, pz_s1, pz_s2, pz_wt, pz_cmp, List.getElem?_cons_zero, List.getElem?_cons_succ, List.getElem?_nil, List.set_cons_zero, List.set_cons_succ, List.length_cons, List.length_nil, List.nil_append, List.cons_append, Option.toList_some, Option.toList_none, if_true, if_false, ite_true, ite_false, and_true, true_and, and_self, or_self, or_false, false_or, true_or, or_true, and_false, false_and, not_true_eq_false, not_false_eq_true, forall_const, ne_eq, reduceCtorEq, implies_true, false_implies, true_implies, Int.toNat_natCast, Nat.reduceAdd, Nat.reduceSub, Nat.reduceLT, Nat.reduceLeDiff, Nat.reduceEqDiff, Int.reduceLT, Int.reduceLE, Int.reduceToNat, Int.reduceNeg, Int.reduceEq, Int.reduceAdd, Nat.reduceMul, Int.reduceSub, Nat.reduceBEq, Int.reduceMul, Nat.add_zero, Nat.zero_add, Int.cast_ofNat_Int, Int.ofNat_eq_coe, decide_eq_true_eq, Nat.lt_irrefl, Nat.le_refl, List.getElem?_toArray, Option.elim_some, Option.elim_none, j_CC_text_0, j_CC_text_19, j_CC_text_47, g_0, h04]
        · simp (maxSteps := 1000000) (disch := omega) only [↓reduceIte, sp_0, sp_s, Option.map_some, Option.map_none, Option.some.injEq, o_le, o_nle, o_lt, o_nlt, o_eq, o_neq, w32_id, up_at, nw_at, nw_s, k_Mo_text, px_iconst, px_bipush, px_sipush, px_ldc, px_ldc_w, px_lconst, px_ldc2_w, px_aconst_null, px_getstatic, px_iload_n, px_iload, px_lload_n, px_lload, px_aload_n, px_aload, px_istore_n, px_istore, px_astore_n, px_astore, px_lstore_n, px_lstore, px_iinc, px_iadd, px_isub, px_imul, px_iand, px_ior, px_ixor, px_ishl, px_ishr, px_iushr, px_ladd, px_lsub, px_lmul, px_land, px_lor, px_lcmp, px_lushr, px_lshl, px_ineg, px_i2l, px_l2i, px_idiv, px_irem, px_ldiv, px_lrem, px_dup0, px_pop0, px_dup2, px_pop2, px_dup2x, px_goto, px_if_eq, px_ic_eq, px_if_ne, px_ic_ne, px_if_lt, px_ic_lt, px_if_ge, px_ic_ge, px_if_gt, px_ic_gt, px_if_le, px_ic_le, px_ifnull, px_ifnonnull, px_lookupswitch, px_tableswitch, px_getfield, px_iaload, px_laload, px_caload, px_aaload, px_iastore, px_lastore, px_arraylength, px_putfield, px_ireturn, px_lreturn, px_areturn, px_return, px_iv0, px_is0, px_iv1, px_is1, px_iv2, px_is2, px_iv3, px_is3, px_iv4, px_is4, px_iv5, px_is5, px_iv6, px_is6, px_max, px_min, px_abs, px_maxJ, px_minJ, px_ii0, px_ii1, px_iio, px_copy, pz_cpk, pz_lk, pz_alk, pz_ask, pz_gfk, pz_lnk, pz_bx, pz_b, pz_z, pz_s1, pz_s2, pz_wt, pz_cmp, List.getElem?_cons_zero, List.getElem?_cons_succ, List.getElem?_nil, List.set_cons_zero, List.set_cons_succ, List.length_cons, List.length_nil, List.nil_append, List.cons_append, Option.toList_some, Option.toList_none, if_true, if_false, ite_true, ite_false, and_true, true_and, and_self, or_self, or_false, false_or, true_or, or_true, and_false, false_and, not_true_eq_false, not_false_eq_true, forall_const, ne_eq, reduceCtorEq, implies_true, false_implies, true_implies, Int.toNat_natCast, Nat.reduceAdd, Nat.reduceSub, Nat.reduceLT, Nat.reduceLeDiff, Nat.reduceEqDiff, Int.reduceLT, Int.reduceLE, Int.reduceToNat, Int.reduceNeg, Int.reduceEq, Int.reduceAdd, Nat.reduceMul, Int.reduceSub, Nat.reduceBEq, Int.reduceMul, Nat.add_zero, Nat.zero_add, Int.cast_ofNat_Int, Int.ofNat_eq_coe, decide_eq_true_eq, Nat.lt_irrefl, Nat.le_refl, List.getElem?_toArray, Option.elim_some, Option.elim_none, j_Mo_text_0, j_Mo_text_22, j_Mo_text_69, g_147, h713]
      · have t3 : t < 4 := by omega
        have k1 := c_lread (d := d + 5) (ss := ss) (dd := dd) (fun M' => (hs M').2.2.2.2.2.2.2.2.2) hR jc.2.2.1 jc.2.2.2.2.2.2.2.2.2.2.2.2.2.2.2.2
        match hz : gLw T n, k1 with
        | .inl z, k1 =>
          obtain ⟨M1, e1, f1, w1, l1, l2, l3⟩ := k1
          have e1 : pz_cal (d + 39) 35 [(2, 6)] ((pz_SH, ss, 0, 0, dd), M) = some (some (0, 1), ((pz_SH, ss, 0, 0, dd), M1)) := e1
          have hR1 := Rf_Pf hR f1
          have o1 : ∀ c, c ≠ 1 → c ≠ 6 → c ≠ 7 → M1 c = M c := f1.1
          have h11 : M1 1 1 = (n : Int) := by rw [f1.2.1 1 (by decide) (by decide)]; exact jc.2.2.1.1
          have h14 : M1 0 4 = (t : Int) := by rw [o1 0 (by decide) (by decide) (by decide)]; exact h04
          obtain ⟨M2, e2, a1, a2, a3, a4, a5, a6, a7, a8⟩ := c_tellLaw (d := d + 36) (ss := ss) (dd := dd) hR1 t3 h14 (by rw [h11]; omega) l1 l2
          have e2 : pz_cal (d + 39) 102 [(2, 0)] ((pz_SH, ss, 0, 0, dd), M1) = some (some (0, (t : Int)), ((pz_SH, ss, 0, 0, dd), M2)) := e2
          have hR2 : Rf M2 := Rf_of hR1 (fun x hx => by
            have h1 : (135 ≤ x.1 ∧ x.1 < 147 → x.2.1 ≠ 1 ∧ x.1 % 3 = 0) ∧ (x.1 = 0 → x.2.1 ≠ 4) ∧ (x.1 = 1 → x.2.1 ≠ 1) := (by decide +kernel : ∀ x ∈ rf_L, (135 ≤ x.1 ∧ x.1 < 147 → x.2.1 ≠ 1 ∧ x.1 % 3 = 0) ∧ (x.1 = 0 → x.2.1 ≠ 4) ∧ (x.1 = 1 → x.2.1 ≠ 1)) x hx
            by_cases e : x.1 = 135 + 3 * t
            · rw [e]; exact a7 _ (h1.1 (by omega)).1
            · by_cases e0 : x.1 = 0
              · rw [e0]; exact a5 _ (h1.2.1 e0)
              · by_cases e1 : x.1 = 1
                · rw [e1]; exact a6 _ (h1.2.2 e1)
                · rw [a8 x.1 e0 e1 e (fun e2 => by have := (h1.1 (by omega)).2; omega)])
          have o2 : ∀ c, c ≠ 0 → c ≠ 1 → c ≠ 6 → c ≠ 7 → c ≠ 135 + 3 * t → c ≠ 136 + 3 * t → M2 c = M c := fun c a b x y z w => (a8 c a b z w).trans (o1 c b x y)
          have lc2 : LRc M2 t z.1 := ⟨a3, l2, fun i u hu => by
            have hi : i < (csl 0 z.1).length := by
              by_cases q : i < (csl 0 z.1).length
              · exact q
              · rw [List.getElem?_eq_none (by omega)] at hu; simp at hu
            rw [a4 i hi]; exact l3 i u hu⟩
          have j2 : JR M2 T n t lws h R ln G sn sc sa sd im N := JR_c jr (fun c a b => o2 c (by omega) (by omega) (by omega) (by omega) (by omega) (by omega))
          obtain ⟨M3, e3, f3, lr3⟩ := m_readLaw (d := d + 2) (ss := ss) (dd := dd) (t := t) hR2 j2.1 (by omega)
          rw [hz] at e3 lr3
          have e3 : pz_cal (d + 39) 196 [(2, 147), (0, (t : Int))] ((pz_SH, ss, 0, 0, dd), M2) = some (some (0, -1), ((pz_SH, ss, 0, 0, dd), M3)) := e3
          have lr3 := lr3 z rfl
          have hR3 := Rf_Pl hR2 f3
          have u2 : M2 147 13 = (t : Int) := j2.2.1
          have u3 : pz_up M3 147 2 0 147 13 = (t : Int) := by rw [u7_o (by decide), f3.2.1 13 (by decide) (by decide) (by decide) (by decide)]; exact u2
          have u4 : pz_up (pz_up M3 147 2 0) 147 13 ((t : Int) + 1) 147 13 = (t : Int) + 1 := by rw [up_at, if_pos ⟨rfl, rfl⟩]
          have hR4 : Rf (pz_up (pz_up M3 147 2 0) 147 13 ((t : Int) + 1)) := Rf_up (Rf_up hR3 (by decide +kernel)) (by decide +kernel)
          have o4 : ∀ c, c ≠ 147 → pz_up (pz_up M3 147 2 0) 147 13 ((t : Int) + 1) c = M3 c := fun c hc => by rw [u7_c hc, u7_c hc]
          have u7 : ∀ j, j ≠ 2 → j ≠ 13 → j ≠ 3 → j ≠ 4 → j ≠ 5 → j ≠ 14 → pz_up (pz_up M3 147 2 0) 147 13 ((t : Int) + 1) 147 j = M 147 j := fun j a b x y z w => by rw [u7_o b, u7_o a, f3.2.1 j x y z w, o2 147 (by decide) (by decide) (by decide) (by decide) (by omega) (by omega)]
          have u72 : pz_up (pz_up M3 147 2 0) 147 13 ((t : Int) + 1) 147 2 = 0 := by rw [u7_o (by decide), up_at, if_pos ⟨rfl, rfl⟩]
          have o5 : ∀ c, c ≠ 147 → (c < 149 ∨ 155 < c) → pz_up (pz_up M3 147 2 0) 147 13 ((t : Int) + 1) c = M2 c := fun c a b => (o4 c a).trans (f3.1 c a b)
          refine ⟨(t : Int), M2, pz_up (pz_up M3 147 2 0) 147 13 ((t : Int) + 1), ?_, ?_, fun c hc => o2 c (by omega) (by omega) (by omega) (by omega) (by omega) (by omega), ⟨hR4, T, 0, t + 1, (fun k => if k = t then z.1 else lws k), h, R, nx, ln, H, G, sn, sc, sa, sd, im, I, N, ?_, ?_, ⟨by omega, fun k hk => ?_, ?_, jp.2.2.2⟩⟩, fun c hc => (o5 c (by omega) (by omega)).trans (o2 c (by omega) (by omega) (by omega) (by omega) (by omega) (by omega))⟩
          · simp (maxSteps := 1000000) (disch := omega) only [↓reduceIte, sp_0, sp_s, Option.map_some, Option.map_none, Option.some.injEq, o_le, o_nle, o_lt, o_nlt, o_eq, o_neq, w32_id, up_at, nw_at, nw_s, k_CC_text, px_iconst, px_bipush, px_sipush, px_ldc, px_ldc_w, px_lconst, px_ldc2_w, px_aconst_null, px_getstatic, px_iload_n, px_iload, px_lload_n, px_lload, px_aload_n, px_aload, px_istore_n, px_istore, px_astore_n, px_astore, px_lstore_n, px_lstore, px_iinc, px_iadd, px_isub, px_imul, px_iand, px_ior, px_ixor, px_ishl, px_ishr, px_iushr, px_ladd, px_lsub, px_lmul, px_land, px_lor, px_lcmp, px_lushr, px_lshl, px_ineg, px_i2l, px_l2i, px_idiv, px_irem, px_ldiv, px_lrem, px_dup0, px_pop0, px_dup2, px_pop2, px_dup2x, px_goto, px_if_eq, px_ic_eq, px_if_ne, px_ic_ne, px_if_lt, px_ic_lt, px_if_ge, px_ic_ge, px_if_gt, px_ic_gt, px_if_le, px_ic_le, px_ifnull, px_ifnonnull, px_lookupswitch, px_tableswitch, px_getfield, px_iaload, px_laload, px_caload, px_aaload, px_iastore, px_lastore, px_arraylength, px_putfield, px_ireturn, px_lreturn, px_areturn, px_return, px_iv0, px_is0, px_iv1, px_is1, px_iv2, px_is2, px_iv3, px_is3, px_iv4, px_is4, px_iv5, px_is5, px_iv6, px_is6, px_max, px_min, px_abs, px_maxJ, px_minJ, px_ii0, px_ii1, px_iio, px_copy, pz_cpk, pz_lk, pz_alk, pz_ask, pz_gfk, pz_lnk, pz_bx, pz_b, pz_z, pz_s1, pz_s2, pz_wt, pz_cmp, List.getElem?_cons_zero, List.getElem?_cons_succ, List.getElem?_nil, List.set_cons_zero, List.set_cons_succ, List.length_cons, List.length_nil, List.nil_append, List.cons_append, Option.toList_some, Option.toList_none, if_true, if_false, ite_true, ite_false, and_true, true_and, and_self, or_self, or_false, false_or, true_or, or_true, and_false, false_and, not_true_eq_false, not_false_eq_true, forall_const, ne_eq, reduceCtorEq, implies_true, false_implies, true_implies, Int.toNat_natCast, Nat.reduceAdd, Nat.reduceSub, Nat.reduceLT, Nat.reduceLeDiff, Nat.reduceEqDiff, Int.reduceLT, Int.reduceLE, Int.reduceToNat, Int.reduceNeg, Int.reduceEq, Int.reduceAdd, Nat.reduceMul, Int.reduceSub, Nat.reduceBEq, Int.reduceMul, Nat.add_zero, Nat.zero_add, Int.cast_ofNat_Int, Int.ofNat_eq_coe, decide_eq_true_eq, Nat.lt_irrefl, Nat.le_refl, List.getElem?_toArray, Option.elim_some, Option.elim_none, j_CC_text_0, j_CC_text_19, j_CC_text_47, g_0, g_6, rf_0_2 hR, h04, e1, e2]
          · have e9 : (t : Int) + 1 - 1 = (t : Int) := by omega
            generalize hM5 : pz_up (pz_up M3 147 2 0) 147 13 ((t : Int) + 1) = M5 at *
            generalize hM4 : pz_up M3 147 2 0 = M4 at *
            simp (maxSteps := 1000000) (disch := omega) only [↓reduceIte, sp_0, sp_s, Option.map_some, Option.map_none, Option.some.injEq, o_le, o_nle, o_lt, o_nlt, o_eq, o_neq, w32_id, up_at, nw_at, nw_s, k_Mo_text, px_iconst, px_bipush, px_sipush, px_ldc, px_ldc_w, px_lconst, px_ldc2_w, px_aconst_null, px_getstatic, px_iload_n, px_iload, px_lload_n, px_lload, px_aload_n, px_aload, px_istore_n, px_istore, px_astore_n, px_astore, px_lstore_n, px_lstore, px_iinc, px_iadd, px_isub, px_imul, px_iand, px_ior, px_ixor, px_ishl, px_ishr, px_iushr, px_ladd, px_lsub, px_lmul, px_land, px_lor, px_lcmp, px_lushr, px_lshl, px_ineg, px_i2l, px_l2i, px_idiv, px_irem, px_ldiv, px_lrem, px_dup0, px_pop0, px_dup2, px_pop2, px_dup2x, px_goto, px_if_eq, px_ic_eq, px_if_ne, px_ic_ne, px_if_lt, px_ic_lt, px_if_ge, px_ic_ge, px_if_gt, px_ic_gt, px_if_le, px_ic_le, px_ifnull, px_ifnonnull, px_lookupswitch, px_tableswitch, px_getfield, px_iaload, px_laload, px_caload, px_aaload, px_iastore, px_lastore, px_arraylength, px_putfield, px_ireturn, px_lreturn, px_areturn, px_return, px_iv0, px_is0, px_iv1, px_is1, px_iv2, px_is2, px_iv3, px_is3, px_iv4, px_is4, px_iv5, px_is5, px_iv6, px_is6, px_max, px_min, px_abs, px_maxJ, px_minJ, px_ii0, px_ii1, px_iio, px_copy, pz_cpk, pz_lk, pz_alk, pz_ask, pz_gfk, pz_lnk, pz_bx, pz_b, pz_z, pz_s1, pz_s2, pz_wt, pz_cmp, List.getElem?_cons_zero, List.getElem?_cons_succ, List.getElem?_nil, List.set_cons_zero, List.set_cons_succ, List.length_cons, List.length_nil, List.nil_append, List.cons_append, Option.toList_some, Option.toList_none, if_true, if_false, ite_true, ite_false, and_true, true_and, and_self, or_self, or_false, false_or, true_or, or_true, and_false, false_and, not_true_eq_false, not_false_eq_true, forall_const, ne_eq, reduceCtorEq, implies_true, false_implies, true_implies, Int.toNat_natCast, Nat.reduceAdd, Nat.reduceSub, Nat.reduceLT, Nat.reduceLeDiff, Nat.reduceEqDiff, Int.reduceLT, Int.reduceLE, Int.reduceToNat, Int.reduceNeg, Int.reduceEq, Int.reduceAdd, Nat.reduceMul, Int.reduceSub, Nat.reduceBEq, Int.reduceMul, Nat.add_zero, Nat.zero_add, Int.cast_ofNat_Int, Int.ofNat_eq_coe, decide_eq_true_eq, Nat.lt_irrefl, Nat.le_refl, List.getElem?_toArray, Option.elim_some, Option.elim_none, j_Mo_text_0, j_Mo_text_22, j_Mo_text_69, g_147, u2, e3, hM4, u3, hM5, u4, e9]
          · generalize pz_up (pz_up M3 147 2 0) 147 13 ((t : Int) + 1) = M5 at *
            have o6 : ∀ c, c < 147 ∨ 178 ≤ c → M5 c = M2 c := fun c hc => o5 c (by omega) (by omega)
            have o7 : ∀ c, 2 ≤ c → c ≠ 6 → c ≠ 7 → c ≠ 135 + 3 * t → c ≠ 136 + 3 * t → c < 147 ∨ 178 ≤ c → M5 c = M c := fun c a b x y z w => (o6 c w).trans (o2 c (by omega) (by omega) b x y z)
            obtain ⟨b1, b2, b3, b4, b5, b6, b7, b8, b9, b10, b11⟩ := jc
            refine ⟨Z0_o b1 (fun c hc => o7 c (by omega) (by omega) (by omega) (by omega) (by omega) (by omega)), (o7 10 (by decide) (by decide) (by decide) (by omega) (by omega) (by decide)).trans b2, ⟨by rw [o6 1 (by decide)]; exact a1, by omega, fun i hi => by omega⟩, by rw [o6 0 (by decide)]; exact a2, fun k hk => ?_, by rw [o6 0 (by decide), a5 5 (by decide), o1 0 (by decide) (by decide) (by decide)]; exact b6, Ps_o b7 (o7 15 (by decide) (by decide) (by decide) (by omega) (by omega) (by decide)) (fun c h1 h2 => o7 c (by omega) (by omega) (by omega) (by omega) (by omega) (by omega)), Se_o b8 (by rw [o6 0 (by decide), a5 12 (by decide), o1 0 (by decide) (by decide) (by decide)]) (o7 97 (by decide) (by decide) (by decide) (by omega) (by omega) (by decide)), by rw [o6 0 (by decide), a5 9 (by decide), o1 0 (by decide) (by decide) (by decide)]; exact b9, by rw [o7 14 (by decide) (by decide) (by decide) (by omega) (by omega) (by decide)]; exact b10, STc_c b11 (fun c hc => o7 c (by omega) (by omega) (by omega) (by omega) (by omega) (by omega))⟩
            by_cases q : k = t
            · subst q
              simp only [if_true]
              exact LRc_c lc2 (o6 _ (by omega)) (o6 _ (by omega))
            · simp only [if_neg q]
              exact LRc_c (b5 k (by omega)) (o7 _ (by omega) (by omega) (by omega) (by omega) (by omega) (by omega)) (o7 _ (by omega) (by omega) (by omega) (by omega) (by omega) (by omega))
          · have L3 : ∀ k, k < t → LRm M3 k (lws k) := fun k hk => LRm_fr (j2.2.2.1 k hk) (f3.2.2.2.1 k (by omega)).2 (fun i hi => f3.2.2.1 _ (by omega)) (fun i hi => f3.2.2.2.2 _ (by omega))
            generalize pz_up (pz_up M3 147 2 0) 147 13 ((t : Int) + 1) = M5 at *
            have o6 : ∀ c, 156 ≤ c → M5 c = M c := fun c a => (o5 c (by omega) (by omega)).trans (o2 c (by omega) (by omega) (by omega) (by omega) (by omega) (by omega))
            have L5 : ∀ k lw, LRm M3 k lw → LRm M5 k lw := fun k lw q => LRm_fr q (by rw [o4 152 (by decide)]) (fun i _ => by rw [o4 149 (by decide), o4 150 (by decide)]; exact ⟨rfl, rfl⟩) (fun i _ => by rw [o4 153 (by decide), o4 154 (by decide), o4 155 (by decide)]; exact ⟨rfl, rfl, rfl⟩)
            refine ⟨⟨u72, by omega, fun i hi => by omega⟩, u4, fun k hk => ?_, (u7 30 (by decide) (by decide) (by decide) (by decide) (by decide) (by decide)).trans jr.2.2.2.1, Sx_o jr.2.2.2.2.1 (fun j h1 h2 => u7 j (by omega) (by omega) (by omega) (by omega) (by omega) (by omega)) (fun c h1 h2 => o6 c (by omega)), by rw [o6 165 (by decide)]; exact jr.2.2.2.2.2.1, Pm_fr jr.2.2.2.2.2.2.1 (u7 36 (by decide) (by decide) (by decide) (by decide) (by decide) (by decide)) (o6 169 (by decide)), Sm_o jr.2.2.2.2.2.2.2.1 (u7 46 (by decide) (by decide) (by decide) (by decide) (by decide) (by decide)) (fun c h1 h2 => o6 c (by omega)), (u7 49 (by decide) (by decide) (by decide) (by decide) (by decide) (by decide)).trans jr.2.2.2.2.2.2.2.2.1, by rw [o6 177 (by decide)]; exact jr.2.2.2.2.2.2.2.2.2⟩
            by_cases q : k = t
            · subst q
              simp only [if_true]
              exact L5 _ _ lr3
            · simp only [if_neg q]
              exact L5 _ _ (L3 k (by omega))
          · by_cases q : k = t
            · simp only [if_pos q]
              exact Cg_gLw hz
            · simp only [if_neg q]
              exact jp.2.1 k (by omega)
          · have := jp.2.2.1
            omega
        | .inr w, k1 =>
          obtain ⟨M1, e1, f1, w1⟩ := k1
          have e1 : pz_cal (d + 39) 35 [(2, 6)] ((pz_SH, ss, 0, 0, dd), M) = some (some (0, 0), ((pz_SH, ss, 0, 0, dd), M1)) := e1
          have hR1 := Rf_Pf hR f1
          have o1 : ∀ c, c ≠ 1 → c ≠ 6 → c ≠ 7 → M1 c = M c := f1.1
          have j1 : JR M1 T n t lws h R ln G sn sc sa sd im N := JR_c jr (fun x a b => o1 x (by omega) (by omega) (by omega))
          obtain ⟨M2, e3, f3, _⟩ := m_readLaw (d := d + 2) (ss := ss) (dd := dd) (t := t) hR1 j1.1 (by omega)
          rw [hz] at e3
          have e3 : pz_cal (d + 39) 196 [(2, 147), (0, (t : Int))] ((pz_SH, ss, 0, 0, dd), M1) = some (some (0, (w : Int)), ((pz_SH, ss, 0, 0, dd), M2)) := e3
          have h713' : M1 147 13 = (t : Int) := j1.2.1
          have o2 : ∀ c, c ≠ 1 → c ≠ 6 → c ≠ 7 → c ≠ 147 → (c < 149 ∨ 155 < c) → M2 c = M c := fun c a b x y z => (f3.1 c y z).trans (o1 c a b x)
          have m1 : M2 1 1 = M 1 1 := by rw [f3.1 1 (by decide) (by decide)]; exact f1.2.1 1 (by decide) (by decide)
          have u7 : ∀ j, j ≠ 3 → j ≠ 4 → j ≠ 5 → j ≠ 14 → M2 147 j = M 147 j := fun j a b x y => by rw [f3.2.1 j a b x y, o1 147 (by decide) (by decide) (by decide)]
          refine ⟨-1, M1, M2, ?_, ?_, fun c hc => o1 c (by omega) (by omega) (by omega), ⟨Rf_Pl hR1 f3, T, n, t, lws, h, R, nx, ln, H, G, sn, sc, sa, sd, im, I, N, ?_, ?_, jp⟩, fun x hx => o2 x (by omega) (by omega) (by omega) (by omega) (by omega)⟩
          · simp (maxSteps := 1000000) (disch := omega) only [↓reduceIte, sp_0, sp_s, Option.map_some, Option.map_none, Option.some.injEq, o_le, o_nle, o_lt, o_nlt, o_eq, o_neq, w32_id, up_at, nw_at, nw_s, k_CC_text, px_iconst, px_bipush, px_sipush, px_ldc, px_ldc_w, px_lconst, px_ldc2_w, px_aconst_null, px_getstatic, px_iload_n, px_iload, px_lload_n, px_lload, px_aload_n, px_aload, px_istore_n, px_istore, px_astore_n, px_astore, px_lstore_n, px_lstore, px_iinc, px_iadd, px_isub, px_imul, px_iand, px_ior, px_ixor, px_ishl, px_ishr, px_iushr, px_ladd, px_lsub, px_lmul, px_land, px_lor, px_lcmp, px_lushr, px_lshl, px_ineg, px_i2l, px_l2i, px_idiv, px_irem, px_ldiv, px_lrem, px_dup0, px_pop0, px_dup2, px_pop2, px_dup2x, px_goto, px_if_eq, px_ic_eq, px_if_ne, px_ic_ne, px_if_lt, px_ic_lt, px_if_ge, px_ic_ge, px_if_gt, px_ic_gt, px_if_le, px_ic_le, px_ifnull, px_ifnonnull, px_lookupswitch, px_tableswitch, px_getfield, px_iaload, px_laload, px_caload, px_aaload, px_iastore, px_lastore, px_arraylength, px_putfield, px_ireturn, px_lreturn, px_areturn, px_return, px_iv0, px_is0, px_iv1, px_is1, px_iv2, px_is2, px_iv3, px_is3, px_iv4, px_is4, px_iv5, px_is5, px_iv6, px_is6, px_max, px_min, px_abs, px_maxJ, px_minJ, px_ii0, px_ii1, px_iio, px_copy, pz_cpk, pz_lk, pz_alk, pz_ask, pz_gfk, pz_lnk, pz_bx, pz_b, pz_z, pz_s1, pz_s2, pz_wt, pz_cmp, List.getElem?_cons_zero, List.getElem?_cons_succ, List.getElem?_nil, List.set_cons_zero, List.set_cons_succ, List.length_cons, List.length_nil, List.nil_append, List.cons_append, Option.toList_some, Option.toList_none, if_true, if_false, ite_true, ite_false, and_true, true_and, and_self, or_self, or_false, false_or, true_or, or_true, and_false, false_and, not_true_eq_false, not_false_eq_true, forall_const, ne_eq, reduceCtorEq, implies_true, false_implies, true_implies, Int.toNat_natCast, Nat.reduceAdd, Nat.reduceSub, Nat.reduceLT, Nat.reduceLeDiff, Nat.reduceEqDiff, Int.reduceLT, Int.reduceLE, Int.reduceToNat, Int.reduceNeg, Int.reduceEq, Int.reduceAdd, Nat.reduceMul, Int.reduceSub, Nat.reduceBEq, Int.reduceMul, Nat.add_zero, Nat.zero_add, Int.cast_ofNat_Int, Int.ofNat_eq_coe, decide_eq_true_eq, Nat.lt_irrefl, Nat.le_refl, List.getElem?_toArray, Option.elim_some, Option.elim_none, j_CC_text_0, j_CC_text_19, j_CC_text_47, g_0, g_6, rf_0_2 hR, h04, e1]
          · simp (maxSteps := 1000000) (disch := omega) only [↓reduceIte, sp_0, sp_s, Option.map_some, Option.map_none, Option.some.injEq, o_le, o_nle, o_lt, o_nlt, o_eq, o_neq, w32_id, up_at, nw_at, nw_s, k_Mo_text, px_iconst, px_bipush, px_sipush, px_ldc, px_ldc_w, px_lconst, px_ldc2_w, px_aconst_null, px_getstatic, px_iload_n, px_iload, px_lload_n, px_lload, px_aload_n, px_aload, px_istore_n, px_istore, px_astore_n, px_astore, px_lstore_n, px_lstore, px_iinc, px_iadd, px_isub, px_imul, px_iand, px_ior, px_ixor, px_ishl, px_ishr, px_iushr, px_ladd, px_lsub, px_lmul, px_land, px_lor, px_lcmp, px_lushr, px_lshl, px_ineg, px_i2l, px_l2i, px_idiv, px_irem, px_ldiv, px_lrem, px_dup0, px_pop0, px_dup2, px_pop2, px_dup2x, px_goto, px_if_eq, px_ic_eq, px_if_ne, px_ic_ne, px_if_lt, px_ic_lt, px_if_ge, px_ic_ge, px_if_gt, px_ic_gt, px_if_le, px_ic_le, px_ifnull, px_ifnonnull, px_lookupswitch, px_tableswitch, px_getfield, px_iaload, px_laload, px_caload, px_aaload, px_iastore, px_lastore, px_arraylength, px_putfield, px_ireturn, px_lreturn, px_areturn, px_return, px_iv0, px_is0, px_iv1, px_is1, px_iv2, px_is2, px_iv3, px_is3, px_iv4, px_is4, px_iv5, px_is5, px_iv6, px_is6, px_max, px_min, px_abs, px_maxJ, px_minJ, px_ii0, px_ii1, px_iio, px_copy, pz_cpk, pz_lk, pz_alk, pz_ask, pz_gfk, pz_lnk, pz_bx, pz_b, pz_z, pz_s1, pz_s2, pz_wt, pz_cmp, List.getElem?_cons_zero, List.getElem?_cons_succ, List.getElem?_nil, List.set_cons_zero, List.set_cons_succ, List.length_cons, List.length_nil, List.nil_append, List.cons_append, Option.toList_some, Option.toList_none, if_true, if_false, ite_true, ite_false, and_true, true_and, and_self, or_self, or_false, false_or, true_or, or_true, and_false, false_and, not_true_eq_false, not_false_eq_true, forall_const, ne_eq, reduceCtorEq, implies_true, false_implies, true_implies, Int.toNat_natCast, Nat.reduceAdd, Nat.reduceSub, Nat.reduceLT, Nat.reduceLeDiff, Nat.reduceEqDiff, Int.reduceLT, Int.reduceLE, Int.reduceToNat, Int.reduceNeg, Int.reduceEq, Int.reduceAdd, Nat.reduceMul, Int.reduceSub, Nat.reduceBEq, Int.reduceMul, Nat.add_zero, Nat.zero_add, Int.cast_ofNat_Int, Int.ofNat_eq_coe, decide_eq_true_eq, Nat.lt_irrefl, Nat.le_refl, List.getElem?_toArray, Option.elim_some, Option.elim_none, j_Mo_text_0, j_Mo_text_22, j_Mo_text_69, g_147, h713', e3]
          · have o3 : ∀ c, c = 0 ∨ c = 2 ∨ 8 ≤ c ∧ (c < 147 ∨ 178 ≤ c) → M2 c = M c := fun c hc => o2 c (by omega) (by omega) (by omega) (by omega) (by omega)
            exact JC_k jc jp.1 (fun c hc _ => o3 c (by omega)) (Z0_o jc.1 (fun c hc => o3 c (by omega))) ((o3 10 (by decide)).trans jc.2.1) (TC_o jc.2.2.1 m1 (o3 2 (by decide))) (by rw [o3 0 (by decide)]) (by rw [o3 0 (by decide)]) (Ps_o jc.2.2.2.2.2.2.1 (o3 15 (by decide)) (fun c h1 h2 => o3 c (by omega))) (Se_o jc.2.2.2.2.2.2.2.1 (by rw [o3 0 (by decide)]) (o3 97 (by decide))) (by rw [o3 0 (by decide)]; exact jc.2.2.2.2.2.2.2.2.1) (by rw [o3 14 (by decide)]; exact jc.2.2.2.2.2.2.2.2.2.1)
          · have o4 : ∀ c, 156 ≤ c → M2 c = M c := fun c a => o2 c (by omega) (by omega) (by omega) (by omega) (by omega)
            have L3 : ∀ k, k < t → LRm M2 k (lws k) := fun k hk => LRm_fr (j1.2.2.1 k hk) (f3.2.2.2.1 k (by omega)).2 (fun i hi => f3.2.2.1 _ (by omega)) (fun i hi => f3.2.2.2.2 _ (by omega))
            exact ⟨TR_o jr.1 (u7 2 (by decide) (by decide) (by decide) (by decide)) (o2 148 (by decide) (by decide) (by decide) (by decide) (by decide)), (u7 13 (by decide) (by decide) (by decide) (by decide)).trans jr.2.1, L3, (u7 30 (by decide) (by decide) (by decide) (by decide)).trans jr.2.2.2.1, Sx_o jr.2.2.2.2.1 (fun j h1 h2 => u7 j (by omega) (by omega) (by omega) (by omega)) (fun c h1 h2 => o4 c (by omega)), by rw [o4 165 (by decide)]; exact jr.2.2.2.2.2.1, Pm_fr jr.2.2.2.2.2.2.1 (u7 36 (by decide) (by decide) (by decide) (by decide)) (o4 169 (by decide)), Sm_o jr.2.2.2.2.2.2.2.1 (u7 46 (by decide) (by decide) (by decide) (by decide)) (fun c h1 h2 => o4 c (by omega)), (u7 49 (by decide) (by decide) (by decide) (by decide)).trans jr.2.2.2.2.2.2.2.2.1, by rw [o4 177 (by decide)]; exact jr.2.2.2.2.2.2.2.2.2⟩
    · refine ⟨-1, M, M, ?_, ?_, Ou_r, hJ, Ou_r⟩
      · simp (maxSteps := 1000000) (disch := omega) only [↓reduceIte, sp_0, sp_s, Option.map_some, Option.map_none, Option.some.injEq, o_le, o_nle, o_lt, o_nlt, o_eq, o_neq, w32_id, up_at, nw_at, nw_s, k_CC_text, px_iconst, px_bipush, px_sipush, px_ldc, px_ldc_w, px_lconst, px_ldc2_w, px_aconst_null, px_getstatic, px_iload_n, px_iload, px_lload_n, px_lload, px_aload_n, px_aload, px_istore_n, px_istore, px_astore_n, px_astore, px_lstore_n, px_lstore, px_iinc, px_iadd, px_isub, px_imul, px_iand, px_ior, px_ixor, px_ishl, px_ishr, px_iushr, px_ladd, px_lsub, px_lmul, px_land, px_lor, px_lcmp, px_lushr, px_lshl, px_ineg, px_i2l, px_l2i, px_idiv, px_irem, px_ldiv, px_lrem, px_dup0, px_pop0, px_dup2, px_pop2, px_dup2x, px_goto, px_if_eq, px_ic_eq, px_if_ne, px_ic_ne, px_if_lt, px_ic_lt, px_if_ge, px_ic_ge, px_if_gt, px_ic_gt, px_if_le, px_ic_le, px_ifnull, px_ifnonnull, px_lookupswitch, px_tableswitch, px_getfield, px_iaload, px_laload, px_caload, px_aaload, px_iastore, px_lastore, px_arraylength, px_putfield, px_ireturn, px_lreturn, px_areturn, px_return, px_iv0, px_is0, px_iv1, px_is1, px_iv2, px_is2, px_iv3, px_is3, px_iv4, px_is4, px_iv5, px_is5, px_iv6, px_is6, px_max, px_min, px_abs, px_maxJ, px_minJ, px_ii0, px_ii1, px_iio, px_copy, pz_cpk, pz_lk, pz_alk, pz_ask, pz_gfk, pz_lnk, pz_bx, pz_b, pz_z, pz_s1, pz_s2, pz_wt, pz_cmp, List.getElem?_cons_zero, List.getElem?_cons_succ, List.getElem?_nil, List.set_cons_zero, List.set_cons_succ, List.length_cons, List.length_nil, List.nil_append, List.cons_append, Option.toList_some, Option.toList_none, if_true, if_false, ite_true, ite_false, and_true, true_and, and_self, or_self, or_false, false_or, true_or, or_true, and_false, false_and, not_true_eq_false, not_false_eq_true, forall_const, ne_eq, reduceCtorEq, implies_true, false_implies, true_implies, Int.toNat_natCast, Nat.reduceAdd, Nat.reduceSub, Nat.reduceLT, Nat.reduceLeDiff, Nat.reduceEqDiff, Int.reduceLT, Int.reduceLE, Int.reduceToNat, Int.reduceNeg, Int.reduceEq, Int.reduceAdd, Nat.reduceMul, Int.reduceSub, Nat.reduceBEq, Int.reduceMul, Nat.add_zero, Nat.zero_add, Int.cast_ofNat_Int, Int.ofNat_eq_coe, decide_eq_true_eq, Nat.lt_irrefl, Nat.le_refl, List.getElem?_toArray, Option.elim_some, Option.elim_none, j_CC_text_0, j_CC_text_19, j_CC_text_47, g_0]
      · simp (maxSteps := 1000000) (disch := omega) only [↓reduceIte, sp_0, sp_s, Option.map_some, Option.map_none, Option.some.injEq, o_le, o_nle, o_lt, o_nlt, o_eq, o_neq, w32_id, up_at, nw_at, nw_s, k_Mo_text, px_iconst, px_bipush, px_sipush, px_ldc, px_ldc_w, px_lconst, px_ldc2_w, px_aconst_null, px_getstatic, px_iload_n, px_iload, px_lload_n, px_lload, px_aload_n, px_aload, px_istore_n, px_istore, px_astore_n, px_astore, px_lstore_n, px_lstore, px_iinc, px_iadd, px_isub, px_imul, px_iand, px_ior, px_ixor, px_ishl, px_ishr, px_iushr, px_ladd, px_lsub, px_lmul, px_land, px_lor, px_lcmp, px_lushr, px_lshl, px_ineg, px_i2l, px_l2i, px_idiv, px_irem, px_ldiv, px_lrem, px_dup0, px_pop0, px_dup2, px_pop2, px_dup2x, px_goto, px_if_eq, px_ic_eq, px_if_ne, px_ic_ne, px_if_lt, px_ic_lt, px_if_ge, px_ic_ge, px_if_gt, px_ic_gt, px_if_le, px_ic_le, px_ifnull, px_ifnonnull, px_lookupswitch, px_tableswitch, px_getfield, px_iaload, px_laload, px_caload, px_aaload, px_iastore, px_lastore, px_arraylength, px_putfield, px_ireturn, px_lreturn, px_areturn, px_return, px_iv0, px_is0, px_iv1, px_is1, px_iv2, px_is2, px_iv3, px_is3, px_iv4, px_is4, px_iv5, px_is5, px_iv6, px_is6, px_max, px_min, px_abs, px_maxJ, px_minJ, px_ii0, px_ii1, px_iio, px_copy, pz_cpk, pz_lk, pz_alk, pz_ask, pz_gfk, pz_lnk, pz_bx, pz_b, pz_z, pz_s1, pz_s2, pz_wt, pz_cmp, List.getElem?_cons_zero, List.getElem?_cons_succ, List.getElem?_nil, List.set_cons_zero, List.set_cons_succ, List.length_cons, List.length_nil, List.nil_append, List.cons_append, Option.toList_some, Option.toList_none, if_true, if_false, ite_true, ite_false, and_true, true_and, and_self, or_self, or_false, false_or, true_or, or_true, and_false, false_and, not_true_eq_false, not_false_eq_true, forall_const, ne_eq, reduceCtorEq, implies_true, false_implies, true_implies, Int.toNat_natCast, Nat.reduceAdd, Nat.reduceSub, Nat.reduceLT, Nat.reduceLeDiff, Nat.reduceEqDiff, Int.reduceLT, Int.reduceLE, Int.reduceToNat, Int.reduceNeg, Int.reduceEq, Int.reduceAdd, Nat.reduceMul, Int.reduceSub, Nat.reduceBEq, Int.reduceMul, Nat.add_zero, Nat.zero_add, Int.cast_ofNat_Int, Int.ofNat_eq_coe, decide_eq_true_eq, Nat.lt_irrefl, Nat.le_refl, List.getElem?_toArray, Option.elim_some, Option.elim_none, j_Mo_text_0, j_Mo_text_22, j_Mo_text_69, g_147]
end P99c
