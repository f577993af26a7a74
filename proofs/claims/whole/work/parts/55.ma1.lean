/-! ACTS OF THE REFERENCE: its past, fish, nights, heat, milk, retire -/
/-- the past of the reference: G 0 is the newest -/
def Pm (M : pz_M) (ln : Nat) (G : Nat → Nat → Int) : Prop := M 147 36 = (ln : Int) ∧ ln ≤ 40 ∧ ∀ i, i < ln → ∀ j, j < 213 → M 169 (213 * (ln - 1 - i) + j) = G i j
/-- what stands still in the reference's court -/
def Sx (M : pz_M) (R : Nat → Int) : Prop := ((∀ d, d < 4 → M 161 d = R d) ∧ M 147 26 = R 4 ∧ M 147 27 = R 141 ∧ M 147 28 = R 142) ∧ (∀ c : Nat, (c : Int) < R 141 → c < 8 → ∀ d, d < 4 → M 162 (4 * c + d) = R (7 + 7 * c + d)) ∧ (∀ a : Nat, (a : Int) < R 142 → a < 6 → M 163 a = R (63 + 3 * a) ∧ M 164 a = R (63 + 3 * a + 2))
/-- what moves in it -/
def Nw (N R : Nat → Int) : Prop := (N 30 = R 5 ∧ N 31 = R 6 ∧ N 32 = R 143) ∧ (∀ c : Nat, (c : Int) < R 141 → c < 8 → N c = R (7 + 7 * c + 4) ∧ N (8 + c) = R (7 + 7 * c + 5) ∧ N (16 + c) = R (7 + 7 * c + 6)) ∧ (∀ a : Nat, (a : Int) < R 142 → a < 6 → N (24 + a) = R (63 + 3 * a + 1)) ∧ ∀ i : Nat, (i : Int) < R 143 → i < 60 → N (33 + 3 * i) = R (81 + ((R 143).toNat - 1 - i)) / 100 ∧ N (33 + 3 * i + 1) = R (81 + ((R 143).toNat - 1 - i)) / 10 % 10 ∧ N (33 + 3 * i + 2) = R (81 + ((R 143).toNat - 1 - i)) % 10
theorem SN_of {M : pz_M} {R : Nat → Int} (h : Mm M R) (hl : Ml M R) : Sx M R ∧ Nw (M 165) R := by
  obtain ⟨⟨a1, a2, a3, a4, a5, a6⟩, b, c⟩ := h
  exact ⟨⟨⟨a1, a2, a5, a6⟩, fun x hx h8 => (b x hx h8).1, fun x hx h6 => ⟨(c x hx h6).1, (c x hx h6).2.2⟩⟩, ⟨a3, a4, hl.1⟩, fun x hx h8 => (b x hx h8).2, fun x hx h6 => (c x hx h6).2.1, hl.2⟩
theorem Mm_of {M : pz_M} {R : Nat → Int} (h : Sx M R) (hn : Nw (M 165) R) : Mm M R ∧ Ml M R := by
  obtain ⟨⟨a1, a2, a5, a6⟩, b, c⟩ := h
  obtain ⟨⟨a3, a4, a7⟩, b2, c2, l⟩ := hn
  exact ⟨⟨⟨a1, a2, a3, a4, a5, a6⟩, fun x hx h8 => ⟨b x hx h8, b2 x hx h8⟩, fun x hx h6 => ⟨(c x hx h6).1, c2 x hx h6, (c x hx h6).2⟩⟩, a7, l⟩
theorem Nw_c {N N' R : Nat → Int} (h : Nw N R) (e : ∀ j, j < 213 → N' j = N j) : Nw N' R := by
  obtain ⟨⟨a1, a2, a3⟩, b, c, l⟩ := h
  refine ⟨⟨?_, ?_, ?_⟩, fun x hx h8 => ?_, fun x hx h6 => ?_, fun x hx h6 => ?_⟩
  · rw [e 30 (by omega)]; exact a1
  · rw [e 31 (by omega)]; exact a2
  · rw [e 32 (by omega)]; exact a3
  · rw [e _ (by omega), e _ (by omega), e _ (by omega)]; exact b x hx h8
  · rw [e _ (by omega)]; exact c x hx h6
  · rw [e _ (by omega), e _ (by omega), e _ (by omega)]; exact l x hx h6
theorem Nw_R {N R R' : Nat → Int} (h : Nw N R) (hr : R 143 ≤ 60) (e : ∀ j, j < 144 → R' j = R j) : Nw N R' := by
  obtain ⟨⟨a1, a2, a3⟩, b, c, l⟩ := h
  have e1 := e 141 (by omega)
  have e2 := e 142 (by omega)
  have e3 := e 143 (by omega)
  refine ⟨⟨?_, ?_, ?_⟩, fun x hx h8 => ?_, fun x hx h6 => ?_, fun x hx h6 => ?_⟩
  · rw [e 5 (by omega)]; exact a1
  · rw [e 6 (by omega)]; exact a2
  · rw [e3]; exact a3
  · rw [e1] at hx; rw [e _ (by omega), e _ (by omega), e _ (by omega)]; exact b x hx h8
  · rw [e2] at hx; rw [e _ (by omega)]; exact c x hx h6
  · rw [e3] at hx ⊢; rw [e _ (by omega)]; exact l x hx h6
/-- what an act leaves of the reference -/
def Ka (M M' : pz_M) : Prop := (∀ c, c ∉ SMc → c ≠ 147 → c ≠ 165 → c ≠ 169 → M' c = M c) ∧ ∀ j, j ∉ SMf → j ≠ 36 → j ≠ 37 → M' 147 j = M 147 j
theorem Ka_r {M : pz_M} : Ka M M := ⟨fun _ _ _ _ _ => rfl, fun _ _ _ _ => rfl⟩
theorem Ka_t {M M1 M2 : pz_M} (h1 : Ka M M1) (h2 : Ka M1 M2) : Ka M M2 := ⟨fun c a b x y => (h2.1 c a b x y).trans (h1.1 c a b x y), fun j a b x => (h2.2 j a b x).trans (h1.2 j a b x)⟩
theorem Ka_Q {M M1 : pz_M} (h : Qm M M1) : Ka M M1 := ⟨fun c a b _ _ => h.1 c a b, fun j a _ _ => h.2 j a⟩
theorem Ka_up {M : pz_M} {k j : Nat} {v : Int} (h : k = 165 ∨ k = 169 ∨ k = 147 ∧ (j = 36 ∨ j = 37)) : Ka M (pz_up M k j v) := ⟨fun c a b x y => by funext z; rw [up_at, if_neg (by omega)], fun z a b x => by rw [up_at, if_neg (by omega)]⟩
theorem Rf_Ka {M M' : pz_M} (h : Rf M) (q : Ka M M') : Rf M' := Rf_of h (fun x hx => by
  have h1 : x.1 ∉ SMc ∧ (x.1 = 147 → x.2.1 ∉ SMf ∧ x.2.1 ≠ 36 ∧ x.2.1 ≠ 37) ∧ x.1 ≠ 165 ∧ x.1 ≠ 169 := (by decide +kernel : ∀ x ∈ rf_L, x.1 ∉ SMc ∧ (x.1 = 147 → x.2.1 ∉ SMf ∧ x.2.1 ≠ 36 ∧ x.2.1 ≠ 37) ∧ x.1 ≠ 165 ∧ x.1 ≠ 169) x hx
  by_cases e : x.1 = 147
  · obtain ⟨a, b, c⟩ := h1.2.1 e
    rw [e]; exact q.2 _ a b c
  · rw [q.1 _ h1.1 e h1.2.2.1 h1.2.2.2])
theorem Sx_Ka {M M' : pz_M} {R : Nat → Int} (h : Sx M R) (q : Ka M M') : Sx M' R := by
  unfold Sx
  rw [q.1 161 (by decide) (by decide) (by decide) (by decide), q.1 162 (by decide) (by decide) (by decide) (by decide), q.1 163 (by decide) (by decide) (by decide) (by decide), q.1 164 (by decide) (by decide) (by decide) (by decide), q.2 26 (by decide) (by decide) (by decide), q.2 27 (by decide) (by decide) (by decide), q.2 28 (by decide) (by decide) (by decide)]
  exact h
theorem HLm_Ka {M M' : pz_M} {L : Option ((Nat → Int) → Int)} (h : HLm M L) (q : Ka M M') : HLm M' L := by
  cases L with
  | none => show M' 147 30 = -1; rw [q.2 30 (by decide) (by decide) (by decide)]; exact h
  | some g =>
    obtain ⟨k, hk, h6, h7⟩ := h
    exact ⟨k, hk, by rw [q.2 30 (by decide) (by decide) (by decide)]; exact h6, LawOm_fr h7 (fun c c1 c2 => q.1 c (SMc_o (.inl ⟨c1, c2⟩)) (by omega) (by omega) (by omega))⟩
section P55
variable {d : Nat} {ss : List (Nat × Nat)} {dd : Nat} {M : pz_M} {L : Option ((Nat → Int) → Int)} {R : Nat → Int} {ln : Nat} {G : Nat → Nat → Int}
/-- only the past changed -/
def Kp (M M' : pz_M) : Prop := (∀ c, c ≠ 147 → c ≠ 169 → M' c = M c) ∧ ∀ j, j ≠ 36 → M' 147 j = M 147 j
theorem Kp_Ka {M' : pz_M} (h : Kp M M') : Ka M M' := ⟨fun c _ b _ y => h.1 c b y, fun j _ b _ => h.2 j b⟩
theorem Rf_Kp {M' : pz_M} (h : Rf M) (q : Kp M M') : Rf M' := Rf_Ka h (Kp_Ka q)
set_option maxRecDepth 100000 in
theorem m_keep (hR : Rf M) (hP : Pm M ln G) : ∃ M', pz_cal (d + 1) 246 [(2, 147)] ((pz_SH, ss, 0, 0, dd), M) = some (none, ((pz_SH, ss, 0, 0, dd), M')) ∧ Pm M' (min 40 (ln + 1)) (psh (M 165) G) ∧ Kp M M' := by
  obtain ⟨h36, hl, hG⟩ := hP
  have bas : ∀ (M2 : pz_M) (n : Nat) (x : pz_V), n < 40 → M2 147 36 = (n : Int) → Kp M M2 → ∃ M', pz_p bl_Mo_keep (pz_cal (d)) 0 0 52 [] [(2, 147), (x.1, x.2)] [] ((pz_SH, ss, 0, 0, dd), M2) = some (none, ((pz_SH, ss, 0, 0, dd), M')) ∧ Kp M M' ∧ M' 147 36 = ((n + 1 : Nat) : Int) ∧ ∀ j, M' 169 j = if 213 * n ≤ j ∧ j < 213 * n + 213 then M 165 (j - 213 * n) else M2 169 j := by
    intro M2 n x hn h2 q2
    have hR2 := Rf_Kp hR q2
    obtain ⟨M3, ⟨i1, i2⟩, t1⟩ := lp0 (σ := pz_M) 213 (s := M2) (F := fun i M' => pz_p bl_Mo_keep (pz_cal (d)) 0 0 54 [] [(2, 147), (0, (i : Int))] [] ((pz_SH, ss, 0, 0, dd), M')) (fun i M' => (∀ c, c ≠ 169 → M' c = M2 c) ∧ ∀ j, M' 169 j = if 213 * n ≤ j ∧ j < 213 * n + i then M 165 (j - 213 * n) else M2 169 j) ⟨fun _ _ => rfl, fun j => by rw [if_neg (by omega)]⟩ (by
      intro i M' hi ⟨i1, i2⟩
      have hR' : Rf M' := Rf_of hR2 (fun q hq => by rw [i1 q.1 ((by decide +kernel : ∀ q ∈ rf_L, q.1 ≠ 169) q hq)])
      have e1 : M' 147 36 = (n : Int) := by rw [i1 147 (by decide)]; exact h2
      have e2 : M' 165 i = M 165 i := by rw [i1 165 (by decide), q2.1 165 (by decide) (by decide)]
      have t : (213 * (n : Int) + i).toNat = 213 * n + i := by omega
      refine ⟨pz_up M' 169 (213 * n + i) (M 165 i), ⟨fun c hc => by funext z; rw [up_at, if_neg (fun h => hc h.1)]; rw [i1 c hc], fun j => ?_⟩, ?_⟩
      · rw [up_at]
        by_cases hj : j = 213 * n + i
        · rw [if_pos ⟨rfl, hj⟩, if_pos (by omega)]
          congr 1; omega
        · rw [if_neg (fun h => hj h.2), i2 j]
          by_cases g : 213 * n ≤ j ∧ j < 213 * n + i
          · rw [if_pos g, if_pos (by omega)]
          · rw [if_neg g, if_neg (by omega)]
      · show pz_p bl_Mo_keep (pz_cal (d)) 0 0 54 [] [(2, 147), (0, (i : Int))] [] ((pz_SH, ss, 0, 0, dd), M') = pz_p bl_Mo_keep (pz_cal (d)) 0 0 54 [] [(2, 147), (0, (i : Int) + 1)] [] ((pz_SH, ss, 0, 0, dd), pz_up M' 169 (213 * n + i) (M 165 i))
        rw [j_Mo_keep_54]
        simp (maxSteps := 1000000) (disch := omega) only [↓reduceIte, sp_0, sp_s, Option.map_some, Option.map_none, Option.some.injEq, o_le, o_nle, o_lt, o_nlt, o_eq, o_neq, w32_id, nw_s, px_iconst, px_bipush, px_sipush, px_ldc, px_ldc_w, px_lconst, px_ldc2_w, px_aconst_null, px_getstatic, px_iload_n, px_iload, px_lload_n, px_lload, px_aload_n, px_aload, px_istore_n, px_istore, px_astore_n, px_astore, px_lstore_n, px_lstore, px_iinc, px_iadd, px_isub, px_imul, px_iand, px_ior, px_ixor, px_ishl, px_ishr, px_iushr, px_ladd, px_lsub, px_lmul, px_land, px_lor, px_lcmp, px_lushr, px_lshl, px_ineg, px_i2l, px_l2i, px_idiv, px_irem, px_ldiv, px_lrem, px_dup0, px_pop0, px_dup2, px_pop2, px_dup2x, px_goto, px_if_eq, px_ic_eq, px_if_ne, px_ic_ne, px_if_lt, px_ic_lt, px_if_ge, px_ic_ge, px_if_gt, px_ic_gt, px_if_le, px_ic_le, px_ifnull, px_ifnonnull, px_lookupswitch, px_tableswitch, px_getfield, px_iaload, px_laload, px_caload, px_aaload, px_iastore, px_lastore, px_arraylength, px_putfield, px_ireturn, px_lreturn, px_areturn, px_return, px_iv0, px_is0, px_iv1, px_is1, px_iv2, px_is2, px_iv3, px_is3, px_iv4, px_is4, px_iv5, px_is5, px_iv6, px_is6, px_max, px_min, px_abs, px_maxJ, px_minJ, px_ii0, px_ii1, px_iio, px_copy, pz_cpk, pz_lk, pz_alk, pz_ask, pz_gfk, pz_lnk, pz_bx, pz_b, pz_z, pz_s1, pz_s2, pz_wt, pz_cmp, List.getElem?_cons_zero, List.getElem?_cons_succ, List.getElem?_nil, List.set_cons_zero, List.set_cons_succ, List.length_cons, List.length_nil, List.nil_append, List.cons_append, Option.toList_some, Option.toList_none, if_true, if_false, ite_true, ite_false, and_true, true_and, and_self, or_self, or_false, false_or, true_or, or_true, and_false, false_and, not_true_eq_false, not_false_eq_true, forall_const, ne_eq, reduceCtorEq, implies_true, false_implies, true_implies, Int.toNat_natCast, Nat.reduceAdd, Nat.reduceSub, Nat.reduceLT, Nat.reduceLeDiff, Nat.reduceEqDiff, Int.reduceLT, Int.reduceLE, Int.reduceToNat, Int.reduceNeg, Int.reduceEq, Int.reduceAdd, Nat.reduceMul, Int.reduceSub, Nat.reduceBEq, Int.reduceMul, Nat.add_zero, Nat.zero_add, Int.cast_ofNat_Int, Int.ofNat_eq_coe, decide_eq_true_eq, Nat.lt_irrefl, Nat.le_refl, List.getElem?_toArray, Option.elim_some, Option.elim_none, g_147, g_165, g_169, rf_147_29 hR', rf_147_35 hR', e1, e2, t])
    have e1 : M3 147 36 = (n : Int) := by rw [i1 147 (by decide)]; exact h2
    have t1 : pz_p bl_Mo_keep (pz_cal (d)) 0 0 54 [] [(2, 147), (0, 0)] [] ((pz_SH, ss, 0, 0, dd), M2) = pz_p bl_Mo_keep (pz_cal (d)) 0 0 54 [] [(2, 147), (0, 213)] [] ((pz_SH, ss, 0, 0, dd), M3) := t1
    refine ⟨pz_up M3 147 36 ((n : Int) + 1), ?_, ⟨fun c c1 c2 => ?_, fun j hj => ?_⟩, ?_, fun j => ?_⟩
    · have t2 : pz_p bl_Mo_keep (pz_cal (d)) 0 0 54 [] [(2, 147), (0, 213)] [] ((pz_SH, ss, 0, 0, dd), M3) = some (none, ((pz_SH, ss, 0, 0, dd), pz_up M3 147 36 ((n : Int) + 1))) := by
        rw [j_Mo_keep_54]
        simp (maxSteps := 1000000) (disch := omega) only [↓reduceIte, sp_0, sp_s, Option.map_some, Option.map_none, Option.some.injEq, o_le, o_nle, o_lt, o_nlt, o_eq, o_neq, w32_id, nw_s, px_iconst, px_bipush, px_sipush, px_ldc, px_ldc_w, px_lconst, px_ldc2_w, px_aconst_null, px_getstatic, px_iload_n, px_iload, px_lload_n, px_lload, px_aload_n, px_aload, px_istore_n, px_istore, px_astore_n, px_astore, px_lstore_n, px_lstore, px_iinc, px_iadd, px_isub, px_imul, px_iand, px_ior, px_ixor, px_ishl, px_ishr, px_iushr, px_ladd, px_lsub, px_lmul, px_land, px_lor, px_lcmp, px_lushr, px_lshl, px_ineg, px_i2l, px_l2i, px_idiv, px_irem, px_ldiv, px_lrem, px_dup0, px_pop0, px_dup2, px_pop2, px_dup2x, px_goto, px_if_eq, px_ic_eq, px_if_ne, px_ic_ne, px_if_lt, px_ic_lt, px_if_ge, px_ic_ge, px_if_gt, px_ic_gt, px_if_le, px_ic_le, px_ifnull, px_ifnonnull, px_lookupswitch, px_tableswitch, px_getfield, px_iaload, px_laload, px_caload, px_aaload, px_iastore, px_lastore, px_arraylength, px_putfield, px_ireturn, px_lreturn, px_areturn, px_return, px_iv0, px_is0, px_iv1, px_is1, px_iv2, px_is2, px_iv3, px_is3, px_iv4, px_is4, px_iv5, px_is5, px_iv6, px_is6, px_max, px_min, px_abs, px_maxJ, px_minJ, px_ii0, px_ii1, px_iio, px_copy, pz_cpk, pz_lk, pz_alk, pz_ask, pz_gfk, pz_lnk, pz_bx, pz_b, pz_z, pz_s1, pz_s2, pz_wt, pz_cmp, List.getElem?_cons_zero, List.getElem?_cons_succ, List.getElem?_nil, List.set_cons_zero, List.set_cons_succ, List.length_cons, List.length_nil, List.nil_append, List.cons_append, Option.toList_some, Option.toList_none, if_true, if_false, ite_true, ite_false, and_true, true_and, and_self, or_self, or_false, false_or, true_or, or_true, and_false, false_and, not_true_eq_false, not_false_eq_true, forall_const, ne_eq, reduceCtorEq, implies_true, false_implies, true_implies, Int.toNat_natCast, Nat.reduceAdd, Nat.reduceSub, Nat.reduceLT, Nat.reduceLeDiff, Nat.reduceEqDiff, Int.reduceLT, Int.reduceLE, Int.reduceToNat, Int.reduceNeg, Int.reduceEq, Int.reduceAdd, Nat.reduceMul, Int.reduceSub, Nat.reduceBEq, Int.reduceMul, Nat.add_zero, Nat.zero_add, Int.cast_ofNat_Int, Int.ofNat_eq_coe, decide_eq_true_eq, Nat.lt_irrefl, Nat.le_refl, List.getElem?_toArray, Option.elim_some, Option.elim_none, j_Mo_keep_88, g_147, e1]
      rw [← t2, ← t1, j_Mo_keep_52]
      simp (maxSteps := 1000000) (disch := omega) only [↓reduceIte, sp_0, sp_s, Option.map_some, Option.map_none, Option.some.injEq, o_le, o_nle, o_lt, o_nlt, o_eq, o_neq, w32_id, nw_s, px_iconst, px_bipush, px_sipush, px_ldc, px_ldc_w, px_lconst, px_ldc2_w, px_aconst_null, px_getstatic, px_iload_n, px_iload, px_lload_n, px_lload, px_aload_n, px_aload, px_istore_n, px_istore, px_astore_n, px_astore, px_lstore_n, px_lstore, px_iinc, px_iadd, px_isub, px_imul, px_iand, px_ior, px_ixor, px_ishl, px_ishr, px_iushr, px_ladd, px_lsub, px_lmul, px_land, px_lor, px_lcmp, px_lushr, px_lshl, px_ineg, px_i2l, px_l2i, px_idiv, px_irem, px_ldiv, px_lrem, px_dup0, px_pop0, px_dup2, px_pop2, px_dup2x, px_goto, px_if_eq, px_ic_eq, px_if_ne, px_ic_ne, px_if_lt, px_ic_lt, px_if_ge, px_ic_ge, px_if_gt, px_ic_gt, px_if_le, px_ic_le, px_ifnull, px_ifnonnull, px_lookupswitch, px_tableswitch, px_getfield, px_iaload, px_laload, px_caload, px_aaload, px_iastore, px_lastore, px_arraylength, px_putfield, px_ireturn, px_lreturn, px_areturn, px_return, px_iv0, px_is0, px_iv1, px_is1, px_iv2, px_is2, px_iv3, px_is3, px_iv4, px_is4, px_iv5, px_is5, px_iv6, px_is6, px_max, px_min, px_abs, px_maxJ, px_minJ, px_ii0, px_ii1, px_iio, px_copy, pz_cpk, pz_lk, pz_alk, pz_ask, pz_gfk, pz_lnk, pz_bx, pz_b, pz_z, pz_s1, pz_s2, pz_wt, pz_cmp, List.getElem?_cons_zero, List.getElem?_cons_succ, List.getElem?_nil, List.set_cons_zero, List.set_cons_succ, List.length_cons, List.length_nil, List.nil_append, List.cons_append, Option.toList_some, Option.toList_none, if_true, if_false, ite_true, ite_false, and_true, true_and, and_self, or_self, or_false, false_or, true_or, or_true, and_false, false_and, not_true_eq_false, not_false_eq_true, forall_const, ne_eq, reduceCtorEq, implies_true, false_implies, true_implies, Int.toNat_natCast, Nat.reduceAdd, Nat.reduceSub, Nat.reduceLT, Nat.reduceLeDiff, Nat.reduceEqDiff, Int.reduceLT, Int.reduceLE, Int.reduceToNat, Int.reduceNeg, Int.reduceEq, Int.reduceAdd, Nat.reduceMul, Int.reduceSub, Nat.reduceBEq, Int.reduceMul, Nat.add_zero, Nat.zero_add, Int.cast_ofNat_Int, Int.ofNat_eq_coe, decide_eq_true_eq, Nat.lt_irrefl, Nat.le_refl, List.getElem?_toArray, Option.elim_some, Option.elim_none]
    · funext z; rw [up_at, if_neg (fun h => c1 h.1), i1 c c2, q2.1 c c1 c2]
    · rw [up_at, if_neg (fun h => hj h.2), i1 147 (by decide), q2.2 j hj]
    · rw [up_at, if_pos ⟨rfl, rfl⟩]; rfl
    · rw [up_at, if_neg (by omega)]; exact i2 j
  by_cases h40 : ln = 40
  · subst h40
    have h36 : M 147 36 = 40 := h36
    obtain ⟨M3, ⟨i1, i2⟩, t1⟩ := lp0 (σ := pz_M) 8307 (s := M) (F := fun i M' => pz_p bl_Mo_keep (pz_cal (d)) 0 0 13 [] [(2, 147), (0, (i : Int) + 213)] [] ((pz_SH, ss, 0, 0, dd), M')) (fun i M' => (∀ c, c ≠ 169 → M' c = M c) ∧ ∀ j, M' 169 j = if j < i then M 169 (j + 213) else M 169 j) ⟨fun _ _ => rfl, fun j => by rw [if_neg (by omega)]⟩ (by
      intro i M' hi ⟨i1, i2⟩
      have hR' : Rf M' := Rf_of hR (fun q hq => by rw [i1 q.1 ((by decide +kernel : ∀ q ∈ rf_L, q.1 ≠ 169) q hq)])
      have e2 : M' 169 (i + 213) = M 169 (i + 213) := by rw [i2, if_neg (by omega)]
      have t : ((i : Int) + 213).toNat = i + 213 := by omega
      refine ⟨pz_up M' 169 i (M 169 (i + 213)), ⟨fun c hc => by funext z; rw [up_at, if_neg (fun h => hc h.1)]; rw [i1 c hc], fun j => ?_⟩, ?_⟩
      · rw [up_at]
        by_cases hj : j = i
        · rw [if_pos ⟨rfl, hj⟩, if_pos (by omega), hj]
        · rw [if_neg (fun h => hj h.2), i2 j]
          by_cases g : j < i
          · rw [if_pos g, if_pos (by omega)]
          · rw [if_neg g, if_neg (by omega)]
      · show pz_p bl_Mo_keep (pz_cal (d)) 0 0 13 [] [(2, 147), (0, (i : Int) + 213)] [] ((pz_SH, ss, 0, 0, dd), M') = pz_p bl_Mo_keep (pz_cal (d)) 0 0 13 [] [(2, 147), (0, (i : Int) + 1 + 213)] [] ((pz_SH, ss, 0, 0, dd), pz_up M' 169 i (M 169 (i + 213)))
        rw [j_Mo_keep_13]
        have t2 : ((i : Int) + 213 - 213).toNat = i := by omega
        have t3 : (i : Int) + 213 + 1 = (i : Int) + 1 + 213 := by omega
        simp (maxSteps := 1000000) (disch := omega) only [↓reduceIte, sp_0, sp_s, Option.map_some, Option.map_none, Option.some.injEq, o_le, o_nle, o_lt, o_nlt, o_eq, o_neq, w32_id, nw_s, px_iconst, px_bipush, px_sipush, px_ldc, px_ldc_w, px_lconst, px_ldc2_w, px_aconst_null, px_getstatic, px_iload_n, px_iload, px_lload_n, px_lload, px_aload_n, px_aload, px_istore_n, px_istore, px_astore_n, px_astore, px_lstore_n, px_lstore, px_iinc, px_iadd, px_isub, px_imul, px_iand, px_ior, px_ixor, px_ishl, px_ishr, px_iushr, px_ladd, px_lsub, px_lmul, px_land, px_lor, px_lcmp, px_lushr, px_lshl, px_ineg, px_i2l, px_l2i, px_idiv, px_irem, px_ldiv, px_lrem, px_dup0, px_pop0, px_dup2, px_pop2, px_dup2x, px_goto, px_if_eq, px_ic_eq, px_if_ne, px_ic_ne, px_if_lt, px_ic_lt, px_if_ge, px_ic_ge, px_if_gt, px_ic_gt, px_if_le, px_ic_le, px_ifnull, px_ifnonnull, px_lookupswitch, px_tableswitch, px_getfield, px_iaload, px_laload, px_caload, px_aaload, px_iastore, px_lastore, px_arraylength, px_putfield, px_ireturn, px_lreturn, px_areturn, px_return, px_iv0, px_is0, px_iv1, px_is1, px_iv2, px_is2, px_iv3, px_is3, px_iv4, px_is4, px_iv5, px_is5, px_iv6, px_is6, px_max, px_min, px_abs, px_maxJ, px_minJ, px_ii0, px_ii1, px_iio, px_copy, pz_cpk, pz_lk, pz_alk, pz_ask, pz_gfk, pz_lnk, pz_bx, pz_b, pz_z, pz_s1, pz_s2, pz_wt, pz_cmp, List.getElem?_cons_zero, List.getElem?_cons_succ, List.getElem?_nil, List.set_cons_zero, List.set_cons_succ, List.length_cons, List.length_nil, List.nil_append, List.cons_append, Option.toList_some, Option.toList_none, if_true, if_false, ite_true, ite_false, and_true, true_and, and_self, or_self, or_false, false_or, true_or, or_true, and_false, false_and, not_true_eq_false, not_false_eq_true, forall_const, ne_eq, reduceCtorEq, implies_true, false_implies, true_implies, Int.toNat_natCast, Nat.reduceAdd, Nat.reduceSub, Nat.reduceLT, Nat.reduceLeDiff, Nat.reduceEqDiff, Int.reduceLT, Int.reduceLE, Int.reduceToNat, Int.reduceNeg, Int.reduceEq, Int.reduceAdd, Nat.reduceMul, Int.reduceSub, Nat.reduceBEq, Int.reduceMul, Nat.add_zero, Nat.zero_add, Int.cast_ofNat_Int, Int.ofNat_eq_coe, decide_eq_true_eq, Nat.lt_irrefl, Nat.le_refl, List.getElem?_toArray, Option.elim_some, Option.elim_none, g_147, g_169, rf_147_35 hR', e2, t, t2, t3])
    have e1 : M3 147 36 = 40 := by rw [i1 147 (by decide)]; exact h36
    have t1 : pz_p bl_Mo_keep (pz_cal (d)) 0 0 13 [] [(2, 147), (0, 213)] [] ((pz_SH, ss, 0, 0, dd), M) = pz_p bl_Mo_keep (pz_cal (d)) 0 0 13 [] [(2, 147), (0, 8520)] [] ((pz_SH, ss, 0, 0, dd), M3) := t1
    have q3 : Kp M (pz_up M3 147 36 39) := ⟨fun c c1 c2 => by funext z; rw [up_at, if_neg (fun h => c1 h.1), i1 c c2], fun j hj => by rw [up_at, if_neg (fun h => hj h.2), i1 147 (by decide)]⟩
    obtain ⟨M', t5, q5, e5, f5⟩ := bas (pz_up M3 147 36 39) 39 (0, 8520) (by decide) (by rw [up_at, if_pos ⟨rfl, rfl⟩]; rfl) q3
    refine ⟨M', ?_, ⟨e5, by omega, fun i hi j hj => ?_⟩, q5⟩
    · have t5 : pz_p bl_Mo_keep (pz_cal (d)) 0 0 52 [] [(2, 147), (0, 8520)] [] ((pz_SH, ss, 0, 0, dd), pz_up M3 147 36 39) = some (none, ((pz_SH, ss, 0, 0, dd), M')) := t5
      have t2 : pz_p bl_Mo_keep (pz_cal (d)) 0 0 13 [] [(2, 147), (0, 8520)] [] ((pz_SH, ss, 0, 0, dd), M3) = pz_p bl_Mo_keep (pz_cal (d)) 0 0 52 [] [(2, 147), (0, 8520)] [] ((pz_SH, ss, 0, 0, dd), pz_up M3 147 36 39) := by
        rw [j_Mo_keep_13]
        simp (maxSteps := 1000000) (disch := omega) only [↓reduceIte, sp_0, sp_s, Option.map_some, Option.map_none, Option.some.injEq, o_le, o_nle, o_lt, o_nlt, o_eq, o_neq, w32_id, nw_s, px_iconst, px_bipush, px_sipush, px_ldc, px_ldc_w, px_lconst, px_ldc2_w, px_aconst_null, px_getstatic, px_iload_n, px_iload, px_lload_n, px_lload, px_aload_n, px_aload, px_istore_n, px_istore, px_astore_n, px_astore, px_lstore_n, px_lstore, px_iinc, px_iadd, px_isub, px_imul, px_iand, px_ior, px_ixor, px_ishl, px_ishr, px_iushr, px_ladd, px_lsub, px_lmul, px_land, px_lor, px_lcmp, px_lushr, px_lshl, px_ineg, px_i2l, px_l2i, px_idiv, px_irem, px_ldiv, px_lrem, px_dup0, px_pop0, px_dup2, px_pop2, px_dup2x, px_goto, px_if_eq, px_ic_eq, px_if_ne, px_ic_ne, px_if_lt, px_ic_lt, px_if_ge, px_ic_ge, px_if_gt, px_ic_gt, px_if_le, px_ic_le, px_ifnull, px_ifnonnull, px_lookupswitch, px_tableswitch, px_getfield, px_iaload, px_laload, px_caload, px_aaload, px_iastore, px_lastore, px_arraylength, px_putfield, px_ireturn, px_lreturn, px_areturn, px_return, px_iv0, px_is0, px_iv1, px_is1, px_iv2, px_is2, px_iv3, px_is3, px_iv4, px_is4, px_iv5, px_is5, px_iv6, px_is6, px_max, px_min, px_abs, px_maxJ, px_minJ, px_ii0, px_ii1, px_iio, px_copy, pz_cpk, pz_lk, pz_alk, pz_ask, pz_gfk, pz_lnk, pz_bx, pz_b, pz_z, pz_s1, pz_s2, pz_wt, pz_cmp, List.getElem?_cons_zero, List.getElem?_cons_succ, List.getElem?_nil, List.set_cons_zero, List.set_cons_succ, List.length_cons, List.length_nil, List.nil_append, List.cons_append, Option.toList_some, Option.toList_none, if_true, if_false, ite_true, ite_false, and_true, true_and, and_self, or_self, or_false, false_or, true_or, or_true, and_false, false_and, not_true_eq_false, not_false_eq_true, forall_const, ne_eq, reduceCtorEq, implies_true, false_implies, true_implies, Int.toNat_natCast, Nat.reduceAdd, Nat.reduceSub, Nat.reduceLT, Nat.reduceLeDiff, Nat.reduceEqDiff, Int.reduceLT, Int.reduceLE, Int.reduceToNat, Int.reduceNeg, Int.reduceEq, Int.reduceAdd, Nat.reduceMul, Int.reduceSub, Nat.reduceBEq, Int.reduceMul, Nat.add_zero, Nat.zero_add, Int.cast_ofNat_Int, Int.ofNat_eq_coe, decide_eq_true_eq, Nat.lt_irrefl, Nat.le_refl, List.getElem?_toArray, Option.elim_some, Option.elim_none, j_Mo_keep_42, g_147, e1]
      rw [← t5, ← t2, ← t1]
      simp (maxSteps := 1000000) (disch := omega) only [↓reduceIte, sp_0, sp_s, Option.map_some, Option.map_none, Option.some.injEq, o_le, o_nle, o_lt, o_nlt, o_eq, o_neq, w32_id, up_at, nw_at, nw_s, k_Mo_keep, px_iconst, px_bipush, px_sipush, px_ldc, px_ldc_w, px_lconst, px_ldc2_w, px_aconst_null, px_getstatic, px_iload_n, px_iload, px_lload_n, px_lload, px_aload_n, px_aload, px_istore_n, px_istore, px_astore_n, px_astore, px_lstore_n, px_lstore, px_iinc, px_iadd, px_isub, px_imul, px_iand, px_ior, px_ixor, px_ishl, px_ishr, px_iushr, px_ladd, px_lsub, px_lmul, px_land, px_lor, px_lcmp, px_lushr, px_lshl, px_ineg, px_i2l, px_l2i, px_idiv, px_irem, px_ldiv, px_lrem, px_dup0, px_pop0, px_dup2, px_pop2, px_dup2x, px_goto, px_if_eq, px_ic_eq, px_if_ne, px_ic_ne, px_if_lt, px_ic_lt, px_if_ge, px_ic_ge, px_if_gt, px_ic_gt, px_if_le, px_ic_le, px_ifnull, px_ifnonnull, px_lookupswitch, px_tableswitch, px_getfield, px_iaload, px_laload, px_caload, px_aaload, px_iastore, px_lastore, px_arraylength, px_putfield, px_ireturn, px_lreturn, px_areturn, px_return, px_iv0, px_is0, px_iv1, px_is1, px_iv2, px_is2, px_iv3, px_is3, px_iv4, px_is4, px_iv5, px_is5, px_iv6, px_is6, px_max, px_min, px_abs, px_maxJ, px_minJ, px_ii0, px_ii1, px_iio, px_copy, pz_cpk, pz_lk, pz_alk, pz_ask, pz_gfk, pz_lnk, pz_bx, pz_b, pz_z, pz_s1, pz_s2, pz_wt, pz_cmp, List.getElem?_cons_zero, List.getElem?_cons_succ, List.getElem?_nil, List.set_cons_zero, List.set_cons_succ, List.length_cons, List.length_nil, List.nil_append, List.cons_append, Option.toList_some, Option.toList_none, if_true, if_false, ite_true, ite_false, and_true, true_and, and_self, or_self, or_false, false_or, true_or, or_true, and_false, false_and, not_true_eq_false, not_false_eq_true, forall_const, ne_eq, reduceCtorEq, implies_true, false_implies, true_implies, Int.toNat_natCast, Nat.reduceAdd, Nat.reduceSub, Nat.reduceLT, Nat.reduceLeDiff, Nat.reduceEqDiff, Int.reduceLT, Int.reduceLE, Int.reduceToNat, Int.reduceNeg, Int.reduceEq, Int.reduceAdd, Nat.reduceMul, Int.reduceSub, Nat.reduceBEq, Int.reduceMul, Nat.add_zero, Nat.zero_add, Int.cast_ofNat_Int, Int.ofNat_eq_coe, decide_eq_true_eq, Nat.lt_irrefl, Nat.le_refl, List.getElem?_toArray, Option.elim_some, Option.elim_none, j_Mo_keep_0, g_147, h36]
    · rw [f5]
      cases i with
      | zero =>
        show _ = M 165 j
        rw [if_pos (by omega)]
        congr 1; omega
      | succ i =>
        show _ = G i j
        have hi : i + 1 < 40 := by omega
        rw [if_neg (by omega), up_at, if_neg (by omega), i2, if_pos (by omega), ← hG i (by omega) j hj]
        congr 1; omega
  · obtain ⟨M', t5, q5, e5, f5⟩ := bas M ln (9, 0) (by omega) h36 ⟨fun _ _ _ => rfl, fun _ _ => rfl⟩
    have mn : min 40 (ln + 1) = ln + 1 := by omega
    rw [mn]
    refine ⟨M', ?_, ⟨e5, by omega, fun i hi j hj => ?_⟩, q5⟩
    · have t5 : pz_p bl_Mo_keep (pz_cal (d)) 0 0 52 [] [(2, 147), (9, 0)] [] ((pz_SH, ss, 0, 0, dd), M) = some (none, ((pz_SH, ss, 0, 0, dd), M')) := t5
      rw [← t5]
      simp (maxSteps := 1000000) (disch := omega) only [↓reduceIte, sp_0, sp_s, Option.map_some, Option.map_none, Option.some.injEq, o_le, o_nle, o_lt, o_nlt, o_eq, o_neq, w32_id, up_at, nw_at, nw_s, k_Mo_keep, px_iconst, px_bipush, px_sipush, px_ldc, px_ldc_w, px_lconst, px_ldc2_w, px_aconst_null, px_getstatic, px_iload_n, px_iload, px_lload_n, px_lload, px_aload_n, px_aload, px_istore_n, px_istore, px_astore_n, px_astore, px_lstore_n, px_lstore, px_iinc, px_iadd, px_isub, px_imul, px_iand, px_ior, px_ixor, px_ishl, px_ishr, px_iushr, px_ladd, px_lsub, px_lmul, px_land, px_lor, px_lcmp, px_lushr, px_lshl, px_ineg, px_i2l, px_l2i, px_idiv, px_irem, px_ldiv, px_lrem, px_dup0, px_pop0, px_dup2, px_pop2, px_dup2x, px_goto, px_if_eq, px_ic_eq, px_if_ne, px_ic_ne, px_if_lt, px_ic_lt, px_if_ge, px_ic_ge, px_if_gt, px_ic_gt, px_if_le, px_ic_le, px_ifnull, px_ifnonnull, px_lookupswitch, px_tableswitch, px_getfield, px_iaload, px_laload, px_caload, px_aaload, px_iastore, px_lastore, px_arraylength, px_putfield, px_ireturn, px_lreturn, px_areturn, px_return, px_iv0, px_is0, px_iv1, px_is1, px_iv2, px_is2, px_iv3, px_is3, px_iv4, px_is4, px_iv5, px_is5, px_iv6, px_is6, px_max, px_min, px_abs, px_maxJ, px_minJ, px_ii0, px_ii1, px_iio, px_copy, pz_cpk, pz_lk, pz_alk, pz_ask, pz_gfk, pz_lnk, pz_bx, pz_b, pz_z, pz_s1, pz_s2, pz_wt, pz_cmp, List.getElem?_cons_zero, List.getElem?_cons_succ, List.getElem?_nil, List.set_cons_zero, List.set_cons_succ, List.length_cons, List.length_nil, List.nil_append, List.cons_append, Option.toList_some, Option.toList_none, if_true, if_false, ite_true, ite_false, and_true, true_and, and_self, or_self, or_false, false_or, true_or, or_true, and_false, false_and, not_true_eq_false, not_false_eq_true, forall_const, ne_eq, reduceCtorEq, implies_true, false_implies, true_implies, Int.toNat_natCast, Nat.reduceAdd, Nat.reduceSub, Nat.reduceLT, Nat.reduceLeDiff, Nat.reduceEqDiff, Int.reduceLT, Int.reduceLE, Int.reduceToNat, Int.reduceNeg, Int.reduceEq, Int.reduceAdd, Nat.reduceMul, Int.reduceSub, Nat.reduceBEq, Int.reduceMul, Nat.add_zero, Nat.zero_add, Int.cast_ofNat_Int, Int.ofNat_eq_coe, decide_eq_true_eq, Nat.lt_irrefl, Nat.le_refl, List.getElem?_toArray, Option.elim_some, Option.elim_none, j_Mo_keep_0, g_147, h36]
    · rw [f5]
      cases i with
      | zero =>
        show _ = M 165 j
        rw [if_pos (by omega)]
        congr 1; omega
      | succ i =>
        show _ = G i j
        rw [if_neg (by omega), ← hG i (by omega) j hj]
        congr 1; omega
end P55
