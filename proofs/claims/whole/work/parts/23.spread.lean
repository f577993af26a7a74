/-! THE CLASS'S SPREAD: one cat more -/
theorem pt_b {p : Int} {o : Nat → Int} {l d : Nat} (hp : 0 ≤ p) (h : Od o l) (hd : d < 4) : pt p o l d ≤ p := by
  have s := pt_s (p := p) h
  have a0 := pt_n hp h (d := 0) (by decide)
  have a1 := pt_n hp h (d := 1) (by decide)
  have a2 := pt_n hp h (d := 2) (by decide)
  have a3 := pt_n hp h (d := 3) (by decide)
  rcases (by omega : d = 0 ∨ d = 1 ∨ d = 2 ∨ d = 3) with rfl | rfl | rfl | rfl <;> omega
theorem pt_l {p : Int} {o : Nat → Int} {l : Nat} (h : Od o l) : p - sm (pt p o l) l = pt p o l l := by
  have z1 := @qt_z p o l 1 h (by decide)
  have z2 := @qt_z p o l 2 h (by decide)
  have z3 := @qt_z p o l 3 h (by decide)
  have e : pt p o l l = p - (sm (qt p o) 4 - qt p o l) := by unfold pt; rw [if_pos rfl]
  have hl := h.2.2.1
  rw [e, sm4]
  rcases (by omega : l = 0 ∨ l = 1 ∨ l = 2 ∨ l = 3) with rfl | rfl | rfl | rfl <;> simp only [sm, pt, Nat.reduceEqDiff, if_false] <;> (try rw [z1 (by decide)]) <;> (try rw [z2 (by decide)]) <;> (try rw [z3 (by decide)]) <;> omega
theorem cn_b {P : Nat → Nat} {i : Nat} {pp : Nat → Int} : ∀ n, (∀ d, d < n → pp d ≤ 1000000000) → ∀ k, cn P i pp n k ≤ 1000000000 * n
  | 0, _, _ => Int.le_refl 0
  | n + 1, h, k => by
    have h1 := cn_b (P := P) (i := i) n (fun d hd => h d (by omega)) k
    have h2 := h n (by omega)
    unfold cn
    split <;> omega
theorem ex_b {P : Nat → Nat} {o : Nat → Int} {l : Nat} {p : Nat → Int} (h : Od o l) : ∀ n, (∀ i, i < n → 0 ≤ p i ∧ p i ≤ 1000000000) → ∀ k, ex P o l p n k ≤ 4000000000 * n
  | 0, _, _ => Int.le_refl 0
  | n + 1, hp, k => by
    have h1 := ex_b (P := P) h n (fun i hi => hp i (by omega)) k
    have h3 := hp n (by omega)
    have h2 := cn_b (P := P) (i := n) (pp := pt (p n) o l) 4 (fun d hd => Int.le_trans (pt_b h3.1 h hd) h3.2) k
    unfold ex
    omega
/-- a side of the scales -/
def Sd (b : Nat) : Prop := b = 104 ∨ b = 119
theorem Sd_le {b : Nat} (h : Sd b) : b = 104 ∨ b = 119 := h
section P23
variable {d : Nat} {ss : List (Nat × Nat)} {dd : Nat} {M : pz_M} {b : Nat}
theorem sd0 (h : Sd b) (M : pz_M) : pz_sh ((pz_SH, ss, 0, 0, dd), M) (b : Int) = some (8, 5) := by rcases h with rfl | rfl <;> rfl
theorem sd1 (h : Sd b) (M : pz_M) : pz_sh ((pz_SH, ss, 0, 0, dd), M) ((b + 1 : Nat) : Int) = some (104, 9) := by rcases h with rfl | rfl <;> rfl
theorem sd11 (h : Sd b) (M : pz_M) : pz_sh ((pz_SH, ss, 0, 0, dd), M) ((b + 11 : Nat) : Int) = some (100, 9) := by rcases h with rfl | rfl <;> rfl
theorem sd12 (h : Sd b) (M : pz_M) : pz_sh ((pz_SH, ss, 0, 0, dd), M) ((b + 12 : Nat) : Int) = some (100, 64) := by rcases h with rfl | rfl <;> rfl
theorem sd13 (h : Sd b) (M : pz_M) : pz_sh ((pz_SH, ss, 0, 0, dd), M) ((b + 13 : Nat) : Int) = some (100, 16) := by rcases h with rfl | rfl <;> rfl
theorem sd14 (h : Sd b) (M : pz_M) : pz_sh ((pz_SH, ss, 0, 0, dd), M) ((b + 14 : Nat) : Int) = some (100, 4) := by rcases h with rfl | rfl <;> rfl
theorem sdr (h : Sd b) (M : pz_M) {i : Nat} (hi : i < 9) : pz_sh ((pz_SH, ss, 0, 0, dd), M) ((b + 2 + i : Nat) : Int) = some (101, 73) := by
  have := sh_parts i hi
  rcases h with rfl | rfl
  · exact sh_of (by omega) this.1
  · exact sh_of (by omega) this.2
theorem sf0 (h : Sd b) (hR : Rf M) : M b 0 = ((b + 1 : Nat) : Int) := by
  rcases h with rfl | rfl
  · exact rf_104_0 hR
  · exact rf_119_0 hR
theorem sf1 (h : Sd b) (hR : Rf M) : M b 1 = ((b + 11 : Nat) : Int) := by
  rcases h with rfl | rfl
  · exact rf_104_1 hR
  · exact rf_119_1 hR
theorem sf2 (h : Sd b) (hR : Rf M) : M b 2 = ((b + 12 : Nat) : Int) := by
  rcases h with rfl | rfl
  · exact rf_104_2 hR
  · exact rf_119_2 hR
theorem sf3 (h : Sd b) (hR : Rf M) : M b 3 = ((b + 13 : Nat) : Int) := by
  rcases h with rfl | rfl
  · exact rf_104_3 hR
  · exact rf_119_3 hR
theorem sf4 (h : Sd b) (hR : Rf M) : M b 4 = ((b + 14 : Nat) : Int) := by
  rcases h with rfl | rfl
  · exact rf_104_4 hR
  · exact rf_119_4 hR
theorem sfr (h : Sd b) (hR : Rf M) {i : Nat} (hi : i < 9) : M (b + 1) i = ((b + 2 + i : Nat) : Int) := by
  have := rf_parts hR hi
  rcases h with rfl | rfl
  · exact this.1
  · exact this.2
set_option maxRecDepth 100000 in
/-- the inner loop: one place's parts, deed by deed -/
theorem c_Sp_extend_d {m pl l i : Nat} {P : Nat → Nat} {o p : Nat → Int} (hb : Sd b) (hR : Rf M) (hm : m < 8) (hpl : pl < 16) (hi : i ≤ 9 * m) (hP : ∀ d, d < 4 → M (b + 14) d = (P d : Int) ∧ P d ≤ 9) (ho : ∀ d, d < 4 → M (b + 12) (4 * pl + d) = o d) (hl : M (b + 13) pl = (l : Int)) (hO : Od o l) (hp : M (b + 2 + m) i = p i ∧ 0 ≤ p i ∧ p i ≤ 1000000000) : ∀ (j e : Nat) (f : Nat → Int) (t9 t10 t11 : pz_V), e + j = 4 → (∀ k, k < 73 → 0 ≤ f k ∧ f k ≤ 4000000000 * i + 1000000000 * e) → ∃ f' t6 t7 t8 t9' t10' t11', pz_p bl_Sp_extend (pz_cal (d)) 0 0 95 [] [(2, (b : Int)), (0, (m : Int) + 1), (0, (pl : Int)), (2, ((b + 2 + m : Nat) : Int)), (2, ((b + 2 + (m + 1) : Nat) : Int)), (0, (i : Int)), (1, p i - sm (pt (p i) o l) e), (9, 0), (0, (e : Int)), (t9.1, t9.2), (t10.1, t10.2), (t11.1, t11.2)] [] ((pz_SH, ss, 0, 0, dd), pz_nw M (b + 2 + (m + 1)) f) = pz_p bl_Sp_extend (pz_cal d) 0 0 195 [] [(2, (b : Int)), (0, (m : Int) + 1), (0, (pl : Int)), (2, ((b + 2 + m : Nat) : Int)), (2, ((b + 2 + (m + 1) : Nat) : Int)), (0, (i : Int)), t6, t7, t8, t9', t10', t11'] [] ((pz_SH, ss, 0, 0, dd), pz_nw M (b + 2 + (m + 1)) f') ∧ ∀ k, k < 73 → f' k + cn P i (pt (p i) o l) e k = f k + cn P i (pt (p i) o l) 4 k
  | 0, e, f, t9, t10, t11, he, hf => by
    have e4 : e = 4 := by omega
    subst e4
    refine ⟨f, (1, p i - sm (pt (p i) o l) 4), (9, 0), (0, ((4 : Nat) : Int)), t9, t10, t11, ?_, fun k _ => rfl⟩
    rw [j_Sp_extend_95]
    simp (maxSteps := 1000000) (disch := omega) only [↓reduceIte, sp_0, sp_s, Option.map_some, Option.map_none, Option.some.injEq, o_le, o_nle, o_lt, o_nlt, o_eq, o_neq, w32_id, up_at, nw_at, nw_s, px_iconst, px_bipush, px_sipush, px_ldc, px_ldc_w, px_lconst, px_ldc2_w, px_aconst_null, px_getstatic, px_iload_n, px_iload, px_lload_n, px_lload, px_aload_n, px_aload, px_istore_n, px_istore, px_astore_n, px_astore, px_lstore_n, px_lstore, px_iinc, px_iadd, px_isub, px_imul, px_iand, px_ior, px_ixor, px_ishl, px_ishr, px_iushr, px_ladd, px_lsub, px_lmul, px_land, px_lor, px_lcmp, px_lushr, px_lshl, px_ineg, px_i2l, px_l2i, px_idiv, px_irem, px_ldiv, px_lrem, px_dup0, px_pop0, px_dup2, px_pop2, px_dup2x, px_goto, px_if_eq, px_ic_eq, px_if_ne, px_ic_ne, px_if_lt, px_ic_lt, px_if_ge, px_ic_ge, px_if_gt, px_ic_gt, px_if_le, px_ic_le, px_ifnull, px_ifnonnull, px_lookupswitch, px_tableswitch, px_getfield, px_iaload, px_laload, px_caload, px_aaload, px_iastore, px_lastore, px_arraylength, px_putfield, px_ireturn, px_lreturn, px_areturn, px_return, px_iv0, px_is0, px_iv1, px_is1, px_iv2, px_is2, px_iv3, px_is3, px_iv4, px_is4, px_iv5, px_is5, px_iv6, px_is6, px_max, px_min, px_abs, px_maxJ, px_minJ, px_ii0, px_ii1, px_iio, px_copy, pz_cpk, pz_lk, pz_alk, pz_ask, pz_gfk, pz_lnk, pz_bx, pz_b, pz_z, pz_s1, pz_s2, pz_wt, pz_cmp, List.getElem?_cons_zero, List.getElem?_cons_succ, List.getElem?_nil, List.set_cons_zero, List.set_cons_succ, List.length_cons, List.length_nil, List.nil_append, List.cons_append, Option.toList_some, Option.toList_none, if_true, if_false, ite_true, ite_false, and_true, true_and, and_self, or_self, or_false, false_or, true_or, or_true, and_false, false_and, not_true_eq_false, not_false_eq_true, forall_const, ne_eq, reduceCtorEq, implies_true, false_implies, true_implies, Int.toNat_natCast, Nat.reduceAdd, Nat.reduceSub, Nat.reduceLT, Nat.reduceLeDiff, Nat.reduceEqDiff, Int.reduceLT, Int.reduceLE, Int.reduceToNat, Int.reduceNeg, Int.reduceEq, Int.reduceAdd, Nat.reduceMul, Int.reduceSub, Nat.reduceBEq, Int.reduceMul, Nat.add_zero, Nat.zero_add, Int.cast_ofNat_Int, Int.ofNat_eq_coe, decide_eq_true_eq, Nat.lt_irrefl, Nat.le_refl, List.getElem?_toArray, Option.elim_some, Option.elim_none]
  | j + 1, e, f, t9, t10, t11, he, hf => by
    have hs := pt_s (p := p i) hO
    have n0 := pt_n hp.2.1 hO (d := 0) (by decide)
    have n1 := pt_n hp.2.1 hO (d := 1) (by decide)
    have n2 := pt_n hp.2.1 hO (d := 2) (by decide)
    have n3 := pt_n hp.2.1 hO (d := 3) (by decide)
    have hov : 0 ≤ p i - sm (pt (p i) o l) e ∧ p i - sm (pt (p i) o l) e ≤ 1000000000 := by
      rcases (by omega : e = 0 ∨ e = 1 ∨ e = 2 ∨ e = 3) with rfl | rfl | rfl | rfl <;> simp only [sm] <;> omega
    by_cases hz : p i - sm (pt (p i) o l) e ≤ 0
    · refine ⟨f, (1, p i - sm (pt (p i) o l) e), (9, 0), (0, (e : Int)), t9, t10, t11, ?_, ?_⟩
      · rw [j_Sp_extend_95]
        simp (maxSteps := 1000000) (disch := omega) only [↓reduceIte, sp_0, sp_s, Option.map_some, Option.map_none, Option.some.injEq, o_le, o_nle, o_lt, o_nlt, o_eq, o_neq, w32_id, up_at, nw_at, nw_s, px_iconst, px_bipush, px_sipush, px_ldc, px_ldc_w, px_lconst, px_ldc2_w, px_aconst_null, px_getstatic, px_iload_n, px_iload, px_lload_n, px_lload, px_aload_n, px_aload, px_istore_n, px_istore, px_astore_n, px_astore, px_lstore_n, px_lstore, px_iinc, px_iadd, px_isub, px_imul, px_iand, px_ior, px_ixor, px_ishl, px_ishr, px_iushr, px_ladd, px_lsub, px_lmul, px_land, px_lor, px_lcmp, px_lushr, px_lshl, px_ineg, px_i2l, px_l2i, px_idiv, px_irem, px_ldiv, px_lrem, px_dup0, px_pop0, px_dup2, px_pop2, px_dup2x, px_goto, px_if_eq, px_ic_eq, px_if_ne, px_ic_ne, px_if_lt, px_ic_lt, px_if_ge, px_ic_ge, px_if_gt, px_ic_gt, px_if_le, px_ic_le, px_ifnull, px_ifnonnull, px_lookupswitch, px_tableswitch, px_getfield, px_iaload, px_laload, px_caload, px_aaload, px_iastore, px_lastore, px_arraylength, px_putfield, px_ireturn, px_lreturn, px_areturn, px_return, px_iv0, px_is0, px_iv1, px_is1, px_iv2, px_is2, px_iv3, px_is3, px_iv4, px_is4, px_iv5, px_is5, px_iv6, px_is6, px_max, px_min, px_abs, px_maxJ, px_minJ, px_ii0, px_ii1, px_iio, px_copy, pz_cpk, pz_lk, pz_alk, pz_ask, pz_gfk, pz_lnk, pz_bx, pz_b, pz_z, pz_s1, pz_s2, pz_wt, pz_cmp, List.getElem?_cons_zero, List.getElem?_cons_succ, List.getElem?_nil, List.set_cons_zero, List.set_cons_succ, List.length_cons, List.length_nil, List.nil_append, List.cons_append, Option.toList_some, Option.toList_none, if_true, if_false, ite_true, ite_false, and_true, true_and, and_self, or_self, or_false, false_or, true_or, or_true, and_false, false_and, not_true_eq_false, not_false_eq_true, forall_const, ne_eq, reduceCtorEq, implies_true, false_implies, true_implies, Int.toNat_natCast, Nat.reduceAdd, Nat.reduceSub, Nat.reduceLT, Nat.reduceLeDiff, Nat.reduceEqDiff, Int.reduceLT, Int.reduceLE, Int.reduceToNat, Int.reduceNeg, Int.reduceEq, Int.reduceAdd, Nat.reduceMul, Int.reduceSub, Nat.reduceBEq, Int.reduceMul, Nat.add_zero, Nat.zero_add, Int.cast_ofNat_Int, Int.ofNat_eq_coe, decide_eq_true_eq, Nat.lt_irrefl, Nat.le_refl, List.getElem?_toArray, Option.elim_some, Option.elim_none]
      · intro k hk
        rcases (by omega : e = 0 ∨ e = 1 ∨ e = 2 ∨ e = 3) with rfl | rfl | rfl | rfl <;> simp only [sm] at hz <;> simp only [cn] <;> (repeat' split) <;> omega
    · have hPe := hP e (by omega)
      have hpe := pt_n hp.2.1 hO (d := e) (by omega)
      have hpb := pt_b hp.2.1 hO (d := e) (by omega)
      have hsum := hf (i + P e) (by omega)
      have hoe := ho e (by omega)
      have hO1 := hO.1 e (by omega)
      obtain ⟨f', t6, t7, t8, t9', t10', t11', ih, ih2⟩ := c_Sp_extend_d hb hR hm hpl hi hP ho hl hO hp j (e + 1) (upf f (i + P e) (f (i + P e) + pt (p i) o l e)) (1, pt (p i) o l e) (9, 0) (0, (i : Int) + P e) (by omega) (by
        intro k hk
        have := hf k hk
        rw [upf_at]
        split
        · next e => subst e; omega
        · omega)
      refine ⟨f', t6, t7, t8, t9', t10', t11', ?_, ?_⟩
      · rw [← ih]
        have hb2 := Sd_le hb
        have k12 : ∀ g, pz_nw M (b + 2 + (m + 1)) g (b + 12) = M (b + 12) := fun g => nw_o (by omega)
        have k13 : ∀ g, pz_nw M (b + 2 + (m + 1)) g (b + 13) = M (b + 13) := fun g => nw_o (by omega)
        have k14 : ∀ g, pz_nw M (b + 2 + (m + 1)) g (b + 14) = M (b + 14) := fun g => nw_o (by omega)
        have kb : ∀ g, pz_nw M (b + 2 + (m + 1)) g b = M b := fun g => nw_o (by omega)
        have kr : ∀ g, pz_nw M (b + 2 + (m + 1)) g (b + 2 + m) = M (b + 2 + m) := fun g => nw_o (by omega)
        have s0 := sd0 (ss := ss) (dd := dd) hb
        have s12 := sd12 (ss := ss) (dd := dd) hb
        have s13 := sd13 (ss := ss) (dd := dd) hb
        have s14 := sd14 (ss := ss) (dd := dd) hb
        have sr0 := fun M' => sdr (ss := ss) (dd := dd) hb M' (i := m) (by omega)
        have sr1 := fun M' => sdr (ss := ss) (dd := dd) hb M' (i := m + 1) (by omega)
        have t1 : ((i : Int) + P e).toNat = i + P e := by omega
        have t2 : ((pl : Int) * 4 + e).toNat = 4 * pl + e := by omega
        have u1 : pz_w64 (f (i + P e) + pt (p i) o l e) = f (i + P e) + pt (p i) o l e := w64_id (by omega) (by omega)
        show pz_p bl_Sp_extend (pz_cal (d)) 0 0 95 [] [(2, (b : Int)), (0, (m : Int) + 1), (0, (pl : Int)), (2, ((b + 2 + m : Nat) : Int)), (2, ((b + 2 + (m + 1) : Nat) : Int)), (0, (i : Int)), (1, p i - sm (pt (p i) o l) e), (9, 0), (0, (e : Int)), (t9.1, t9.2), (t10.1, t10.2), (t11.1, t11.2)] [] ((pz_SH, ss, 0, 0, dd), pz_nw M (b + 2 + (m + 1)) f) = pz_p bl_Sp_extend (pz_cal (d)) 0 0 95 [] [(2, (b : Int)), (0, (m : Int) + 1), (0, (pl : Int)), (2, ((b + 2 + m : Nat) : Int)), (2, ((b + 2 + (m + 1) : Nat) : Int)), (0, (i : Int)), (1, p i - (sm (pt (p i) o l) e + pt (p i) o l e)), (9, 0), (0, (e : Int) + 1), (1, pt (p i) o l e), (9, 0), (0, (i : Int) + P e)] [] ((pz_SH, ss, 0, 0, dd), pz_nw M (b + 2 + (m + 1)) (upf f (i + P e) (f (i + P e) + pt (p i) o l e)))
        rw [j_Sp_extend_95, show p i - (sm (pt (p i) o l) e + pt (p i) o l e) = p i - sm (pt (p i) o l) e - pt (p i) o l e by omega]
        have u2 : pz_w64 (p i - sm (pt (p i) o l) e - pt (p i) o l e) = p i - sm (pt (p i) o l) e - pt (p i) o l e := w64_id (by omega) (by omega)
        by_cases hel : e = l
        · have el : (e : Int) = (l : Int) := by omega
          have ep : p i - sm (pt (p i) o l) e = pt (p i) o l e := by rw [hel]; exact pt_l hO
          rw [ep] at u2 hz ⊢
          simp (maxSteps := 1000000) (disch := omega) only [↓reduceIte, sp_0, sp_s, Option.map_some, Option.map_none, Option.some.injEq, o_le, o_nle, o_lt, o_nlt, o_eq, o_neq, w32_id, nw_s, px_iconst, px_bipush, px_sipush, px_ldc, px_ldc_w, px_lconst, px_ldc2_w, px_aconst_null, px_getstatic, px_iload_n, px_iload, px_lload_n, px_lload, px_aload_n, px_aload, px_istore_n, px_istore, px_astore_n, px_astore, px_lstore_n, px_lstore, px_iinc, px_iadd, px_isub, px_imul, px_iand, px_ior, px_ixor, px_ishl, px_ishr, px_iushr, px_ladd, px_lsub, px_lmul, px_land, px_lor, px_lcmp, px_lushr, px_lshl, px_ineg, px_i2l, px_l2i, px_idiv, px_irem, px_ldiv, px_lrem, px_dup0, px_pop0, px_dup2, px_pop2, px_dup2x, px_goto, px_if_eq, px_ic_eq, px_if_ne, px_ic_ne, px_if_lt, px_ic_lt, px_if_ge, px_ic_ge, px_if_gt, px_ic_gt, px_if_le, px_ic_le, px_ifnull, px_ifnonnull, px_lookupswitch, px_tableswitch, px_getfield, px_iaload, px_laload, px_caload, px_aaload, px_iastore, px_lastore, px_arraylength, px_putfield, px_ireturn, px_lreturn, px_areturn, px_return, px_iv0, px_is0, px_iv1, px_is1, px_iv2, px_is2, px_iv3, px_is3, px_iv4, px_is4, px_iv5, px_is5, px_iv6, px_is6, px_max, px_min, px_abs, px_maxJ, px_minJ, px_ii0, px_ii1, px_iio, px_copy, pz_cpk, pz_lk, pz_alk, pz_ask, pz_gfk, pz_lnk, pz_bx, pz_b, pz_z, pz_s1, pz_s2, pz_wt, pz_cmp, List.getElem?_cons_zero, List.getElem?_cons_succ, List.getElem?_nil, List.set_cons_zero, List.set_cons_succ, List.length_cons, List.length_nil, List.nil_append, List.cons_append, Option.toList_some, Option.toList_none, if_true, if_false, ite_true, ite_false, and_true, true_and, and_self, or_self, or_false, false_or, true_or, or_true, and_false, false_and, not_true_eq_false, not_false_eq_true, forall_const, ne_eq, reduceCtorEq, implies_true, false_implies, true_implies, Int.toNat_natCast, Nat.reduceAdd, Nat.reduceSub, Nat.reduceLT, Nat.reduceLeDiff, Nat.reduceEqDiff, Int.reduceLT, Int.reduceLE, Int.reduceToNat, Int.reduceNeg, Int.reduceEq, Int.reduceAdd, Nat.reduceMul, Int.reduceSub, Nat.reduceBEq, Int.reduceMul, Nat.add_zero, Nat.zero_add, Int.cast_ofNat_Int, Int.ofNat_eq_coe, decide_eq_true_eq, Nat.lt_irrefl, Nat.le_refl, List.getElem?_toArray, Option.elim_some, Option.elim_none, j_Sp_extend_124, j_Sp_extend_145, j_Sp_extend_182, s0, s13, s14, sr1, kb, k13, k14, sf3 hb hR, sf4 hb hR, hl, hPe.1, t1, u1, u2, nw_u]
        · have el : ¬ (e : Int) = (l : Int) := by omega
          have em := pn_mulr hp.2.1 hp.2.2 hO1.1 hO1.2
          have eq1 : pz_ldiv (p i * o e) 1000000000 = pt (p i) o l e := by
            rw [pn_ldiv em.1 (by omega) (by decide) (by decide)]
            unfold pt
            rw [if_neg hel]
            rfl
          have u3 : pz_w64 (p i * o e) = p i * o e := w64_id (by omega) (by omega)
          simp (maxSteps := 1000000) (disch := omega) only [↓reduceIte, sp_0, sp_s, Option.map_some, Option.map_none, Option.some.injEq, o_le, o_nle, o_lt, o_nlt, o_eq, o_neq, w32_id, nw_s, px_iconst, px_bipush, px_sipush, px_ldc, px_ldc_w, px_lconst, px_ldc2_w, px_aconst_null, px_getstatic, px_iload_n, px_iload, px_lload_n, px_lload, px_aload_n, px_aload, px_istore_n, px_istore, px_astore_n, px_astore, px_lstore_n, px_lstore, px_iinc, px_iadd, px_isub, px_imul, px_iand, px_ior, px_ixor, px_ishl, px_ishr, px_iushr, px_ladd, px_lsub, px_lmul, px_land, px_lor, px_lcmp, px_lushr, px_lshl, px_ineg, px_i2l, px_l2i, px_idiv, px_irem, px_ldiv, px_lrem, px_dup0, px_pop0, px_dup2, px_pop2, px_dup2x, px_goto, px_if_eq, px_ic_eq, px_if_ne, px_ic_ne, px_if_lt, px_ic_lt, px_if_ge, px_ic_ge, px_if_gt, px_ic_gt, px_if_le, px_ic_le, px_ifnull, px_ifnonnull, px_lookupswitch, px_tableswitch, px_getfield, px_iaload, px_laload, px_caload, px_aaload, px_iastore, px_lastore, px_arraylength, px_putfield, px_ireturn, px_lreturn, px_areturn, px_return, px_iv0, px_is0, px_iv1, px_is1, px_iv2, px_is2, px_iv3, px_is3, px_iv4, px_is4, px_iv5, px_is5, px_iv6, px_is6, px_max, px_min, px_abs, px_maxJ, px_minJ, px_ii0, px_ii1, px_iio, px_copy, pz_cpk, pz_lk, pz_alk, pz_ask, pz_gfk, pz_lnk, pz_bx, pz_b, pz_z, pz_s1, pz_s2, pz_wt, pz_cmp, List.getElem?_cons_zero, List.getElem?_cons_succ, List.getElem?_nil, List.set_cons_zero, List.set_cons_succ, List.length_cons, List.length_nil, List.nil_append, List.cons_append, Option.toList_some, Option.toList_none, if_true, if_false, ite_true, ite_false, and_true, true_and, and_self, or_self, or_false, false_or, true_or, or_true, and_false, false_and, not_true_eq_false, not_false_eq_true, forall_const, ne_eq, reduceCtorEq, implies_true, false_implies, true_implies, Int.toNat_natCast, Nat.reduceAdd, Nat.reduceSub, Nat.reduceLT, Nat.reduceLeDiff, Nat.reduceEqDiff, Int.reduceLT, Int.reduceLE, Int.reduceToNat, Int.reduceNeg, Int.reduceEq, Int.reduceAdd, Nat.reduceMul, Int.reduceSub, Nat.reduceBEq, Int.reduceMul, Nat.add_zero, Nat.zero_add, Int.cast_ofNat_Int, Int.ofNat_eq_coe, decide_eq_true_eq, Nat.lt_irrefl, Nat.le_refl, List.getElem?_toArray, Option.elim_some, Option.elim_none, j_Sp_extend_124, j_Sp_extend_145, j_Sp_extend_182, s0, s12, s13, s14, sr0, sr1, kb, k12, k13, k14, kr, sf2 hb hR, sf3 hb hR, sf4 hb hR, hl, hPe.1, hoe, hp.1, t1, t2, u1, u2, u3, eq1, nw_u]
      · intro k hk
        have h3 := ih2 k hk
        simp only [cn] at h3 ⊢
        rw [upf_at] at h3
        by_cases hk2 : k = i + P e
        · rw [if_pos hk2, if_pos hk2.symm] at h3
          rw [hk2] at h3 ⊢
          omega
        · rw [if_neg hk2, if_neg (fun h => hk2 h.symm)] at h3
          omega
end P23
