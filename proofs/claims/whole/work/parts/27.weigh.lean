/-! THE CLASS'S SCALES: a whole set, verdicts -/
theorem tb_mod_s {s n i : Nat} : (s % 2 ^ (n + 1)).testBit i = true → i = n ∨ (s % 2 ^ n).testBit i = true := by
  rw [tb_mod, tb_mod]
  intro h
  have h2 := Bool.and_eq_true_iff.mp h
  have h3 : i < n + 1 := by simpa using h2.1
  by_cases e : i = n
  · exact .inl e
  · exact .inr (by rw [decide_eq_true (show i < n by omega), h2.2]; rfl)
theorem SpF_put {M M' : pz_M} {b A A' pl : Nat} {P : Nat → Nat} {O : Nat → Nat → Int} {l : Nat → Nat} (h : SpF M b P O l A) (h1 : ∀ d, d < 4 → M' (b + 12) (4 * pl + d) = O pl d) (h2 : M' (b + 13) pl = (l pl : Int)) (h3 : ∀ i, i / 4 ≠ pl → M' (b + 12) i = M (b + 12) i) (h4 : ∀ i, i ≠ pl → M' (b + 13) i = M (b + 13) i) (h5 : ∀ c, c ≠ b + 12 → c ≠ b + 13 → M' c = M c) (hO : Od (O pl) (l pl)) (hA : ∀ i, A'.testBit i = true → i = pl ∨ A.testBit i = true) : SpF M' b P O l A' := by
  obtain ⟨a1, a2, a3, a4⟩ := h
  refine ⟨fun d hd => ?_, fun i hi hi2 => ?_, fun k hk => ?_, fun v v1 v8 => ?_⟩
  · rw [h5 _ (by omega) (by omega)]; exact a1 d hd
  · by_cases e : i = pl
    · subst e
      exact ⟨h1, h2, hO⟩
    · obtain ⟨b1, b2, b3⟩ := a2 i hi ((hA i hi2).resolve_left e)
      exact ⟨fun d hd => by rw [h3 _ (by omega)]; exact b1 d hd, by rw [h4 _ e]; exact b2, b3⟩
  · rw [h5 _ (by omega) (by omega)]; exact a3 k hk
  · rw [h5 _ (by omega) (by omega)]; exact a4 v v1 v8
/-- odds and last deeds of cats -/
def OO (L : Option ((Nat → Int) → Int)) (R : Nat → Int) (a g : Nat) (c : Nat) : Nat → Int := od (mo L R c a g)
def LL (L : Option ((Nat → Int) → Int)) (R : Nat → Int) (a g : Nat) (c : Nat) : Nat := lst (mo L R c a g) 4
theorem OO_Od {L : Option ((Nat → Int) → Int)} {R : Nat → Int} {a g c : Nat} : Od (OO L R a g c) (LL L R a g c) := Od_od mo_4
/-- both sides of the scales know the cats of s -/
def We (M : pz_M) (L : Option ((Nat → Int) → Int)) (R : Nat → Int) (a s : Nat) : Prop := ∀ g, g < 2 → SpI M (sdb g) (Pt R) (OO L R a g) (LL L R a g) s
theorem MS_12 {c : Nat} (h : c ∉ MS) : c ≠ 116 ∧ c ≠ 117 ∧ c ≠ 118 ∧ c ≠ 115 ∧ c ≠ 106 ∧ c ≠ 131 ∧ c ≠ 132 ∧ c ≠ 133 ∧ c ≠ 130 ∧ c ≠ 121 := by
  refine ⟨?_, ?_, ?_, ?_, ?_, ?_, ?_, ?_, ?_, ?_⟩ <;> (intro e; subst e; exact h (by decide))
theorem RK_sd : ∀ c ∈ RK, c < 104 ∨ 134 < c := by decide
theorem Z0_fr {l : List Nat} {M M' : pz_M} (h : Z0 M) (f : Fr l M M') (h1 : 106 ∉ l) (h2 : 121 ∉ l) : Z0 M' := fun k a b => by rw [f _ h1, f _ h2]; exact h k a b
section P27
variable {d : Nat} {ss : List (Nat × Nat)} {dd : Nat} {M : pz_M} {r : Int} {q b : Nat} {L : Option ((Nat → Int) → Int)}
set_option maxRecDepth 100000 in
theorem c_Sc_put {pl c a g : Nat} (h : Md M r q L) (hpl : pl < 16) (hc : c < 8) (ha : a < 6) (hg : g < 2) : ∃ M', pz_cal (d + 5) 67 [(2, 103), (0, (pl : Int)), (0, (c : Int)), (0, (a : Int)), (0, (g : Int))] ((pz_SH, ss, 0, 0, dd), M) = some (none, ((pz_SH, ss, 0, 0, dd), M')) ∧ (∀ d, d < 4 → M' (sdb g + 12) (4 * pl + d) = OO L (M q) a g c d) ∧ M' (sdb g + 13) pl = (LL L (M q) a g c : Int) ∧ (∀ i, i / 4 ≠ pl → M' (sdb g + 12) i = M (sdb g + 12) i) ∧ (∀ i, i ≠ pl → M' (sdb g + 13) i = M (sdb g + 13) i) ∧ (∀ c, c ∉ RK → c ≠ sdb g + 12 → c ≠ sdb g + 13 → M' c = M c) := by
  have hR := h.1
  obtain ⟨M1, e1, f1, v1⟩ := c_Mi_reckon (d := d) (ss := ss) (dd := dd) h hc ha hg
  have hR1 := (Md_fr h f1 RK_MS).1
  have hb2 := Sd_le (sdb_Sd g)
  obtain ⟨M2, e2, w1, w2, w3, w4, w5⟩ := c_Sp_put (d := d + 3) (ss := ss) (dd := dd) (pl := pl) (sdb_Sd g) hR1 hpl v1 (OO_Od (L := L) (R := M q) (a := a) (g := g) (c := c))
  have n1 : sdb g + 12 ∉ RK := fun h => by have := RK_sd _ h; omega
  have n2 : sdb g + 13 ∉ RK := fun h => by have := RK_sd _ h; omega
  refine ⟨M2, ?_, w1, ?_, ?_, ?_, ?_⟩
  · have s0 := sd0 (ss := ss) (dd := dd) (sdb_Sd g)
    have c2 := c_Sc_side (d := d + 3) (ss := ss) (dd := dd) (g := g) hR
    simp (maxSteps := 1000000) (disch := omega) only [↓reduceIte, sp_0, sp_s, Option.map_some, Option.map_none, Option.some.injEq, o_le, o_nle, o_lt, o_nlt, o_eq, o_neq, w32_id, up_at, nw_at, nw_s, k_Sc_put, px_iconst, px_bipush, px_sipush, px_ldc, px_ldc_w, px_lconst, px_ldc2_w, px_aconst_null, px_getstatic, px_iload_n, px_iload, px_lload_n, px_lload, px_aload_n, px_aload, px_istore_n, px_istore, px_astore_n, px_astore, px_lstore_n, px_lstore, px_iinc, px_iadd, px_isub, px_imul, px_iand, px_ior, px_ixor, px_ishl, px_ishr, px_iushr, px_ladd, px_lsub, px_lmul, px_land, px_lor, px_lcmp, px_lushr, px_lshl, px_ineg, px_i2l, px_l2i, px_idiv, px_irem, px_ldiv, px_lrem, px_dup0, px_pop0, px_dup2, px_pop2, px_dup2x, px_goto, px_if_eq, px_ic_eq, px_if_ne, px_ic_ne, px_if_lt, px_ic_lt, px_if_ge, px_ic_ge, px_if_gt, px_ic_gt, px_if_le, px_ic_le, px_ifnull, px_ifnonnull, px_lookupswitch, px_tableswitch, px_getfield, px_iaload, px_laload, px_caload, px_aaload, px_iastore, px_lastore, px_arraylength, px_putfield, px_ireturn, px_lreturn, px_areturn, px_return, px_iv0, px_is0, px_iv1, px_is1, px_iv2, px_is2, px_iv3, px_is3, px_iv4, px_is4, px_iv5, px_is5, px_iv6, px_is6, px_max, px_min, px_abs, px_maxJ, px_minJ, px_ii0, px_ii1, px_iio, px_copy, pz_cpk, pz_lk, pz_alk, pz_ask, pz_gfk, pz_lnk, pz_bx, pz_b, pz_z, pz_s1, pz_s2, pz_wt, pz_cmp, List.getElem?_cons_zero, List.getElem?_cons_succ, List.getElem?_nil, List.set_cons_zero, List.set_cons_succ, List.length_cons, List.length_nil, List.nil_append, List.cons_append, Option.toList_some, Option.toList_none, if_true, if_false, ite_true, ite_false, and_true, true_and, and_self, or_self, or_false, false_or, true_or, or_true, and_false, false_and, not_true_eq_false, not_false_eq_true, forall_const, ne_eq, reduceCtorEq, implies_true, false_implies, true_implies, Int.toNat_natCast, Nat.reduceAdd, Nat.reduceSub, Nat.reduceLT, Nat.reduceLeDiff, Nat.reduceEqDiff, Int.reduceLT, Int.reduceLE, Int.reduceToNat, Int.reduceNeg, Int.reduceEq, Int.reduceAdd, Nat.reduceMul, Int.reduceSub, Nat.reduceBEq, Int.reduceMul, Nat.add_zero, Nat.zero_add, Int.cast_ofNat_Int, Int.ofNat_eq_coe, decide_eq_true_eq, Nat.lt_irrefl, Nat.le_refl, List.getElem?_toArray, Option.elim_some, Option.elim_none, j_Sc_put_0, g_103, g_99, rf_103_0 hR, c2, e1, e2, s0]
  · rw [w2]
    unfold LL
    rw [← lst_od mo_4]
  · intro i hi
    rw [w3 i hi, f1 _ n1]
  · intro i hi
    rw [w4 i hi, f1 _ n2]
  · intro c h1 h2 h3
    rw [w5 c h2 h3, f1 c h1]
theorem Ro_Pt {R : Nat → Int} (h : Ro R) {d : Nat} (hd : d < 4) : R d = (Pt R d : Int) ∧ Pt R d ≤ 9 := by
  have h1 := h.1 d (by omega)
  have h2 := h.2.1 d hd
  unfold Pt
  omega
set_option maxRecDepth 100000 in
/-- one side -/
theorem c_Sc_weigh_g {s a g : Nat} {t4 : pz_V} (hs : s < 256) (ha : a < 6) (hg : g < 2) (h : Md M r q L) (hz : Z0 M) : ∃ M', pz_p bl_Sc_weigh (pz_cal (d + 5)) 0 0 2 [] [(2, 103), (0, (s : Int)), (0, (a : Int)), (0, (g : Int)), (t4.1, t4.2)] [] ((pz_SH, ss, 0, 0, dd), M) = pz_p bl_Sc_weigh (pz_cal (d + 5)) 0 0 2 [] [(2, 103), (0, (s : Int)), (0, (a : Int)), (0, (g : Int) + 1), (0, 8)] [] ((pz_SH, ss, 0, 0, dd), M') ∧ Fr MS M M' ∧ Z0 M' ∧ SpF M' (sdb g) (Pt (M q)) (OO L (M q) a g) (LL L (M q) a g) s ∧ (∀ c, c ∉ RK → (c < sdb g ∨ sdb g + 14 < c) → M' c = M c) := by
  obtain ⟨M1, e1, v1, v2, v3, v4⟩ := c_Sc_begin (d := d + 2) (ss := ss) (dd := dd) (g := g) h
  have hb2 : g = 0 ∧ sdb g = 104 ∨ g = 1 ∧ sdb g = 119 := by
    rcases (by omega : g = 0 ∨ g = 1) with rfl | rfl
    · exact .inl ⟨rfl, rfl⟩
    · exact .inr ⟨rfl, rfl⟩
  have fM : Fr MS M M1 := fun c hc => by
    have := MS_12 hc
    exact v4 c (by omega) (by omega) (by omega)
  have z1 : Z0 M1 := fun k k1 k2 => by
    have := hz k k1 k2
    rcases hb2 with ⟨_, e⟩ | ⟨_, e⟩
    · rw [e] at v3 v4
      have h1 := v3 k
      rw [if_neg (by omega)] at h1
      exact ⟨h1.trans this.1, by rw [v4 121 (by decide) (by decide) (by decide)]; exact this.2⟩
    · rw [e] at v3 v4
      have h1 := v3 k
      rw [if_neg (by omega)] at h1
      exact ⟨by rw [v4 106 (by decide) (by decide) (by decide)]; exact this.1, h1.trans this.2⟩
  have p1 : SpF M1 (sdb g) (Pt (M q)) (OO L (M q) a g) (LL L (M q) a g) (s % 2 ^ 0) := by
    refine ⟨fun d hd => ?_, fun i hi hb => ?_, fun k hk => ?_, fun v _ v8 => v2 v (by omega)⟩
    · have := Ro_Pt h.2.2.2.1 hd
      exact ⟨(v1 d hd).trans this.1, this.2⟩
    · rw [Nat.pow_zero, Nat.mod_one, Nat.zero_testBit] at hb
      cases hb
    · rw [v3 k]
      unfold ds0
      by_cases hk0 : k = 0
      · rw [if_pos hk0, if_pos hk0]
      · have := hz k (by omega) hk
        rw [if_neg hk0, if_neg hk0]
        rcases hb2 with ⟨_, e⟩ | ⟨_, e⟩ <;> rw [e]
        · exact this.1
        · exact this.2
  obtain ⟨M2, ⟨f2, z2, p2, w2⟩, e2⟩ := lp0 (σ := pz_M) 8 (s := M1) (F := fun i M' => pz_p bl_Sc_weigh (pz_cal (d + 5)) 0 0 15 [] [(2, 103), (0, (s : Int)), (0, (a : Int)), (0, (g : Int)), (0, (i : Int))] [] ((pz_SH, ss, 0, 0, dd), M')) (fun i M' => Fr MS M M' ∧ Z0 M' ∧ SpF M' (sdb g) (Pt (M q)) (OO L (M q) a g) (LL L (M q) a g) (s % 2 ^ i) ∧ (∀ c, c ∉ RK → (c < sdb g ∨ sdb g + 14 < c) → M' c = M c)) ⟨fM, z1, p1, fun c _ hc => v4 c (by omega) (by omega) (by omega)⟩ (by
    intro i M1 hi ⟨f1, z1, p1, w1⟩
    have hin := c_isIn (d := d + 4) (ss := ss) (dd := dd) (M := M1) (s := s) (k := i) (by omega) (by omega)
    have hd1 := Md_fr h f1 (fun c hc => hc)
    have hq1 := Md_q h f1 (fun c hc => hc)
    by_cases hbit : s.testBit i = true
    · rw [if_pos hbit] at hin
      obtain ⟨M2, e2, u1, u2, u3, u4, u5⟩ := c_Sc_put (d := d) (ss := ss) (dd := dd) (pl := i) (c := i) (a := a) (g := g) hd1 (by omega) (by omega) ha hg
      rw [hq1] at u1 u2
      have f2 : Fr MS M1 M2 := fun c hc => by
        have := MS_12 hc
        exact u5 c (fun h => hc (RK_MS c h)) (by omega) (by omega)
      refine ⟨M2, ⟨Fr_t f1 f2, ?_, ?_, ?_⟩, ?_⟩
      · exact fun k k1 k2 => by rw [u5 106 (by decide) (by omega) (by omega), u5 121 (by decide) (by omega) (by omega)]; exact z1 k k1 k2
      · have p1' : SpF (fun c => if c = sdb g + 12 ∨ c = sdb g + 13 then M1 c else M2 c) (sdb g) (Pt (M q)) (OO L (M q) a g) (LL L (M q) a g) (s % 2 ^ i) := SpF_fr p1 (fun c c1 c2 => by
          show (if c = sdb g + 12 ∨ c = sdb g + 13 then M1 c else M2 c) = M1 c
          split
          · rfl
          · exact u5 c (fun h => by have := RK_sd c h; omega) (by omega) (by omega))
        refine SpF_put p1' u1 u2 ?_ ?_ ?_ OO_Od (fun j hj => tb_mod_s hj)
        · intro j hj
          show _ = (if sdb g + 12 = sdb g + 12 ∨ sdb g + 12 = sdb g + 13 then M1 (sdb g + 12) else M2 (sdb g + 12)) j
          rw [if_pos (.inl rfl)]
          exact u3 j hj
        · intro j hj
          show _ = (if sdb g + 13 = sdb g + 12 ∨ sdb g + 13 = sdb g + 13 then M1 (sdb g + 13) else M2 (sdb g + 13)) j
          rw [if_pos (.inr rfl)]
          exact u4 j hj
        · intro c c1 c2
          show _ = if c = sdb g + 12 ∨ c = sdb g + 13 then M1 c else M2 c
          rw [if_neg (by omega)]
      · intro c c1 c2
        rw [u5 c c1 (by omega) (by omega)]
        exact w1 c c1 c2
      · show _ = pz_p bl_Sc_weigh (pz_cal (d + 5)) 0 0 15 [] [(2, 103), (0, (s : Int)), (0, (a : Int)), (0, (g : Int)), (0, (i : Int) + 1)] [] ((pz_SH, ss, 0, 0, dd), M2)
        show pz_p bl_Sc_weigh (pz_cal (d + 5)) 0 0 15 [] [(2, 103), (0, (s : Int)), (0, (a : Int)), (0, (g : Int)), (0, (i : Int))] [] ((pz_SH, ss, 0, 0, dd), M1) = _
        rw [j_Sc_weigh_15]
        simp (maxSteps := 1000000) (disch := omega) only [↓reduceIte, sp_0, sp_s, Option.map_some, Option.map_none, Option.some.injEq, o_le, o_nle, o_lt, o_nlt, o_eq, o_neq, w32_id, nw_s, px_iconst, px_bipush, px_sipush, px_ldc, px_ldc_w, px_lconst, px_ldc2_w, px_aconst_null, px_getstatic, px_iload_n, px_iload, px_lload_n, px_lload, px_aload_n, px_aload, px_istore_n, px_istore, px_astore_n, px_astore, px_lstore_n, px_lstore, px_iinc, px_iadd, px_isub, px_imul, px_iand, px_ior, px_ixor, px_ishl, px_ishr, px_iushr, px_ladd, px_lsub, px_lmul, px_land, px_lor, px_lcmp, px_lushr, px_lshl, px_ineg, px_i2l, px_l2i, px_idiv, px_irem, px_ldiv, px_lrem, px_dup0, px_pop0, px_dup2, px_pop2, px_dup2x, px_goto, px_if_eq, px_ic_eq, px_if_ne, px_ic_ne, px_if_lt, px_ic_lt, px_if_ge, px_ic_ge, px_if_gt, px_ic_gt, px_if_le, px_ic_le, px_ifnull, px_ifnonnull, px_lookupswitch, px_tableswitch, px_getfield, px_iaload, px_laload, px_caload, px_aaload, px_iastore, px_lastore, px_arraylength, px_putfield, px_ireturn, px_lreturn, px_areturn, px_return, px_iv0, px_is0, px_iv1, px_is1, px_iv2, px_is2, px_iv3, px_is3, px_iv4, px_is4, px_iv5, px_is5, px_iv6, px_is6, px_max, px_min, px_abs, px_maxJ, px_minJ, px_ii0, px_ii1, px_iio, px_copy, pz_cpk, pz_lk, pz_alk, pz_ask, pz_gfk, pz_lnk, pz_bx, pz_b, pz_z, pz_s1, pz_s2, pz_wt, pz_cmp, List.getElem?_cons_zero, List.getElem?_cons_succ, List.getElem?_nil, List.set_cons_zero, List.set_cons_succ, List.length_cons, List.length_nil, List.nil_append, List.cons_append, Option.toList_some, Option.toList_none, if_true, if_false, ite_true, ite_false, and_true, true_and, and_self, or_self, or_false, false_or, true_or, or_true, and_false, false_and, not_true_eq_false, not_false_eq_true, forall_const, ne_eq, reduceCtorEq, implies_true, false_implies, true_implies, Int.toNat_natCast, Nat.reduceAdd, Nat.reduceSub, Nat.reduceLT, Nat.reduceLeDiff, Nat.reduceEqDiff, Int.reduceLT, Int.reduceLE, Int.reduceToNat, Int.reduceNeg, Int.reduceEq, Int.reduceAdd, Nat.reduceMul, Int.reduceSub, Nat.reduceBEq, Int.reduceMul, Nat.add_zero, Nat.zero_add, Int.cast_ofNat_Int, Int.ofNat_eq_coe, decide_eq_true_eq, Nat.lt_irrefl, Nat.le_refl, List.getElem?_toArray, Option.elim_some, Option.elim_none, j_Sc_weigh_41, g_103, hin, e2]
    · rw [if_neg hbit] at hin
      have hmd : s % 2 ^ (i + 1) = s % 2 ^ i := by rw [md_s, if_neg hbit]; rfl
      refine ⟨M1, ⟨f1, z1, by rw [hmd]; exact p1, w1⟩, ?_⟩
      show _ = pz_p bl_Sc_weigh (pz_cal (d + 5)) 0 0 15 [] [(2, 103), (0, (s : Int)), (0, (a : Int)), (0, (g : Int)), (0, (i : Int) + 1)] [] ((pz_SH, ss, 0, 0, dd), M1)
      show pz_p bl_Sc_weigh (pz_cal (d + 5)) 0 0 15 [] [(2, 103), (0, (s : Int)), (0, (a : Int)), (0, (g : Int)), (0, (i : Int))] [] ((pz_SH, ss, 0, 0, dd), M1) = _
      rw [j_Sc_weigh_15]
      simp (maxSteps := 1000000) (disch := omega) only [↓reduceIte, sp_0, sp_s, Option.map_some, Option.map_none, Option.some.injEq, o_le, o_nle, o_lt, o_nlt, o_eq, o_neq, w32_id, nw_s, px_iconst, px_bipush, px_sipush, px_ldc, px_ldc_w, px_lconst, px_ldc2_w, px_aconst_null, px_getstatic, px_iload_n, px_iload, px_lload_n, px_lload, px_aload_n, px_aload, px_istore_n, px_istore, px_astore_n, px_astore, px_lstore_n, px_lstore, px_iinc, px_iadd, px_isub, px_imul, px_iand, px_ior, px_ixor, px_ishl, px_ishr, px_iushr, px_ladd, px_lsub, px_lmul, px_land, px_lor, px_lcmp, px_lushr, px_lshl, px_ineg, px_i2l, px_l2i, px_idiv, px_irem, px_ldiv, px_lrem, px_dup0, px_pop0, px_dup2, px_pop2, px_dup2x, px_goto, px_if_eq, px_ic_eq, px_if_ne, px_ic_ne, px_if_lt, px_ic_lt, px_if_ge, px_ic_ge, px_if_gt, px_ic_gt, px_if_le, px_ic_le, px_ifnull, px_ifnonnull, px_lookupswitch, px_tableswitch, px_getfield, px_iaload, px_laload, px_caload, px_aaload, px_iastore, px_lastore, px_arraylength, px_putfield, px_ireturn, px_lreturn, px_areturn, px_return, px_iv0, px_is0, px_iv1, px_is1, px_iv2, px_is2, px_iv3, px_is3, px_iv4, px_is4, px_iv5, px_is5, px_iv6, px_is6, px_max, px_min, px_abs, px_maxJ, px_minJ, px_ii0, px_ii1, px_iio, px_copy, pz_cpk, pz_lk, pz_alk, pz_ask, pz_gfk, pz_lnk, pz_bx, pz_b, pz_z, pz_s1, pz_s2, pz_wt, pz_cmp, List.getElem?_cons_zero, List.getElem?_cons_succ, List.getElem?_nil, List.set_cons_zero, List.set_cons_succ, List.length_cons, List.length_nil, List.nil_append, List.cons_append, Option.toList_some, Option.toList_none, if_true, if_false, ite_true, ite_false, and_true, true_and, and_self, or_self, or_false, false_or, true_or, or_true, and_false, false_and, not_true_eq_false, not_false_eq_true, forall_const, ne_eq, reduceCtorEq, implies_true, false_implies, true_implies, Int.toNat_natCast, Nat.reduceAdd, Nat.reduceSub, Nat.reduceLT, Nat.reduceLeDiff, Nat.reduceEqDiff, Int.reduceLT, Int.reduceLE, Int.reduceToNat, Int.reduceNeg, Int.reduceEq, Int.reduceAdd, Nat.reduceMul, Int.reduceSub, Nat.reduceBEq, Int.reduceMul, Nat.add_zero, Nat.zero_add, Int.cast_ofNat_Int, Int.ofNat_eq_coe, decide_eq_true_eq, Nat.lt_irrefl, Nat.le_refl, List.getElem?_toArray, Option.elim_some, Option.elim_none, j_Sc_weigh_41, g_103, hin])
  rw [show s % 2 ^ 8 = s from Nat.mod_eq_of_lt hs] at p2
  refine ⟨M2, ?_, f2, z2, p2, w2⟩
  have e2 : pz_p bl_Sc_weigh (pz_cal (d + 5)) 0 0 15 [] [(2, 103), (0, (s : Int)), (0, (a : Int)), (0, (g : Int)), (0, 0)] [] ((pz_SH, ss, 0, 0, dd), M1) = pz_p bl_Sc_weigh (pz_cal (d + 5)) 0 0 15 [] [(2, 103), (0, (s : Int)), (0, (a : Int)), (0, (g : Int)), (0, 8)] [] ((pz_SH, ss, 0, 0, dd), M2) := e2
  have e3 : pz_p bl_Sc_weigh (pz_cal (d + 5)) 0 0 15 [] [(2, 103), (0, (s : Int)), (0, (a : Int)), (0, (g : Int)), (0, 8)] [] ((pz_SH, ss, 0, 0, dd), M2) = pz_p bl_Sc_weigh (pz_cal (d + 5)) 0 0 2 [] [(2, 103), (0, (s : Int)), (0, (a : Int)), (0, (g : Int) + 1), (0, 8)] [] ((pz_SH, ss, 0, 0, dd), M2) := by
    rw [j_Sc_weigh_15]
    simp (maxSteps := 1000000) (disch := omega) only [↓reduceIte, sp_0, sp_s, Option.map_some, Option.map_none, Option.some.injEq, o_le, o_nle, o_lt, o_nlt, o_eq, o_neq, w32_id, nw_s, px_iconst, px_bipush, px_sipush, px_ldc, px_ldc_w, px_lconst, px_ldc2_w, px_aconst_null, px_getstatic, px_iload_n, px_iload, px_lload_n, px_lload, px_aload_n, px_aload, px_istore_n, px_istore, px_astore_n, px_astore, px_lstore_n, px_lstore, px_iinc, px_iadd, px_isub, px_imul, px_iand, px_ior, px_ixor, px_ishl, px_ishr, px_iushr, px_ladd, px_lsub, px_lmul, px_land, px_lor, px_lcmp, px_lushr, px_lshl, px_ineg, px_i2l, px_l2i, px_idiv, px_irem, px_ldiv, px_lrem, px_dup0, px_pop0, px_dup2, px_pop2, px_dup2x, px_goto, px_if_eq, px_ic_eq, px_if_ne, px_ic_ne, px_if_lt, px_ic_lt, px_if_ge, px_ic_ge, px_if_gt, px_ic_gt, px_if_le, px_ic_le, px_ifnull, px_ifnonnull, px_lookupswitch, px_tableswitch, px_getfield, px_iaload, px_laload, px_caload, px_aaload, px_iastore, px_lastore, px_arraylength, px_putfield, px_ireturn, px_lreturn, px_areturn, px_return, px_iv0, px_is0, px_iv1, px_is1, px_iv2, px_is2, px_iv3, px_is3, px_iv4, px_is4, px_iv5, px_is5, px_iv6, px_is6, px_max, px_min, px_abs, px_maxJ, px_minJ, px_ii0, px_ii1, px_iio, px_copy, pz_cpk, pz_lk, pz_alk, pz_ask, pz_gfk, pz_lnk, pz_bx, pz_b, pz_z, pz_s1, pz_s2, pz_wt, pz_cmp, List.getElem?_cons_zero, List.getElem?_cons_succ, List.getElem?_nil, List.set_cons_zero, List.set_cons_succ, List.length_cons, List.length_nil, List.nil_append, List.cons_append, Option.toList_some, Option.toList_none, if_true, if_false, ite_true, ite_false, and_true, true_and, and_self, or_self, or_false, false_or, true_or, or_true, and_false, false_and, not_true_eq_false, not_false_eq_true, forall_const, ne_eq, reduceCtorEq, implies_true, false_implies, true_implies, Int.toNat_natCast, Nat.reduceAdd, Nat.reduceSub, Nat.reduceLT, Nat.reduceLeDiff, Nat.reduceEqDiff, Int.reduceLT, Int.reduceLE, Int.reduceToNat, Int.reduceNeg, Int.reduceEq, Int.reduceAdd, Nat.reduceMul, Int.reduceSub, Nat.reduceBEq, Int.reduceMul, Nat.add_zero, Nat.zero_add, Int.cast_ofNat_Int, Int.ofNat_eq_coe, decide_eq_true_eq, Nat.lt_irrefl, Nat.le_refl, List.getElem?_toArray, Option.elim_some, Option.elim_none, j_Sc_weigh_47]
  rw [← e3, ← e2, j_Sc_weigh_2]
  simp (maxSteps := 1000000) (disch := omega) only [↓reduceIte, sp_0, sp_s, Option.map_some, Option.map_none, Option.some.injEq, o_le, o_nle, o_lt, o_nlt, o_eq, o_neq, w32_id, nw_s, px_iconst, px_bipush, px_sipush, px_ldc, px_ldc_w, px_lconst, px_ldc2_w, px_aconst_null, px_getstatic, px_iload_n, px_iload, px_lload_n, px_lload, px_aload_n, px_aload, px_istore_n, px_istore, px_astore_n, px_astore, px_lstore_n, px_lstore, px_iinc, px_iadd, px_isub, px_imul, px_iand, px_ior, px_ixor, px_ishl, px_ishr, px_iushr, px_ladd, px_lsub, px_lmul, px_land, px_lor, px_lcmp, px_lushr, px_lshl, px_ineg, px_i2l, px_l2i, px_idiv, px_irem, px_ldiv, px_lrem, px_dup0, px_pop0, px_dup2, px_pop2, px_dup2x, px_goto, px_if_eq, px_ic_eq, px_if_ne, px_ic_ne, px_if_lt, px_ic_lt, px_if_ge, px_ic_ge, px_if_gt, px_ic_gt, px_if_le, px_ic_le, px_ifnull, px_ifnonnull, px_lookupswitch, px_tableswitch, px_getfield, px_iaload, px_laload, px_caload, px_aaload, px_iastore, px_lastore, px_arraylength, px_putfield, px_ireturn, px_lreturn, px_areturn, px_return, px_iv0, px_is0, px_iv1, px_is1, px_iv2, px_is2, px_iv3, px_is3, px_iv4, px_is4, px_iv5, px_is5, px_iv6, px_is6, px_max, px_min, px_abs, px_maxJ, px_minJ, px_ii0, px_ii1, px_iio, px_copy, pz_cpk, pz_lk, pz_alk, pz_ask, pz_gfk, pz_lnk, pz_bx, pz_b, pz_z, pz_s1, pz_s2, pz_wt, pz_cmp, List.getElem?_cons_zero, List.getElem?_cons_succ, List.getElem?_nil, List.set_cons_zero, List.set_cons_succ, List.length_cons, List.length_nil, List.nil_append, List.cons_append, Option.toList_some, Option.toList_none, if_true, if_false, ite_true, ite_false, and_true, true_and, and_self, or_self, or_false, false_or, true_or, or_true, and_false, false_and, not_true_eq_false, not_false_eq_true, forall_const, ne_eq, reduceCtorEq, implies_true, false_implies, true_implies, Int.toNat_natCast, Nat.reduceAdd, Nat.reduceSub, Nat.reduceLT, Nat.reduceLeDiff, Nat.reduceEqDiff, Int.reduceLT, Int.reduceLE, Int.reduceToNat, Int.reduceNeg, Int.reduceEq, Int.reduceAdd, Nat.reduceMul, Int.reduceSub, Nat.reduceBEq, Int.reduceMul, Nat.add_zero, Nat.zero_add, Int.cast_ofNat_Int, Int.ofNat_eq_coe, decide_eq_true_eq, Nat.lt_irrefl, Nat.le_refl, List.getElem?_toArray, Option.elim_some, Option.elim_none, g_103, e1]
set_option maxRecDepth 100000 in
theorem c_Sc_weigh {s a : Nat} (hs : s < 256) (ha : a < 6) (h : Md M r q L) (hz : Z0 M) : ∃ M', pz_cal (d + 6) 64 [(2, 103), (0, (s : Int)), (0, (a : Int))] ((pz_SH, ss, 0, 0, dd), M) = some (none, ((pz_SH, ss, 0, 0, dd), M')) ∧ Fr MS M M' ∧ Z0 M' ∧ We M' L (M q) a s := by
  obtain ⟨M1, e1, f1, z1, p1, w1⟩ := c_Sc_weigh_g (d := d) (ss := ss) (dd := dd) (g := 0) (t4 := (9, 0)) hs ha (by decide) h hz
  have h1 := Md_fr h f1 (fun c hc => hc)
  obtain ⟨M2, e2, f2, z2, p2, w2⟩ := c_Sc_weigh_g (d := d) (ss := ss) (dd := dd) (g := 1) (t4 := (0, 8)) hs ha (by decide) h1 z1
  rw [Md_q h f1 (fun c hc => hc)] at p2
  refine ⟨M2, ?_, Fr_t f1 f2, z2, ?_⟩
  · have e1 : pz_p bl_Sc_weigh (pz_cal (d + 5)) 0 0 2 [] [(2, 103), (0, (s : Int)), (0, (a : Int)), (0, 0), (9, 0)] [] ((pz_SH, ss, 0, 0, dd), M) = pz_p bl_Sc_weigh (pz_cal (d + 5)) 0 0 2 [] [(2, 103), (0, (s : Int)), (0, (a : Int)), (0, 1), (0, 8)] [] ((pz_SH, ss, 0, 0, dd), M1) := e1
    have e2 : pz_p bl_Sc_weigh (pz_cal (d + 5)) 0 0 2 [] [(2, 103), (0, (s : Int)), (0, (a : Int)), (0, 1), (0, 8)] [] ((pz_SH, ss, 0, 0, dd), M1) = pz_p bl_Sc_weigh (pz_cal (d + 5)) 0 0 2 [] [(2, 103), (0, (s : Int)), (0, (a : Int)), (0, 2), (0, 8)] [] ((pz_SH, ss, 0, 0, dd), M2) := e2
    have e3 : pz_p bl_Sc_weigh (pz_cal (d + 5)) 0 0 2 [] [(2, 103), (0, (s : Int)), (0, (a : Int)), (0, 2), (0, 8)] [] ((pz_SH, ss, 0, 0, dd), M2) = some (none, ((pz_SH, ss, 0, 0, dd), M2)) := by
      rw [j_Sc_weigh_2]
      simp (maxSteps := 1000000) (disch := omega) only [↓reduceIte, sp_0, sp_s, Option.map_some, Option.map_none, Option.some.injEq, o_le, o_nle, o_lt, o_nlt, o_eq, o_neq, w32_id, nw_s, px_iconst, px_bipush, px_sipush, px_ldc, px_ldc_w, px_lconst, px_ldc2_w, px_aconst_null, px_getstatic, px_iload_n, px_iload, px_lload_n, px_lload, px_aload_n, px_aload, px_istore_n, px_istore, px_astore_n, px_astore, px_lstore_n, px_lstore, px_iinc, px_iadd, px_isub, px_imul, px_iand, px_ior, px_ixor, px_ishl, px_ishr, px_iushr, px_ladd, px_lsub, px_lmul, px_land, px_lor, px_lcmp, px_lushr, px_lshl, px_ineg, px_i2l, px_l2i, px_idiv, px_irem, px_ldiv, px_lrem, px_dup0, px_pop0, px_dup2, px_pop2, px_dup2x, px_goto, px_if_eq, px_ic_eq, px_if_ne, px_ic_ne, px_if_lt, px_ic_lt, px_if_ge, px_ic_ge, px_if_gt, px_ic_gt, px_if_le, px_ic_le, px_ifnull, px_ifnonnull, px_lookupswitch, px_tableswitch, px_getfield, px_iaload, px_laload, px_caload, px_aaload, px_iastore, px_lastore, px_arraylength, px_putfield, px_ireturn, px_lreturn, px_areturn, px_return, px_iv0, px_is0, px_iv1, px_is1, px_iv2, px_is2, px_iv3, px_is3, px_iv4, px_is4, px_iv5, px_is5, px_iv6, px_is6, px_max, px_min, px_abs, px_maxJ, px_minJ, px_ii0, px_ii1, px_iio, px_copy, pz_cpk, pz_lk, pz_alk, pz_ask, pz_gfk, pz_lnk, pz_bx, pz_b, pz_z, pz_s1, pz_s2, pz_wt, pz_cmp, List.getElem?_cons_zero, List.getElem?_cons_succ, List.getElem?_nil, List.set_cons_zero, List.set_cons_succ, List.length_cons, List.length_nil, List.nil_append, List.cons_append, Option.toList_some, Option.toList_none, if_true, if_false, ite_true, ite_false, and_true, true_and, and_self, or_self, or_false, false_or, true_or, or_true, and_false, false_and, not_true_eq_false, not_false_eq_true, forall_const, ne_eq, reduceCtorEq, implies_true, false_implies, true_implies, Int.toNat_natCast, Nat.reduceAdd, Nat.reduceSub, Nat.reduceLT, Nat.reduceLeDiff, Nat.reduceEqDiff, Int.reduceLT, Int.reduceLE, Int.reduceToNat, Int.reduceNeg, Int.reduceEq, Int.reduceAdd, Nat.reduceMul, Int.reduceSub, Nat.reduceBEq, Int.reduceMul, Nat.add_zero, Nat.zero_add, Int.cast_ofNat_Int, Int.ofNat_eq_coe, decide_eq_true_eq, Nat.lt_irrefl, Nat.le_refl, List.getElem?_toArray, Option.elim_some, Option.elim_none, j_Sc_weigh_53]
    rw [← e3, ← e2, ← e1]
    simp (maxSteps := 1000000) (disch := omega) only [↓reduceIte, sp_0, sp_s, Option.map_some, Option.map_none, Option.some.injEq, o_le, o_nle, o_lt, o_nlt, o_eq, o_neq, w32_id, up_at, nw_at, nw_s, k_Sc_weigh, px_iconst, px_bipush, px_sipush, px_ldc, px_ldc_w, px_lconst, px_ldc2_w, px_aconst_null, px_getstatic, px_iload_n, px_iload, px_lload_n, px_lload, px_aload_n, px_aload, px_istore_n, px_istore, px_astore_n, px_astore, px_lstore_n, px_lstore, px_iinc, px_iadd, px_isub, px_imul, px_iand, px_ior, px_ixor, px_ishl, px_ishr, px_iushr, px_ladd, px_lsub, px_lmul, px_land, px_lor, px_lcmp, px_lushr, px_lshl, px_ineg, px_i2l, px_l2i, px_idiv, px_irem, px_ldiv, px_lrem, px_dup0, px_pop0, px_dup2, px_pop2, px_dup2x, px_goto, px_if_eq, px_ic_eq, px_if_ne, px_ic_ne, px_if_lt, px_ic_lt, px_if_ge, px_ic_ge, px_if_gt, px_ic_gt, px_if_le, px_ic_le, px_ifnull, px_ifnonnull, px_lookupswitch, px_tableswitch, px_getfield, px_iaload, px_laload, px_caload, px_aaload, px_iastore, px_lastore, px_arraylength, px_putfield, px_ireturn, px_lreturn, px_areturn, px_return, px_iv0, px_is0, px_iv1, px_is1, px_iv2, px_is2, px_iv3, px_is3, px_iv4, px_is4, px_iv5, px_is5, px_iv6, px_is6, px_max, px_min, px_abs, px_maxJ, px_minJ, px_ii0, px_ii1, px_iio, px_copy, pz_cpk, pz_lk, pz_alk, pz_ask, pz_gfk, pz_lnk, pz_bx, pz_b, pz_z, pz_s1, pz_s2, pz_wt, pz_cmp, List.getElem?_cons_zero, List.getElem?_cons_succ, List.getElem?_nil, List.set_cons_zero, List.set_cons_succ, List.length_cons, List.length_nil, List.nil_append, List.cons_append, Option.toList_some, Option.toList_none, if_true, if_false, ite_true, ite_false, and_true, true_and, and_self, or_self, or_false, false_or, true_or, or_true, and_false, false_and, not_true_eq_false, not_false_eq_true, forall_const, ne_eq, reduceCtorEq, implies_true, false_implies, true_implies, Int.toNat_natCast, Nat.reduceAdd, Nat.reduceSub, Nat.reduceLT, Nat.reduceLeDiff, Nat.reduceEqDiff, Int.reduceLT, Int.reduceLE, Int.reduceToNat, Int.reduceNeg, Int.reduceEq, Int.reduceAdd, Nat.reduceMul, Int.reduceSub, Nat.reduceBEq, Int.reduceMul, Nat.add_zero, Nat.zero_add, Int.cast_ofNat_Int, Int.ofNat_eq_coe, decide_eq_true_eq, Nat.lt_irrefl, Nat.le_refl, List.getElem?_toArray, Option.elim_some, Option.elim_none, j_Sc_weigh_0]
  · intro g hg
    rcases (by omega : g = 0 ∨ g = 1) with rfl | rfl
    · refine SpI_fr (SpF_I p1) (fun c c1 c2 => w2 c (fun h => ?_) (.inl ?_))
      · have := RK_sd c h
        have : sdb 0 = 104 := rfl
        omega
      · have : sdb 0 = 104 := rfl
        have : sdb 1 = 119 := rfl
        omega
    · exact SpF_I p2
/-- HELD -/
def hd (L : Option ((Nat → Int) → Int)) (R : Nat → Int) (a g t nd : Nat) : Int := hl (ds (Pt R) (OO L R a g) (LL L R a g) t 16) nd
theorem hd_r {L : Option ((Nat → Int) → Int)} {R : Nat → Int} {a g t nd : Nat} (hR : Ro R) (h8 : cb t 16 ≤ 8) : 0 ≤ hd L R a g t nd ∧ hd L R a g t nd ≤ 1000000000 := by
  obtain ⟨z1, z2, z3⟩ := ds_ok (P := Pt R) (O := OO L R a g) (l := LL L R a g) (s := t) (fun d hd => (Ro_Pt hR hd).2) 16 (fun _ _ _ => OO_Od) h8
  exact hl_r z1 z3 nd
def Sub (t s : Nat) : Prop := ∀ i, t.testBit i = true → s.testBit i = true
theorem lt_256 {t : Nat} (h : t < 256) {i : Nat} (hi : 8 ≤ i) : t.testBit i = false := Nat.testBit_lt_two_pow (Nat.lt_of_lt_of_le h (Nat.pow_le_pow_right (by decide) hi : 2 ^ 8 ≤ 2 ^ i))
theorem cb_256 {t : Nat} (h : t < 256) : cb t 16 = cb t 8 := cb_e 8 (fun i a _ => lt_256 h a)
theorem We_fr {M M' : pz_M} {R : Nat → Int} {a s g : Nat} (hg : g < 2) (h : We M L R a s) (f : FrS (sdb g) M M') (h2 : SpI M' (sdb g) (Pt R) (OO L R a g) (LL L R a g) s) : We M' L R a s := by
  intro g' hg'
  by_cases e : g' = g
  · rw [e]; exact h2
  · refine SpI_fr (h g' hg') (fun c c1 c2 => f c ?_)
    rcases (by omega : g' = 0 ∧ g = 1 ∨ g' = 1 ∧ g = 0) with ⟨rfl, rfl⟩ | ⟨rfl, rfl⟩
    · have : sdb 0 = 104 := rfl
      have : sdb 1 = 119 := rfl
      omega
    · have : sdb 0 = 104 := rfl
      have : sdb 1 = 119 := rfl
      omega
theorem FrS_Z0 {M M' : pz_M} (hb : Sd b) (f : FrS b M M') (h : Z0 M) : Z0 M' := fun k k1 k2 => by
  rcases hb with rfl | rfl
  · rw [f 106 (.inl (by decide)), f 121 (.inr (by decide))]; exact h k k1 k2
  · rw [f 106 (.inl (by decide)), f 121 (.inl (by decide))]; exact h k k1 k2
set_option maxRecDepth 100000 in
theorem c_Sc_heldBy {R : Nat → Int} {a g s t nd : Nat} (hR : Rf M) (hz : Z0 M) (hRo : Ro R) (hW : We M L R a s) (hg : g < 2) (hs : s < 256) (ht : Sub t s) (ht2 : t < 256) (hnd : nd ≤ 1000) : ∃ M', pz_cal (d + 4) 68 [(2, 103), (0, (t : Int)), (0, (g : Int)), (0, (nd : Int))] ((pz_SH, ss, 0, 0, dd), M) = some (some (0, hd L R a g t nd), ((pz_SH, ss, 0, 0, dd), M')) ∧ Fr MS M M' ∧ Rf M' ∧ Z0 M' ∧ We M' L R a s := by
  have h8 : cb t 16 ≤ 8 := by rw [cb_256 ht2]; exact cb_le t 8
  obtain ⟨M', e', r', i', f'⟩ := c_Sp_from (d := d) (ss := ss) (dd := dd) (s := t) (nd := nd) (sdb_Sd g) hR (hW g hg) (by omega) ht h8 hnd
  have hb2 := Sd_le (sdb_Sd g)
  have b := hd_r (L := L) (a := a) (g := g) (t := t) (nd := nd) hRo h8
  refine ⟨M', ?_, FrS_MS (sdb_Sd g) f', r', FrS_Z0 (sdb_Sd g) f' hz, We_fr hg hW f' i'⟩
  have s0 := sd0 (ss := ss) (dd := dd) (sdb_Sd g)
  have c2 := c_Sc_side (d := d + 2) (ss := ss) (dd := dd) (g := g) hR
  have e' : pz_cal (d + 3) 75 [(2, (sdb g : Int)), (0, (t : Int)), (0, (nd : Int))] ((pz_SH, ss, 0, 0, dd), M) = some (some (1, hd L R a g t nd), ((pz_SH, ss, 0, 0, dd), M')) := e'
  simp (maxSteps := 1000000) (disch := omega) only [↓reduceIte, sp_0, sp_s, Option.map_some, Option.map_none, Option.some.injEq, o_le, o_nle, o_lt, o_nlt, o_eq, o_neq, w32_id, up_at, nw_at, nw_s, k_Sc_heldBy, px_iconst, px_bipush, px_sipush, px_ldc, px_ldc_w, px_lconst, px_ldc2_w, px_aconst_null, px_getstatic, px_iload_n, px_iload, px_lload_n, px_lload, px_aload_n, px_aload, px_istore_n, px_istore, px_astore_n, px_astore, px_lstore_n, px_lstore, px_iinc, px_iadd, px_isub, px_imul, px_iand, px_ior, px_ixor, px_ishl, px_ishr, px_iushr, px_ladd, px_lsub, px_lmul, px_land, px_lor, px_lcmp, px_lushr, px_lshl, px_ineg, px_i2l, px_l2i, px_idiv, px_irem, px_ldiv, px_lrem, px_dup0, px_pop0, px_dup2, px_pop2, px_dup2x, px_goto, px_if_eq, px_ic_eq, px_if_ne, px_ic_ne, px_if_lt, px_ic_lt, px_if_ge, px_ic_ge, px_if_gt, px_ic_gt, px_if_le, px_ic_le, px_ifnull, px_ifnonnull, px_lookupswitch, px_tableswitch, px_getfield, px_iaload, px_laload, px_caload, px_aaload, px_iastore, px_lastore, px_arraylength, px_putfield, px_ireturn, px_lreturn, px_areturn, px_return, px_iv0, px_is0, px_iv1, px_is1, px_iv2, px_is2, px_iv3, px_is3, px_iv4, px_is4, px_iv5, px_is5, px_iv6, px_is6, px_max, px_min, px_abs, px_maxJ, px_minJ, px_ii0, px_ii1, px_iio, px_copy, pz_cpk, pz_lk, pz_alk, pz_ask, pz_gfk, pz_lnk, pz_bx, pz_b, pz_z, pz_s1, pz_s2, pz_wt, pz_cmp, List.getElem?_cons_zero, List.getElem?_cons_succ, List.getElem?_nil, List.set_cons_zero, List.set_cons_succ, List.length_cons, List.length_nil, List.nil_append, List.cons_append, Option.toList_some, Option.toList_none, if_true, if_false, ite_true, ite_false, and_true, true_and, and_self, or_self, or_false, false_or, true_or, or_true, and_false, false_and, not_true_eq_false, not_false_eq_true, forall_const, ne_eq, reduceCtorEq, implies_true, false_implies, true_implies, Int.toNat_natCast, Nat.reduceAdd, Nat.reduceSub, Nat.reduceLT, Nat.reduceLeDiff, Nat.reduceEqDiff, Int.reduceLT, Int.reduceLE, Int.reduceToNat, Int.reduceNeg, Int.reduceEq, Int.reduceAdd, Nat.reduceMul, Int.reduceSub, Nat.reduceBEq, Int.reduceMul, Nat.add_zero, Nat.zero_add, Int.cast_ofNat_Int, Int.ofNat_eq_coe, decide_eq_true_eq, Nat.lt_irrefl, Nat.le_refl, List.getElem?_toArray, Option.elim_some, Option.elim_none, j_Sc_heldBy_0, g_103, c2, e', s0]
/-- RIGHT -/
def rtv (gu x y : Int) : Int := gu * x / 100 + (100 - gu) * (1000000000 - y) / 100
def rt (L : Option ((Nat → Int) → Int)) (R : Nat → Int) (a t nd : Nat) : Int := rtv (R (63 + 3 * a)) (hd L R a 1 t nd) (hd L R a 0 t nd)
theorem rtv_r {gu x y : Int} (hg : 0 ≤ gu ∧ gu ≤ 100) (hx : 0 ≤ x ∧ x ≤ 1000000000) (hy : 0 ≤ y ∧ y ≤ 1000000000) : (0 ≤ gu * x / 100 ∧ gu * x / 100 ≤ 1000000000) ∧ (0 ≤ (100 - gu) * (1000000000 - y) / 100 ∧ (100 - gu) * (1000000000 - y) / 100 ≤ 1000000000) ∧ 0 ≤ rtv gu x y ∧ rtv gu x y ≤ 1000000000 := by
  have h1 := pn_mulr hg.1 (Int.le_refl gu) hx.1 hx.2
  have h2 := pn_mulr (show 0 ≤ 100 - gu by omega) (Int.le_refl (100 - gu)) (show 0 ≤ 1000000000 - y by omega) (show 1000000000 - y ≤ 1000000000 by omega)
  unfold rtv
  generalize gu * x = u at *
  generalize (100 - gu) * (1000000000 - y) = v at *
  omega
set_option maxRecDepth 100000 in
theorem c_Sc_rightBy {R : Nat → Int} {a s t nd : Nat} {gu : Int} (hR : Rf M) (hz : Z0 M) (hRo : Ro R) (hW : We M L R a s) (hs : s < 256) (ht : Sub t s) (ht2 : t < 256) (hnd : nd ≤ 1000) (hgu : 0 ≤ gu ∧ gu ≤ 100) : ∃ M', pz_cal (d + 5) 69 [(2, 103), (0, (t : Int)), (0, gu), (0, (nd : Int))] ((pz_SH, ss, 0, 0, dd), M) = some (some (0, rtv gu (hd L R a 1 t nd) (hd L R a 0 t nd)), ((pz_SH, ss, 0, 0, dd), M')) ∧ Fr MS M M' ∧ Rf M' ∧ Z0 M' ∧ We M' L R a s := by
  obtain ⟨M1, e1, f1, r1, z1, w1⟩ := c_Sc_heldBy (d := d) (ss := ss) (dd := dd) (g := 1) hR hz hRo hW (by decide) hs ht ht2 hnd
  obtain ⟨M2, e2, f2, r2, z2, w2⟩ := c_Sc_heldBy (d := d) (ss := ss) (dd := dd) (g := 0) r1 z1 hRo w1 (by decide) hs ht ht2 hnd
  have h8 : cb t 16 ≤ 8 := by rw [cb_256 ht2]; exact cb_le t 8
  have b1 := hd_r (L := L) (a := a) (g := 1) (t := t) (nd := nd) hRo h8
  have b0 := hd_r (L := L) (a := a) (g := 0) (t := t) (nd := nd) hRo h8
  have br := rtv_r hgu b1 b0
  refine ⟨M2, ?_, Fr_t f1 f2, r2, z2, w2⟩
  have c1 := c_CC_hundredths (d := d + 3) (X := ((pz_SH, ss, 0, 0, dd), M1)) (a := gu) (b := hd L R a 1 t nd) rfl rfl hgu b1
  have c2 := c_CC_hundredths (d := d + 3) (X := ((pz_SH, ss, 0, 0, dd), M2)) (a := 100 - gu) (b := 1000000000 - hd L R a 0 t nd) rfl rfl (by omega) (by omega)
  have e1 : pz_cal (d + 4) 68 [(2, 103), (0, (t : Int)), (0, 1), (0, (nd : Int))] ((pz_SH, ss, 0, 0, dd), M) = _ := e1
  have e2 : pz_cal (d + 4) 68 [(2, 103), (0, (t : Int)), (0, 0), (0, (nd : Int))] ((pz_SH, ss, 0, 0, dd), M1) = _ := e2
  unfold rtv at br ⊢
  have u1 : pz_w32 (gu * hd L R a 1 t nd / 100 + (100 - gu) * (1000000000 - hd L R a 0 t nd) / 100) = gu * hd L R a 1 t nd / 100 + (100 - gu) * (1000000000 - hd L R a 0 t nd) / 100 := w32_id (by omega) (by omega)
  simp (maxSteps := 1000000) (disch := omega) only [↓reduceIte, sp_0, sp_s, Option.map_some, Option.map_none, Option.some.injEq, o_le, o_nle, o_lt, o_nlt, o_eq, o_neq, w32_id, up_at, nw_at, nw_s, k_Sc_rightBy, px_iconst, px_bipush, px_sipush, px_ldc, px_ldc_w, px_lconst, px_ldc2_w, px_aconst_null, px_getstatic, px_iload_n, px_iload, px_lload_n, px_lload, px_aload_n, px_aload, px_istore_n, px_istore, px_astore_n, px_astore, px_lstore_n, px_lstore, px_iinc, px_iadd, px_isub, px_imul, px_iand, px_ior, px_ixor, px_ishl, px_ishr, px_iushr, px_ladd, px_lsub, px_lmul, px_land, px_lor, px_lcmp, px_lushr, px_lshl, px_ineg, px_i2l, px_l2i, px_idiv, px_irem, px_ldiv, px_lrem, px_dup0, px_pop0, px_dup2, px_pop2, px_dup2x, px_goto, px_if_eq, px_ic_eq, px_if_ne, px_ic_ne, px_if_lt, px_ic_lt, px_if_ge, px_ic_ge, px_if_gt, px_ic_gt, px_if_le, px_ic_le, px_ifnull, px_ifnonnull, px_lookupswitch, px_tableswitch, px_getfield, px_iaload, px_laload, px_caload, px_aaload, px_iastore, px_lastore, px_arraylength, px_putfield, px_ireturn, px_lreturn, px_areturn, px_return, px_iv0, px_is0, px_iv1, px_is1, px_iv2, px_is2, px_iv3, px_is3, px_iv4, px_is4, px_iv5, px_is5, px_iv6, px_is6, px_max, px_min, px_abs, px_maxJ, px_minJ, px_ii0, px_ii1, px_iio, px_copy, pz_cpk, pz_lk, pz_alk, pz_ask, pz_gfk, pz_lnk, pz_bx, pz_b, pz_z, pz_s1, pz_s2, pz_wt, pz_cmp, List.getElem?_cons_zero, List.getElem?_cons_succ, List.getElem?_nil, List.set_cons_zero, List.set_cons_succ, List.length_cons, List.length_nil, List.nil_append, List.cons_append, Option.toList_some, Option.toList_none, if_true, if_false, ite_true, ite_false, and_true, true_and, and_self, or_self, or_false, false_or, true_or, or_true, and_false, false_and, not_true_eq_false, not_false_eq_true, forall_const, ne_eq, reduceCtorEq, implies_true, false_implies, true_implies, Int.toNat_natCast, Nat.reduceAdd, Nat.reduceSub, Nat.reduceLT, Nat.reduceLeDiff, Nat.reduceEqDiff, Int.reduceLT, Int.reduceLE, Int.reduceToNat, Int.reduceNeg, Int.reduceEq, Int.reduceAdd, Nat.reduceMul, Int.reduceSub, Nat.reduceBEq, Int.reduceMul, Nat.add_zero, Nat.zero_add, Int.cast_ofNat_Int, Int.ofNat_eq_coe, decide_eq_true_eq, Nat.lt_irrefl, Nat.le_refl, List.getElem?_toArray, Option.elim_some, Option.elim_none, j_Sc_rightBy_0, g_103, e1, e2, c1, c2, u1]
def mn (L : Option ((Nat → Int) → Int)) (R : Nat → Int) (a g t : Nat) : Int := su (fun i => ds (Pt R) (OO L R a g) (LL L R a g) t 16 i * i) 0 80 / 1000000
set_option maxRecDepth 100000 in
theorem c_Sc_meanBy {R : Nat → Int} {a g s t : Nat} (hR : Rf M) (hz : Z0 M) (hRo : Ro R) (hW : We M L R a s) (hg : g < 2) (hs : s < 256) (ht : Sub t s) (ht2 : t < 256) : ∃ M', pz_cal (d + 4) 70 [(2, 103), (0, (t : Int)), (0, (g : Int))] ((pz_SH, ss, 0, 0, dd), M) = some (some (0, mn L R a g t), ((pz_SH, ss, 0, 0, dd), M')) ∧ Fr MS M M' ∧ Rf M' ∧ Z0 M' := by
  have h8 : cb t 16 ≤ 8 := by rw [cb_256 ht2]; exact cb_le t 8
  obtain ⟨M', e', r', i', f'⟩ := c_Sp_timesPoints (d := d) (ss := ss) (dd := dd) (s := t) (sdb_Sd g) hR (hW g hg) (by omega) ht h8
  have hb2 := Sd_le (sdb_Sd g)
  obtain ⟨z1, z2, z3⟩ := ds_ok (P := Pt R) (O := OO L R a g) (l := LL L R a g) (s := t) (fun d hd => (Ro_Pt hRo hd).2) 16 (fun _ _ _ => OO_Od) h8
  have b := tp_b z1 z3 80 (by decide)
  rw [z3] at b
  refine ⟨M', ?_, FrS_MS (sdb_Sd g) f', r', FrS_Z0 (sdb_Sd g) f' hz⟩
  have s0 := sd0 (ss := ss) (dd := dd) (sdb_Sd g)
  have c2 := c_Sc_side (d := d + 2) (ss := ss) (dd := dd) (g := g) hR
  unfold mn
  generalize su (fun i => ds (Pt R) (OO L R a g) (LL L R a g) t 16 i * i) 0 80 = v at *
  have u1 : pz_ldiv v 1000000 = v / 1000000 := pn_ldiv b.1 (by omega) (by decide) (by decide)
  simp (maxSteps := 1000000) (disch := omega) only [↓reduceIte, sp_0, sp_s, Option.map_some, Option.map_none, Option.some.injEq, o_le, o_nle, o_lt, o_nlt, o_eq, o_neq, w32_id, up_at, nw_at, nw_s, k_Sc_meanBy, px_iconst, px_bipush, px_sipush, px_ldc, px_ldc_w, px_lconst, px_ldc2_w, px_aconst_null, px_getstatic, px_iload_n, px_iload, px_lload_n, px_lload, px_aload_n, px_aload, px_istore_n, px_istore, px_astore_n, px_astore, px_lstore_n, px_lstore, px_iinc, px_iadd, px_isub, px_imul, px_iand, px_ior, px_ixor, px_ishl, px_ishr, px_iushr, px_ladd, px_lsub, px_lmul, px_land, px_lor, px_lcmp, px_lushr, px_lshl, px_ineg, px_i2l, px_l2i, px_idiv, px_irem, px_ldiv, px_lrem, px_dup0, px_pop0, px_dup2, px_pop2, px_dup2x, px_goto, px_if_eq, px_ic_eq, px_if_ne, px_ic_ne, px_if_lt, px_ic_lt, px_if_ge, px_ic_ge, px_if_gt, px_ic_gt, px_if_le, px_ic_le, px_ifnull, px_ifnonnull, px_lookupswitch, px_tableswitch, px_getfield, px_iaload, px_laload, px_caload, px_aaload, px_iastore, px_lastore, px_arraylength, px_putfield, px_ireturn, px_lreturn, px_areturn, px_return, px_iv0, px_is0, px_iv1, px_is1, px_iv2, px_is2, px_iv3, px_is3, px_iv4, px_is4, px_iv5, px_is5, px_iv6, px_is6, px_max, px_min, px_abs, px_maxJ, px_minJ, px_ii0, px_ii1, px_iio, px_copy, pz_cpk, pz_lk, pz_alk, pz_ask, pz_gfk, pz_lnk, pz_bx, pz_b, pz_z, pz_s1, pz_s2, pz_wt, pz_cmp, List.getElem?_cons_zero, List.getElem?_cons_succ, List.getElem?_nil, List.set_cons_zero, List.set_cons_succ, List.length_cons, List.length_nil, List.nil_append, List.cons_append, Option.toList_some, Option.toList_none, if_true, if_false, ite_true, ite_false, and_true, true_and, and_self, or_self, or_false, false_or, true_or, or_true, and_false, false_and, not_true_eq_false, not_false_eq_true, forall_const, ne_eq, reduceCtorEq, implies_true, false_implies, true_implies, Int.toNat_natCast, Nat.reduceAdd, Nat.reduceSub, Nat.reduceLT, Nat.reduceLeDiff, Nat.reduceEqDiff, Int.reduceLT, Int.reduceLE, Int.reduceToNat, Int.reduceNeg, Int.reduceEq, Int.reduceAdd, Nat.reduceMul, Int.reduceSub, Nat.reduceBEq, Int.reduceMul, Nat.add_zero, Nat.zero_add, Int.cast_ofNat_Int, Int.ofNat_eq_coe, decide_eq_true_eq, Nat.lt_irrefl, Nat.le_refl, List.getElem?_toArray, Option.elim_some, Option.elim_none, j_Sc_meanBy_0, g_103, c2, e', s0, u1]
/-- the deed that a draw says -/
def dby (o : Nat → Int) (w : Int) : Int := if w < o 0 / 1000000 then 0 else if w < (o 0 + o 1) / 1000000 then 1 else if w < (o 0 + o 1 + o 2) / 1000000 then 2 else 3
set_option maxRecDepth 100000 in
theorem c_Sc_deedBy_1 {R : Nat → Int} {a g s c e : Nat} {w x : Int} {m : Nat} (hR : Rf M) (hW : We M L R a s) (hg : g < 2) (hs : s.testBit c = true) (hc : c < 8) (he : e < 3) (hx : 0 ≤ x ∧ x ≤ 1000000000) (hx2 : x + OO L R a g c e ≤ 1000000000) : pz_p bl_Sc_deedBy (pz_cal (d + 2)) 0 0 6 [] [(2, 103), (0, (c : Int)), (0, (g : Int)), (0, w), (0, x), (0, (e : Int))] [] ((pz_SH, ss, 0, 0, dd), M) = if w < (x + OO L R a g c e) / 1000000 then some (some (0, (e : Int)), ((pz_SH, ss, 0, 0, dd), M)) else pz_p bl_Sc_deedBy (pz_cal (d + 2)) 0 0 6 [] [(2, 103), (0, (c : Int)), (0, (g : Int)), (0, w), (0, x + OO L R a g c e), (0, (e : Int) + 1)] [] ((pz_SH, ss, 0, 0, dd), M) := by
  have hb2 := Sd_le (sdb_Sd g)
  have s0 := sd0 (ss := ss) (dd := dd) (sdb_Sd g)
  have c2 := c_Sc_side (d := d + 1) (ss := ss) (dd := dd) (g := g) hR
  have c3 := c_Sp_oddsAt (d := d + 1) (ss := ss) (dd := dd) (pl := c) (e := e) (sdb_Sd g) hR (hW g hg) hs (by omega) (by omega)
  have b := (OO_Od (L := L) (R := R) (a := a) (g := g) (c := c)).1 e (by omega)
  rw [j_Sc_deedBy_6]
  generalize OO L R a g c e = v at *
  have u1 : pz_div (x + v) 1000000 = (x + v) / 1000000 := pn_div (by omega) (by omega) (by decide) (by decide)
  by_cases hw : w < (x + v) / 1000000
  · rw [if_pos hw]
    simp (maxSteps := 1000000) (disch := omega) only [↓reduceIte, sp_0, sp_s, Option.map_some, Option.map_none, Option.some.injEq, o_le, o_nle, o_lt, o_nlt, o_eq, o_neq, w32_id, nw_s, px_iconst, px_bipush, px_sipush, px_ldc, px_ldc_w, px_lconst, px_ldc2_w, px_aconst_null, px_getstatic, px_iload_n, px_iload, px_lload_n, px_lload, px_aload_n, px_aload, px_istore_n, px_istore, px_astore_n, px_astore, px_lstore_n, px_lstore, px_iinc, px_iadd, px_isub, px_imul, px_iand, px_ior, px_ixor, px_ishl, px_ishr, px_iushr, px_ladd, px_lsub, px_lmul, px_land, px_lor, px_lcmp, px_lushr, px_lshl, px_ineg, px_i2l, px_l2i, px_idiv, px_irem, px_ldiv, px_lrem, px_dup0, px_pop0, px_dup2, px_pop2, px_dup2x, px_goto, px_if_eq, px_ic_eq, px_if_ne, px_ic_ne, px_if_lt, px_ic_lt, px_if_ge, px_ic_ge, px_if_gt, px_ic_gt, px_if_le, px_ic_le, px_ifnull, px_ifnonnull, px_lookupswitch, px_tableswitch, px_getfield, px_iaload, px_laload, px_caload, px_aaload, px_iastore, px_lastore, px_arraylength, px_putfield, px_ireturn, px_lreturn, px_areturn, px_return, px_iv0, px_is0, px_iv1, px_is1, px_iv2, px_is2, px_iv3, px_is3, px_iv4, px_is4, px_iv5, px_is5, px_iv6, px_is6, px_max, px_min, px_abs, px_maxJ, px_minJ, px_ii0, px_ii1, px_iio, px_copy, pz_cpk, pz_lk, pz_alk, pz_ask, pz_gfk, pz_lnk, pz_bx, pz_b, pz_z, pz_s1, pz_s2, pz_wt, pz_cmp, List.getElem?_cons_zero, List.getElem?_cons_succ, List.getElem?_nil, List.set_cons_zero, List.set_cons_succ, List.length_cons, List.length_nil, List.nil_append, List.cons_append, Option.toList_some, Option.toList_none, if_true, if_false, ite_true, ite_false, and_true, true_and, and_self, or_self, or_false, false_or, true_or, or_true, and_false, false_and, not_true_eq_false, not_false_eq_true, forall_const, ne_eq, reduceCtorEq, implies_true, false_implies, true_implies, Int.toNat_natCast, Nat.reduceAdd, Nat.reduceSub, Nat.reduceLT, Nat.reduceLeDiff, Nat.reduceEqDiff, Int.reduceLT, Int.reduceLE, Int.reduceToNat, Int.reduceNeg, Int.reduceEq, Int.reduceAdd, Nat.reduceMul, Int.reduceSub, Nat.reduceBEq, Int.reduceMul, Nat.add_zero, Nat.zero_add, Int.cast_ofNat_Int, Int.ofNat_eq_coe, decide_eq_true_eq, Nat.lt_irrefl, Nat.le_refl, List.getElem?_toArray, Option.elim_some, Option.elim_none, j_Sc_deedBy_40, g_103, c2, c3, s0, u1]
  · rw [if_neg hw]
    simp (maxSteps := 1000000) (disch := omega) only [↓reduceIte, sp_0, sp_s, Option.map_some, Option.map_none, Option.some.injEq, o_le, o_nle, o_lt, o_nlt, o_eq, o_neq, w32_id, nw_s, px_iconst, px_bipush, px_sipush, px_ldc, px_ldc_w, px_lconst, px_ldc2_w, px_aconst_null, px_getstatic, px_iload_n, px_iload, px_lload_n, px_lload, px_aload_n, px_aload, px_istore_n, px_istore, px_astore_n, px_astore, px_lstore_n, px_lstore, px_iinc, px_iadd, px_isub, px_imul, px_iand, px_ior, px_ixor, px_ishl, px_ishr, px_iushr, px_ladd, px_lsub, px_lmul, px_land, px_lor, px_lcmp, px_lushr, px_lshl, px_ineg, px_i2l, px_l2i, px_idiv, px_irem, px_ldiv, px_lrem, px_dup0, px_pop0, px_dup2, px_pop2, px_dup2x, px_goto, px_if_eq, px_ic_eq, px_if_ne, px_ic_ne, px_if_lt, px_ic_lt, px_if_ge, px_ic_ge, px_if_gt, px_ic_gt, px_if_le, px_ic_le, px_ifnull, px_ifnonnull, px_lookupswitch, px_tableswitch, px_getfield, px_iaload, px_laload, px_caload, px_aaload, px_iastore, px_lastore, px_arraylength, px_putfield, px_ireturn, px_lreturn, px_areturn, px_return, px_iv0, px_is0, px_iv1, px_is1, px_iv2, px_is2, px_iv3, px_is3, px_iv4, px_is4, px_iv5, px_is5, px_iv6, px_is6, px_max, px_min, px_abs, px_maxJ, px_minJ, px_ii0, px_ii1, px_iio, px_copy, pz_cpk, pz_lk, pz_alk, pz_ask, pz_gfk, pz_lnk, pz_bx, pz_b, pz_z, pz_s1, pz_s2, pz_wt, pz_cmp, List.getElem?_cons_zero, List.getElem?_cons_succ, List.getElem?_nil, List.set_cons_zero, List.set_cons_succ, List.length_cons, List.length_nil, List.nil_append, List.cons_append, Option.toList_some, Option.toList_none, if_true, if_false, ite_true, ite_false, and_true, true_and, and_self, or_self, or_false, false_or, true_or, or_true, and_false, false_and, not_true_eq_false, not_false_eq_true, forall_const, ne_eq, reduceCtorEq, implies_true, false_implies, true_implies, Int.toNat_natCast, Nat.reduceAdd, Nat.reduceSub, Nat.reduceLT, Nat.reduceLeDiff, Nat.reduceEqDiff, Int.reduceLT, Int.reduceLE, Int.reduceToNat, Int.reduceNeg, Int.reduceEq, Int.reduceAdd, Nat.reduceMul, Int.reduceSub, Nat.reduceBEq, Int.reduceMul, Nat.add_zero, Nat.zero_add, Int.cast_ofNat_Int, Int.ofNat_eq_coe, decide_eq_true_eq, Nat.lt_irrefl, Nat.le_refl, List.getElem?_toArray, Option.elim_some, Option.elim_none, j_Sc_deedBy_40, g_103, c2, c3, s0, u1]
set_option maxRecDepth 100000 in
theorem c_Sc_deedBy {R : Nat → Int} {a g s c : Nat} {w : Int} (hR : Rf M) (hW : We M L R a s) (hg : g < 2) (hs : s.testBit c = true) (hc : c < 8) : pz_cal (d + 3) 71 [(2, 103), (0, (c : Int)), (0, (g : Int)), (0, w)] ((pz_SH, ss, 0, 0, dd), M) = some (some (0, dby (OO L R a g c) w), ((pz_SH, ss, 0, 0, dd), M)) := by
  have hO := OO_Od (L := L) (R := R) (a := a) (g := g) (c := c)
  have b0 := hO.1 0 (by decide)
  have b1 := hO.1 1 (by decide)
  have b2 := hO.1 2 (by decide)
  have b3 := hO.1 3 (by decide)
  have bs := hO.2.1
  have t0 := c_Sc_deedBy_1 (d := d) (ss := ss) (dd := dd) (L := L) (e := 0) (w := w) (x := 0) (m := 0) hR hW hg hs hc (by decide) (by decide) (by omega)
  have t1 := c_Sc_deedBy_1 (d := d) (ss := ss) (dd := dd) (L := L) (e := 1) (w := w) (x := OO L R a g c 0) (m := 0) hR hW hg hs hc (by decide) (by omega) (by omega)
  have t2 := c_Sc_deedBy_1 (d := d) (ss := ss) (dd := dd) (L := L) (e := 2) (w := w) (x := OO L R a g c 0 + OO L R a g c 1) (m := 0) hR hW hg hs hc (by decide) (by omega) (by omega)
  rw [Int.zero_add] at t0
  have t3 : pz_p bl_Sc_deedBy (pz_cal (d + 2)) 0 0 6 [] [(2, 103), (0, (c : Int)), (0, (g : Int)), (0, w), (0, OO L R a g c 0 + OO L R a g c 1 + OO L R a g c 2), (0, 3)] [] ((pz_SH, ss, 0, 0, dd), M) = some (some (0, 3), ((pz_SH, ss, 0, 0, dd), M)) := by
    rw [j_Sc_deedBy_6]
    simp (maxSteps := 1000000) (disch := omega) only [↓reduceIte, sp_0, sp_s, Option.map_some, Option.map_none, Option.some.injEq, o_le, o_nle, o_lt, o_nlt, o_eq, o_neq, w32_id, nw_s, px_iconst, px_bipush, px_sipush, px_ldc, px_ldc_w, px_lconst, px_ldc2_w, px_aconst_null, px_getstatic, px_iload_n, px_iload, px_lload_n, px_lload, px_aload_n, px_aload, px_istore_n, px_istore, px_astore_n, px_astore, px_lstore_n, px_lstore, px_iinc, px_iadd, px_isub, px_imul, px_iand, px_ior, px_ixor, px_ishl, px_ishr, px_iushr, px_ladd, px_lsub, px_lmul, px_land, px_lor, px_lcmp, px_lushr, px_lshl, px_ineg, px_i2l, px_l2i, px_idiv, px_irem, px_ldiv, px_lrem, px_dup0, px_pop0, px_dup2, px_pop2, px_dup2x, px_goto, px_if_eq, px_ic_eq, px_if_ne, px_ic_ne, px_if_lt, px_ic_lt, px_if_ge, px_ic_ge, px_if_gt, px_ic_gt, px_if_le, px_ic_le, px_ifnull, px_ifnonnull, px_lookupswitch, px_tableswitch, px_getfield, px_iaload, px_laload, px_caload, px_aaload, px_iastore, px_lastore, px_arraylength, px_putfield, px_ireturn, px_lreturn, px_areturn, px_return, px_iv0, px_is0, px_iv1, px_is1, px_iv2, px_is2, px_iv3, px_is3, px_iv4, px_is4, px_iv5, px_is5, px_iv6, px_is6, px_max, px_min, px_abs, px_maxJ, px_minJ, px_ii0, px_ii1, px_iio, px_copy, pz_cpk, pz_lk, pz_alk, pz_ask, pz_gfk, pz_lnk, pz_bx, pz_b, pz_z, pz_s1, pz_s2, pz_wt, pz_cmp, List.getElem?_cons_zero, List.getElem?_cons_succ, List.getElem?_nil, List.set_cons_zero, List.set_cons_succ, List.length_cons, List.length_nil, List.nil_append, List.cons_append, Option.toList_some, Option.toList_none, if_true, if_false, ite_true, ite_false, and_true, true_and, and_self, or_self, or_false, false_or, true_or, or_true, and_false, false_and, not_true_eq_false, not_false_eq_true, forall_const, ne_eq, reduceCtorEq, implies_true, false_implies, true_implies, Int.toNat_natCast, Nat.reduceAdd, Nat.reduceSub, Nat.reduceLT, Nat.reduceLeDiff, Nat.reduceEqDiff, Int.reduceLT, Int.reduceLE, Int.reduceToNat, Int.reduceNeg, Int.reduceEq, Int.reduceAdd, Nat.reduceMul, Int.reduceSub, Nat.reduceBEq, Int.reduceMul, Nat.add_zero, Nat.zero_add, Int.cast_ofNat_Int, Int.ofNat_eq_coe, decide_eq_true_eq, Nat.lt_irrefl, Nat.le_refl, List.getElem?_toArray, Option.elim_some, Option.elim_none, j_Sc_deedBy_46]
  have t0 : pz_p bl_Sc_deedBy (pz_cal (d + 2)) 0 0 6 [] [(2, 103), (0, (c : Int)), (0, (g : Int)), (0, w), (0, 0), (0, 0)] [] ((pz_SH, ss, 0, 0, dd), M) = if w < OO L R a g c 0 / 1000000 then some (some (0, 0), ((pz_SH, ss, 0, 0, dd), M)) else pz_p bl_Sc_deedBy (pz_cal (d + 2)) 0 0 6 [] [(2, 103), (0, (c : Int)), (0, (g : Int)), (0, w), (0, OO L R a g c 0), (0, 1)] [] ((pz_SH, ss, 0, 0, dd), M) := t0
  have t1 : pz_p bl_Sc_deedBy (pz_cal (d + 2)) 0 0 6 [] [(2, 103), (0, (c : Int)), (0, (g : Int)), (0, w), (0, OO L R a g c 0), (0, 1)] [] ((pz_SH, ss, 0, 0, dd), M) = if w < (OO L R a g c 0 + OO L R a g c 1) / 1000000 then some (some (0, 1), ((pz_SH, ss, 0, 0, dd), M)) else pz_p bl_Sc_deedBy (pz_cal (d + 2)) 0 0 6 [] [(2, 103), (0, (c : Int)), (0, (g : Int)), (0, w), (0, OO L R a g c 0 + OO L R a g c 1), (0, 2)] [] ((pz_SH, ss, 0, 0, dd), M) := t1
  have t2 : pz_p bl_Sc_deedBy (pz_cal (d + 2)) 0 0 6 [] [(2, 103), (0, (c : Int)), (0, (g : Int)), (0, w), (0, OO L R a g c 0 + OO L R a g c 1), (0, 2)] [] ((pz_SH, ss, 0, 0, dd), M) = if w < (OO L R a g c 0 + OO L R a g c 1 + OO L R a g c 2) / 1000000 then some (some (0, 2), ((pz_SH, ss, 0, 0, dd), M)) else pz_p bl_Sc_deedBy (pz_cal (d + 2)) 0 0 6 [] [(2, 103), (0, (c : Int)), (0, (g : Int)), (0, w), (0, OO L R a g c 0 + OO L R a g c 1 + OO L R a g c 2), (0, 3)] [] ((pz_SH, ss, 0, 0, dd), M) := t2
  have e0 : pz_cal (d + 3) 71 [(2, 103), (0, (c : Int)), (0, (g : Int)), (0, w)] ((pz_SH, ss, 0, 0, dd), M) = pz_p bl_Sc_deedBy (pz_cal (d + 2)) 0 0 6 [] [(2, 103), (0, (c : Int)), (0, (g : Int)), (0, w), (0, 0), (0, 0)] [] ((pz_SH, ss, 0, 0, dd), M) := by
    simp (maxSteps := 1000000) (disch := omega) only [↓reduceIte, sp_0, sp_s, Option.map_some, Option.map_none, Option.some.injEq, o_le, o_nle, o_lt, o_nlt, o_eq, o_neq, w32_id, up_at, nw_at, nw_s, k_Sc_deedBy, px_iconst, px_bipush, px_sipush, px_ldc, px_ldc_w, px_lconst, px_ldc2_w, px_aconst_null, px_getstatic, px_iload_n, px_iload, px_lload_n, px_lload, px_aload_n, px_aload, px_istore_n, px_istore, px_astore_n, px_astore, px_lstore_n, px_lstore, px_iinc, px_iadd, px_isub, px_imul, px_iand, px_ior, px_ixor, px_ishl, px_ishr, px_iushr, px_ladd, px_lsub, px_lmul, px_land, px_lor, px_lcmp, px_lushr, px_lshl, px_ineg, px_i2l, px_l2i, px_idiv, px_irem, px_ldiv, px_lrem, px_dup0, px_pop0, px_dup2, px_pop2, px_dup2x, px_goto, px_if_eq, px_ic_eq, px_if_ne, px_ic_ne, px_if_lt, px_ic_lt, px_if_ge, px_ic_ge, px_if_gt, px_ic_gt, px_if_le, px_ic_le, px_ifnull, px_ifnonnull, px_lookupswitch, px_tableswitch, px_getfield, px_iaload, px_laload, px_caload, px_aaload, px_iastore, px_lastore, px_arraylength, px_putfield, px_ireturn, px_lreturn, px_areturn, px_return, px_iv0, px_is0, px_iv1, px_is1, px_iv2, px_is2, px_iv3, px_is3, px_iv4, px_is4, px_iv5, px_is5, px_iv6, px_is6, px_max, px_min, px_abs, px_maxJ, px_minJ, px_ii0, px_ii1, px_iio, px_copy, pz_cpk, pz_lk, pz_alk, pz_ask, pz_gfk, pz_lnk, pz_bx, pz_b, pz_z, pz_s1, pz_s2, pz_wt, pz_cmp, List.getElem?_cons_zero, List.getElem?_cons_succ, List.getElem?_nil, List.set_cons_zero, List.set_cons_succ, List.length_cons, List.length_nil, List.nil_append, List.cons_append, Option.toList_some, Option.toList_none, if_true, if_false, ite_true, ite_false, and_true, true_and, and_self, or_self, or_false, false_or, true_or, or_true, and_false, false_and, not_true_eq_false, not_false_eq_true, forall_const, ne_eq, reduceCtorEq, implies_true, false_implies, true_implies, Int.toNat_natCast, Nat.reduceAdd, Nat.reduceSub, Nat.reduceLT, Nat.reduceLeDiff, Nat.reduceEqDiff, Int.reduceLT, Int.reduceLE, Int.reduceToNat, Int.reduceNeg, Int.reduceEq, Int.reduceAdd, Nat.reduceMul, Int.reduceSub, Nat.reduceBEq, Int.reduceMul, Nat.add_zero, Nat.zero_add, Int.cast_ofNat_Int, Int.ofNat_eq_coe, decide_eq_true_eq, Nat.lt_irrefl, Nat.le_refl, List.getElem?_toArray, Option.elim_some, Option.elim_none, j_Sc_deedBy_0]
  rw [e0, t0, t1, t2, t3]
  unfold dby
  split
  · rfl
  · split
    · rfl
    · split <;> rfl
end P27
