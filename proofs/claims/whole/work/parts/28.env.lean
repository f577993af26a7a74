/-! WHAT EVERY QUESTION BEGINS WITH: who serves, whose case it is, what the mind thinks of -/
def svn (R : Nat → Int) : Nat → Nat
  | 0 => 0
  | n + 1 => if R (7 + 7 * n + 6) = 0 then svn R n + 2 ^ n else svn R n
theorem svn_srv (R : Nat → Int) : ∀ n, srv R n = (svn R n : Int)
  | 0 => rfl
  | n + 1 => by
    have h := svn_srv R n
    have e := pn_2p n
    unfold srv svn
    split
    · rw [h, ← e]; omega
    · exact h
theorem svn_lt (R : Nat → Int) : ∀ n, svn R n < 2 ^ n
  | 0 => (by decide : 0 < 2 ^ 0)
  | n + 1 => by
    have h := svn_lt R n
    have e := Nat.pow_succ 2 n
    unfold svn
    split <;> omega
theorem tb_add {a n i : Nat} (h : a < 2 ^ n) : (a + 2 ^ n).testBit i = if i = n then true else a.testBit i := by
  rw [Nat.add_comm]
  by_cases e : i = n
  · subst e
    rw [if_pos rfl, Nat.testBit_two_pow_add_eq, Nat.testBit_lt_two_pow h]
    rfl
  · rw [if_neg e]
    by_cases h2 : i < n
    · exact Nat.testBit_two_pow_add_gt h2 a
    · have hp : 2 ^ (n + 1) ≤ 2 ^ i := Nat.pow_le_pow_right (by decide) (by omega)
      have e2 := Nat.pow_succ 2 n
      rw [Nat.testBit_lt_two_pow (show 2 ^ n + a < 2 ^ i by omega), Nat.testBit_lt_two_pow (show a < 2 ^ i by omega)]
theorem svn_tb (R : Nat → Int) : ∀ n i, (svn R n).testBit i = (decide (i < n) && decide (R (7 + 7 * i + 6) = 0))
  | 0, i => by
    show (0 : Nat).testBit i = _
    rw [Nat.zero_testBit, decide_eq_false (by omega)]
    rfl
  | n + 1, i => by
    have h := svn_tb R n i
    unfold svn
    split
    · next hz =>
      rw [tb_add (svn_lt R n)]
      by_cases e : i = n
      · subst e
        rw [if_pos rfl, decide_eq_true (show i < i + 1 by omega), decide_eq_true hz]
        rfl
      · rw [if_neg e, h]
        by_cases h2 : i < n
        · rw [decide_eq_true h2, decide_eq_true (show i < n + 1 by omega)]
        · rw [decide_eq_false h2, decide_eq_false (show ¬ i < n + 1 by omega)]
    · next hz =>
      rw [h]
      by_cases e : i = n
      · subst e
        rw [decide_eq_false (show ¬ i < i by omega), decide_eq_false hz, Bool.and_false, Bool.and_false]
      · by_cases h2 : i < n
        · rw [decide_eq_true h2, decide_eq_true (show i < n + 1 by omega)]
        · rw [decide_eq_false h2, decide_eq_false (show ¬ i < n + 1 by omega)]
/-- the cats that serve -/
def sv (R : Nat → Int) : Nat := svn R (R 141).toNat
theorem sv_lt {R : Nat → Int} (h : Ro R) : sv R < 256 := by
  have h1 := svn_lt R (R 141).toNat
  have h2 := h.2.2.2.2.1
  have h3 : 2 ^ (R 141).toNat ≤ 2 ^ 8 := Nat.pow_le_pow_right (by decide) (by omega)
  exact Nat.lt_of_lt_of_le h1 h3
theorem and_Sub {t s : Nat} : t &&& s = t ↔ Sub t s := by
  constructor
  · intro h i hi
    rw [← h, Nat.testBit_and] at hi
    exact (Bool.and_eq_true_iff.mp hi).2
  · intro h
    refine Nat.eq_of_testBit_eq (fun i => ?_)
    rw [Nat.testBit_and]
    cases e : t.testBit i with
    | false => rfl
    | true => rw [h i e]; rfl
theorem Sub_le {t s : Nat} (h : Sub t s) : t ≤ s := by
  rw [← and_Sub.mpr h]
  exact Nat.and_le_right
/-- the machine's test that a set lies in another -/
theorem pn_sub {t s : Nat} (ht : t < 2147483648) : pz_and (t : Int) (pz_xor (s : Int) (-1)) = ((t ^^^ (t &&& s) : Nat) : Int) := by
  unfold pz_and pz_xor
  rw [Int32.ofInt_toInt, ← Int32.toInt_toBitVec, Int32.toBitVec_and, Int32.toBitVec_xor]
  have et : (Int32.ofInt (t : Int)).toBitVec = BitVec.ofNat 32 t := by
    rw [Int32.toBitVec_ofInt]
    exact BitVec.ofInt_natCast 32 t
  have es : (Int32.ofInt (s : Int)).toBitVec = BitVec.ofNat 32 s := by
    rw [Int32.toBitVec_ofInt]
    exact BitVec.ofInt_natCast 32 s
  have em : (Int32.ofInt (-1 : Int)).toBitVec = BitVec.allOnes 32 := by decide
  rw [et, es, em, BitVec.xor_allOnes]
  have h3 : (BitVec.ofNat 32 t &&& ~~~BitVec.ofNat 32 s).toNat = t ^^^ (t &&& s) := by
    refine Nat.eq_of_testBit_eq (fun i => ?_)
    rw [← BitVec.getLsbD, BitVec.getLsbD_and, BitVec.getLsbD_not, BitVec.getLsbD_ofNat, BitVec.getLsbD_ofNat, Nat.testBit_xor, Nat.testBit_and]
    by_cases hi : i < 32
    · simp only [hi, decide_true, Bool.true_and]
      cases t.testBit i <;> cases s.testBit i <;> rfl
    · have : t.testBit i = false := Nat.testBit_lt_two_pow (Nat.lt_of_lt_of_le ht (Nat.pow_le_pow_right (by decide) (by omega) : 2 ^ 31 ≤ 2 ^ i))
      simp only [hi, decide_false, Bool.false_and, this, Bool.xor_false]
  have h4 : t ^^^ (t &&& s) < 2 ^ 31 := Nat.xor_lt_two_pow ht (Nat.lt_of_le_of_lt Nat.and_le_left ht)
  rw [BitVec.toInt_eq_toNat_of_lt (by rw [h3]; omega), h3]
theorem pn_sub0 {t s : Nat} (ht : t < 2147483648) : pz_and (t : Int) (pz_xor (s : Int) (-1)) = 0 ↔ t &&& s = t := by
  rw [pn_sub ht]
  constructor
  · intro h
    have h : t ^^^ (t &&& s) = 0 := by omega
    refine Nat.eq_of_testBit_eq (fun i => ?_)
    have h2 : (t ^^^ (t &&& s)).testBit i = (0 : Nat).testBit i := by rw [h]
    rw [Nat.testBit_xor, Nat.zero_testBit] at h2
    revert h2
    cases t.testBit i <;> cases (t &&& s).testBit i <;> simp
  · intro h
    rw [h, Nat.xor_self]
    rfl
def I32 (v : Int) : Prop := -2147483648 ≤ v ∧ v ≤ 2147483647
abbrev CtP (R : Nat → Int) (c : Int) : Prop := 0 ≤ c ∧ c < R 141
abbrev AcP (R : Nat → Int) (a : Int) : Prop := 0 ≤ a ∧ a < R 142
abbrev StP (R : Nat → Int) (s : Int) : Prop := 0 < s ∧ s.toNat &&& sv R = s.toNat
abbrev BiP (g : Int) : Prop := g = 0 ∨ g = 1
abbrev DeP (e : Int) : Prop := 0 ≤ e ∧ e < 4
/-- the law that holds -/
def HL (M : pz_M) (L : Option ((Nat → Int) → Int)) : Prop := match L with
  | none => M 0 5 = -1
  | some f => ∃ k : Nat, k < 4 ∧ M 0 5 = (k : Int) ∧ LawOk M k f
def Ev (M : pz_M) (L : Option ((Nat → Int) → Int)) (R : Nat → Int) : Prop := Rf M ∧ Z0 M ∧ M 10 = R ∧ Ro R ∧ HL M L
def QMS : List Nat := 99 :: 12 :: 98 :: MS
/-- what a question may leave behind -/
def Qu (M M' : pz_M) : Prop := Fr QMS M M' ∧ Rf M' ∧ Z0 M'
theorem QMS_law : ∀ k, k < 4 → 135 + 3 * k ∉ QMS ∧ 136 + 3 * k ∉ QMS := by decide +kernel
theorem MS_Q {c : Nat} (h : c ∈ MS) : c ∈ QMS := List.mem_cons_of_mem _ (List.mem_cons_of_mem _ (List.mem_cons_of_mem _ h))
theorem HL_fr {l : List Nat} {M M' : pz_M} {L : Option ((Nat → Int) → Int)} (h : HL M L) (f : Fr l M M') (hl : ∀ c ∈ l, c ∈ QMS) : HL M' L := by
  have f2 : Fr QMS M M' := Fr_s f hl
  have e0 : M' 0 = M 0 := f2 0 (by decide)
  cases L with
  | none => show M' 0 5 = -1; rw [e0]; exact h
  | some g =>
    obtain ⟨k, hk, h6, h7⟩ := h
    have := QMS_law k hk
    exact ⟨k, hk, by rw [e0]; exact h6, LawOk_fr h7 (f2 _ this.1) (f2 _ this.2)⟩
theorem Ev_Q {M M' : pz_M} {L : Option ((Nat → Int) → Int)} {R : Nat → Int} (h : Ev M L R) (q : Qu M M') : Ev M' L R := by
  obtain ⟨h1, h2, h3, h4, h5⟩ := h
  obtain ⟨q1, q2, q3⟩ := q
  exact ⟨q2, q3, by rw [q1 10 (by decide)]; exact h3, h4, HL_fr h5 q1 (fun c hc => hc)⟩
theorem Qu_r {M : pz_M} {L : Option ((Nat → Int) → Int)} {R : Nat → Int} (h : Ev M L R) : Qu M M := ⟨Fr_r, h.1, h.2.1⟩
theorem Qu_t {M M1 M2 : pz_M} (h1 : Qu M M1) (h2 : Qu M1 M2) : Qu M M2 := ⟨Fr_t h1.1 h2.1, h2.2⟩
theorem Ev_C {M : pz_M} {L : Option ((Nat → Int) → Int)} {R : Nat → Int} (h : Ev M L R) : Ct M 9 10 := ⟨rf_9_0 h.1, .inl ⟨rfl, rfl⟩⟩
section P28
variable {d : Nat} {ss : List (Nat × Nat)} {dd : Nat} {M : pz_M} {r : Int} {q b : Nat} {L : Option ((Nat → Int) → Int)} {R : Nat → Int}
set_option maxRecDepth 100000 in
theorem c_lawAt_n (hR : Rf M) {k : Int} (h : k = -1) : pz_cal (d + 1) 112 [(2, 0), (0, k)] ((pz_SH, ss, 0, 0, dd), M) = some (some (2, -1), ((pz_SH, ss, 0, 0, dd), M)) := by
  simp (maxSteps := 1000000) (disch := omega) only [↓reduceIte, sp_0, sp_s, Option.map_some, Option.map_none, Option.some.injEq, o_le, o_nle, o_lt, o_nlt, o_eq, o_neq, w32_id, up_at, nw_at, nw_s, k_CC_lawAt, px_iconst, px_bipush, px_sipush, px_ldc, px_ldc_w, px_lconst, px_ldc2_w, px_aconst_null, px_getstatic, px_iload_n, px_iload, px_lload_n, px_lload, px_aload_n, px_aload, px_istore_n, px_istore, px_astore_n, px_astore, px_lstore_n, px_lstore, px_iinc, px_iadd, px_isub, px_imul, px_iand, px_ior, px_ixor, px_ishl, px_ishr, px_iushr, px_ladd, px_lsub, px_lmul, px_land, px_lor, px_lcmp, px_lushr, px_lshl, px_ineg, px_i2l, px_l2i, px_idiv, px_irem, px_ldiv, px_lrem, px_dup0, px_pop0, px_dup2, px_pop2, px_dup2x, px_goto, px_if_eq, px_ic_eq, px_if_ne, px_ic_ne, px_if_lt, px_ic_lt, px_if_ge, px_ic_ge, px_if_gt, px_ic_gt, px_if_le, px_ic_le, px_ifnull, px_ifnonnull, px_lookupswitch, px_tableswitch, px_getfield, px_iaload, px_laload, px_caload, px_aaload, px_iastore, px_lastore, px_arraylength, px_putfield, px_ireturn, px_lreturn, px_areturn, px_return, px_iv0, px_is0, px_iv1, px_is1, px_iv2, px_is2, px_iv3, px_is3, px_iv4, px_is4, px_iv5, px_is5, px_iv6, px_is6, px_max, px_min, px_abs, px_maxJ, px_minJ, px_ii0, px_ii1, px_iio, px_copy, pz_cpk, pz_lk, pz_alk, pz_ask, pz_gfk, pz_lnk, pz_bx, pz_b, pz_z, pz_s1, pz_s2, pz_wt, pz_cmp, List.getElem?_cons_zero, List.getElem?_cons_succ, List.getElem?_nil, List.set_cons_zero, List.set_cons_succ, List.length_cons, List.length_nil, List.nil_append, List.cons_append, Option.toList_some, Option.toList_none, if_true, if_false, ite_true, ite_false, and_true, true_and, and_self, or_self, or_false, false_or, true_or, or_true, and_false, false_and, not_true_eq_false, not_false_eq_true, forall_const, ne_eq, reduceCtorEq, implies_true, false_implies, true_implies, Int.toNat_natCast, Nat.reduceAdd, Nat.reduceSub, Nat.reduceLT, Nat.reduceLeDiff, Nat.reduceEqDiff, Int.reduceLT, Int.reduceLE, Int.reduceToNat, Int.reduceNeg, Int.reduceEq, Int.reduceAdd, Nat.reduceMul, Int.reduceSub, Nat.reduceBEq, Int.reduceMul, Nat.add_zero, Nat.zero_add, Int.cast_ofNat_Int, Int.ofNat_eq_coe, decide_eq_true_eq, Nat.lt_irrefl, Nat.le_refl, List.getElem?_toArray, Option.elim_some, Option.elim_none, j_CC_lawAt_0, j_CC_lawAt_22, j_CC_lawAt_23]
set_option maxRecDepth 100000 in
theorem c_lawAt (hR : Rf M) {k : Nat} (h : k < 4) : pz_cal (d + 1) 112 [(2, 0), (0, (k : Int))] ((pz_SH, ss, 0, 0, dd), M) = some (some (2, ((135 + 3 * k : Nat) : Int)), ((pz_SH, ss, 0, 0, dd), M)) := by
  have e := rf_laws hR h
  rw [show ((135 + 3 * k : Nat) : Int) = 135 + 3 * (k : Int) by omega]
  simp (maxSteps := 1000000) (disch := omega) only [↓reduceIte, sp_0, sp_s, Option.map_some, Option.map_none, Option.some.injEq, o_le, o_nle, o_lt, o_nlt, o_eq, o_neq, w32_id, up_at, nw_at, nw_s, k_CC_lawAt, px_iconst, px_bipush, px_sipush, px_ldc, px_ldc_w, px_lconst, px_ldc2_w, px_aconst_null, px_getstatic, px_iload_n, px_iload, px_lload_n, px_lload, px_aload_n, px_aload, px_istore_n, px_istore, px_astore_n, px_astore, px_lstore_n, px_lstore, px_iinc, px_iadd, px_isub, px_imul, px_iand, px_ior, px_ixor, px_ishl, px_ishr, px_iushr, px_ladd, px_lsub, px_lmul, px_land, px_lor, px_lcmp, px_lushr, px_lshl, px_ineg, px_i2l, px_l2i, px_idiv, px_irem, px_ldiv, px_lrem, px_dup0, px_pop0, px_dup2, px_pop2, px_dup2x, px_goto, px_if_eq, px_ic_eq, px_if_ne, px_ic_ne, px_if_lt, px_ic_lt, px_if_ge, px_ic_ge, px_if_gt, px_ic_gt, px_if_le, px_ic_le, px_ifnull, px_ifnonnull, px_lookupswitch, px_tableswitch, px_getfield, px_iaload, px_laload, px_caload, px_aaload, px_iastore, px_lastore, px_arraylength, px_putfield, px_ireturn, px_lreturn, px_areturn, px_return, px_iv0, px_is0, px_iv1, px_is1, px_iv2, px_is2, px_iv3, px_is3, px_iv4, px_is4, px_iv5, px_is5, px_iv6, px_is6, px_max, px_min, px_abs, px_maxJ, px_minJ, px_ii0, px_ii1, px_iio, px_copy, pz_cpk, pz_lk, pz_alk, pz_ask, pz_gfk, pz_lnk, pz_bx, pz_b, pz_z, pz_s1, pz_s2, pz_wt, pz_cmp, List.getElem?_cons_zero, List.getElem?_cons_succ, List.getElem?_nil, List.set_cons_zero, List.set_cons_succ, List.length_cons, List.length_nil, List.nil_append, List.cons_append, Option.toList_some, Option.toList_none, if_true, if_false, ite_true, ite_false, and_true, true_and, and_self, or_self, or_false, false_or, true_or, or_true, and_false, false_and, not_true_eq_false, not_false_eq_true, forall_const, ne_eq, reduceCtorEq, implies_true, false_implies, true_implies, Int.toNat_natCast, Nat.reduceAdd, Nat.reduceSub, Nat.reduceLT, Nat.reduceLeDiff, Nat.reduceEqDiff, Int.reduceLT, Int.reduceLE, Int.reduceToNat, Int.reduceNeg, Int.reduceEq, Int.reduceAdd, Nat.reduceMul, Int.reduceSub, Nat.reduceBEq, Int.reduceMul, Nat.add_zero, Nat.zero_add, Int.cast_ofNat_Int, Int.ofNat_eq_coe, decide_eq_true_eq, Nat.lt_irrefl, Nat.le_refl, List.getElem?_toArray, Option.elim_some, Option.elim_none, j_CC_lawAt_0, j_CC_lawAt_22, j_CC_lawAt_23, g_0, g_8, rf_0_3 hR, e]
set_option maxRecDepth 100000 in
theorem c_Mi_use {v : Int} (hr : 0 ≤ r) : pz_cal (d + 1) 50 [(2, 99), (2, r), (2, v)] ((pz_SH, ss, 0, 0, dd), M) = some (none, ((pz_SH, ss, 0, 0, dd), pz_up (pz_up M 99 0 r) 99 1 v)) := by
  simp (maxSteps := 1000000) (disch := omega) only [↓reduceIte, sp_0, sp_s, Option.map_some, Option.map_none, Option.some.injEq, o_le, o_nle, o_lt, o_nlt, o_eq, o_neq, w32_id, up_at, nw_at, nw_s, k_Mi_use, px_iconst, px_bipush, px_sipush, px_ldc, px_ldc_w, px_lconst, px_ldc2_w, px_aconst_null, px_getstatic, px_iload_n, px_iload, px_lload_n, px_lload, px_aload_n, px_aload, px_istore_n, px_istore, px_astore_n, px_astore, px_lstore_n, px_lstore, px_iinc, px_iadd, px_isub, px_imul, px_iand, px_ior, px_ixor, px_ishl, px_ishr, px_iushr, px_ladd, px_lsub, px_lmul, px_land, px_lor, px_lcmp, px_lushr, px_lshl, px_ineg, px_i2l, px_l2i, px_idiv, px_irem, px_ldiv, px_lrem, px_dup0, px_pop0, px_dup2, px_pop2, px_dup2x, px_goto, px_if_eq, px_ic_eq, px_if_ne, px_ic_ne, px_if_lt, px_ic_lt, px_if_ge, px_ic_ge, px_if_gt, px_ic_gt, px_if_le, px_ic_le, px_ifnull, px_ifnonnull, px_lookupswitch, px_tableswitch, px_getfield, px_iaload, px_laload, px_caload, px_aaload, px_iastore, px_lastore, px_arraylength, px_putfield, px_ireturn, px_lreturn, px_areturn, px_return, px_iv0, px_is0, px_iv1, px_is1, px_iv2, px_is2, px_iv3, px_is3, px_iv4, px_is4, px_iv5, px_is5, px_iv6, px_is6, px_max, px_min, px_abs, px_maxJ, px_minJ, px_ii0, px_ii1, px_iio, px_copy, pz_cpk, pz_lk, pz_alk, pz_ask, pz_gfk, pz_lnk, pz_bx, pz_b, pz_z, pz_s1, pz_s2, pz_wt, pz_cmp, List.getElem?_cons_zero, List.getElem?_cons_succ, List.getElem?_nil, List.set_cons_zero, List.set_cons_succ, List.length_cons, List.length_nil, List.nil_append, List.cons_append, Option.toList_some, Option.toList_none, if_true, if_false, ite_true, ite_false, and_true, true_and, and_self, or_self, or_false, false_or, true_or, or_true, and_false, false_and, not_true_eq_false, not_false_eq_true, forall_const, ne_eq, reduceCtorEq, implies_true, false_implies, true_implies, Int.toNat_natCast, Nat.reduceAdd, Nat.reduceSub, Nat.reduceLT, Nat.reduceLeDiff, Nat.reduceEqDiff, Int.reduceLT, Int.reduceLE, Int.reduceToNat, Int.reduceNeg, Int.reduceEq, Int.reduceAdd, Nat.reduceMul, Int.reduceSub, Nat.reduceBEq, Int.reduceMul, Nat.add_zero, Nat.zero_add, Int.cast_ofNat_Int, Int.ofNat_eq_coe, decide_eq_true_eq, Nat.lt_irrefl, Nat.le_refl, List.getElem?_toArray, Option.elim_some, Option.elim_none, j_Mi_use_0, j_Mi_use_9, g_99]
theorem Rf_use {v w : Int} (hR : Rf M) : Rf (pz_up (pz_up M 99 0 v) 99 1 w) := Rf_up (Rf_up hR (by decide +kernel)) (by decide +kernel)
set_option maxRecDepth 100000 in
theorem c_thinkOf (hR : Rf M) (hL : HL M L) (hC : Ct M r q) (hRo : Ro (M q)) : ∃ M', pz_cal (d + 2) 111 [(2, 0), (2, r)] ((pz_SH, ss, 0, 0, dd), M) = some (none, ((pz_SH, ss, 0, 0, dd), M')) ∧ Md M' r q L ∧ Fr [99] M M' := by
  have hr9 := hC.2
  have hqn : ∀ v w, pz_up (pz_up M 99 0 v) 99 1 w q = M q := fun v w => by
    funext j
    rw [up_at, if_neg (by omega), up_at, if_neg (by omega)]
  have hCn : ∀ v w, Ct (pz_up (pz_up M 99 0 v) 99 1 w) r q := fun v w => ⟨by rw [up_at, if_neg (by omega), up_at, if_neg (by omega)]; exact hC.1, hC.2⟩
  have h0 : ∀ w, pz_up (pz_up M 99 0 r) 99 1 w 99 0 = r := fun w => rfl
  have h1 : ∀ w, pz_up (pz_up M 99 0 r) 99 1 w 99 1 = w := fun w => rfl
  have hF : ∀ w, Fr [99] M (pz_up (pz_up M 99 0 r) 99 1 w) := fun w => Fr_t (Fr_up (by decide)) (Fr_up (by decide))
  have s1 := Ct_1 (ss := ss) (dd := dd) hC
  cases L with
  | none =>
    have hL : M 0 5 = -1 := hL
    have e1 := c_lawAt_n (d := d) (ss := ss) (dd := dd) (k := -1) hR rfl
    have e2 := c_Mi_use (d := d) (ss := ss) (dd := dd) (M := M) (r := r) (v := -1) (by omega)
    refine ⟨pz_up (pz_up M 99 0 r) 99 1 (-1), ?_, ⟨Rf_use hR, h0 _, hCn _ _, by rw [hqn]; exact hRo, h1 _⟩, hF _⟩
    simp (maxSteps := 1000000) (disch := omega) only [↓reduceIte, sp_0, sp_s, Option.map_some, Option.map_none, Option.some.injEq, o_le, o_nle, o_lt, o_nlt, o_eq, o_neq, w32_id, up_at, nw_at, nw_s, k_CC_thinkOf, px_iconst, px_bipush, px_sipush, px_ldc, px_ldc_w, px_lconst, px_ldc2_w, px_aconst_null, px_getstatic, px_iload_n, px_iload, px_lload_n, px_lload, px_aload_n, px_aload, px_istore_n, px_istore, px_astore_n, px_astore, px_lstore_n, px_lstore, px_iinc, px_iadd, px_isub, px_imul, px_iand, px_ior, px_ixor, px_ishl, px_ishr, px_iushr, px_ladd, px_lsub, px_lmul, px_land, px_lor, px_lcmp, px_lushr, px_lshl, px_ineg, px_i2l, px_l2i, px_idiv, px_irem, px_ldiv, px_lrem, px_dup0, px_pop0, px_dup2, px_pop2, px_dup2x, px_goto, px_if_eq, px_ic_eq, px_if_ne, px_ic_ne, px_if_lt, px_ic_lt, px_if_ge, px_ic_ge, px_if_gt, px_ic_gt, px_if_le, px_ic_le, px_ifnull, px_ifnonnull, px_lookupswitch, px_tableswitch, px_getfield, px_iaload, px_laload, px_caload, px_aaload, px_iastore, px_lastore, px_arraylength, px_putfield, px_ireturn, px_lreturn, px_areturn, px_return, px_iv0, px_is0, px_iv1, px_is1, px_iv2, px_is2, px_iv3, px_is3, px_iv4, px_is4, px_iv5, px_is5, px_iv6, px_is6, px_max, px_min, px_abs, px_maxJ, px_minJ, px_ii0, px_ii1, px_iio, px_copy, pz_cpk, pz_lk, pz_alk, pz_ask, pz_gfk, pz_lnk, pz_bx, pz_b, pz_z, pz_s1, pz_s2, pz_wt, pz_cmp, List.getElem?_cons_zero, List.getElem?_cons_succ, List.getElem?_nil, List.set_cons_zero, List.set_cons_succ, List.length_cons, List.length_nil, List.nil_append, List.cons_append, Option.toList_some, Option.toList_none, if_true, if_false, ite_true, ite_false, and_true, true_and, and_self, or_self, or_false, false_or, true_or, or_true, and_false, false_and, not_true_eq_false, not_false_eq_true, forall_const, ne_eq, reduceCtorEq, implies_true, false_implies, true_implies, Int.toNat_natCast, Nat.reduceAdd, Nat.reduceSub, Nat.reduceLT, Nat.reduceLeDiff, Nat.reduceEqDiff, Int.reduceLT, Int.reduceLE, Int.reduceToNat, Int.reduceNeg, Int.reduceEq, Int.reduceAdd, Nat.reduceMul, Int.reduceSub, Nat.reduceBEq, Int.reduceMul, Nat.add_zero, Nat.zero_add, Int.cast_ofNat_Int, Int.ofNat_eq_coe, decide_eq_true_eq, Nat.lt_irrefl, Nat.le_refl, List.getElem?_toArray, Option.elim_some, Option.elim_none, j_CC_thinkOf_0, g_0, g_99, rf_0_14 hR, hL, e1, e2]
  | some f =>
    obtain ⟨k, hk, h6, h7⟩ := hL
    have e1 := c_lawAt (d := d) (ss := ss) (dd := dd) (k := k) hR hk
    have e2 := c_Mi_use (d := d) (ss := ss) (dd := dd) (M := M) (r := r) (v := ((135 + 3 * k : Nat) : Int)) (by omega)
    refine ⟨pz_up (pz_up M 99 0 r) 99 1 ((135 + 3 * k : Nat) : Int), ?_, ⟨Rf_use hR, h0 _, hCn _ _, by rw [hqn]; exact hRo, ⟨k, hk, h1 _, LawOk_fr h7 (hF _ _ (by simp; omega)) (hF _ _ (by simp; omega))⟩⟩, hF _⟩
    simp (maxSteps := 1000000) (disch := omega) only [↓reduceIte, sp_0, sp_s, Option.map_some, Option.map_none, Option.some.injEq, o_le, o_nle, o_lt, o_nlt, o_eq, o_neq, w32_id, up_at, nw_at, nw_s, k_CC_thinkOf, px_iconst, px_bipush, px_sipush, px_ldc, px_ldc_w, px_lconst, px_ldc2_w, px_aconst_null, px_getstatic, px_iload_n, px_iload, px_lload_n, px_lload, px_aload_n, px_aload, px_istore_n, px_istore, px_astore_n, px_astore, px_lstore_n, px_lstore, px_iinc, px_iadd, px_isub, px_imul, px_iand, px_ior, px_ixor, px_ishl, px_ishr, px_iushr, px_ladd, px_lsub, px_lmul, px_land, px_lor, px_lcmp, px_lushr, px_lshl, px_ineg, px_i2l, px_l2i, px_idiv, px_irem, px_ldiv, px_lrem, px_dup0, px_pop0, px_dup2, px_pop2, px_dup2x, px_goto, px_if_eq, px_ic_eq, px_if_ne, px_ic_ne, px_if_lt, px_ic_lt, px_if_ge, px_ic_ge, px_if_gt, px_ic_gt, px_if_le, px_ic_le, px_ifnull, px_ifnonnull, px_lookupswitch, px_tableswitch, px_getfield, px_iaload, px_laload, px_caload, px_aaload, px_iastore, px_lastore, px_arraylength, px_putfield, px_ireturn, px_lreturn, px_areturn, px_return, px_iv0, px_is0, px_iv1, px_is1, px_iv2, px_is2, px_iv3, px_is3, px_iv4, px_is4, px_iv5, px_is5, px_iv6, px_is6, px_max, px_min, px_abs, px_maxJ, px_minJ, px_ii0, px_ii1, px_iio, px_copy, pz_cpk, pz_lk, pz_alk, pz_ask, pz_gfk, pz_lnk, pz_bx, pz_b, pz_z, pz_s1, pz_s2, pz_wt, pz_cmp, List.getElem?_cons_zero, List.getElem?_cons_succ, List.getElem?_nil, List.set_cons_zero, List.set_cons_succ, List.length_cons, List.length_nil, List.nil_append, List.cons_append, Option.toList_some, Option.toList_none, if_true, if_false, ite_true, ite_false, and_true, true_and, and_self, or_self, or_false, false_or, true_or, or_true, and_false, false_and, not_true_eq_false, not_false_eq_true, forall_const, ne_eq, reduceCtorEq, implies_true, false_implies, true_implies, Int.toNat_natCast, Nat.reduceAdd, Nat.reduceSub, Nat.reduceLT, Nat.reduceLeDiff, Nat.reduceEqDiff, Int.reduceLT, Int.reduceLE, Int.reduceToNat, Int.reduceNeg, Int.reduceEq, Int.reduceAdd, Nat.reduceMul, Int.reduceSub, Nat.reduceBEq, Int.reduceMul, Nat.add_zero, Nat.zero_add, Int.cast_ofNat_Int, Int.ofNat_eq_coe, decide_eq_true_eq, Nat.lt_irrefl, Nat.le_refl, List.getElem?_toArray, Option.elim_some, Option.elim_none, j_CC_thinkOf_0, g_0, g_99, rf_0_14 hR, h6, e1, e2]
set_option maxRecDepth 100000 in
theorem c_isPair (h : Ev M L R) {c a : Int} : pz_cal (d + 3) 108 [(2, 0), (0, c), (0, a)] ((pz_SH, ss, 0, 0, dd), M) = some (some (0, if CtP R c ∧ AcP R a then 1 else 0), ((pz_SH, ss, 0, 0, dd), M)) := by
  obtain ⟨hR, _, h3, h4, _⟩ := id h
  have e1 := k_hasCat (d := d) (ss := ss) (dd := dd) (c := c) (Ev_C h)
  have e2 := k_hasAccused (d := d) (ss := ss) (dd := dd) (c := a) (Ev_C h)
  rw [h3] at e1 e2
  by_cases a1 : 0 ≤ c ∧ c < R 141
  · rw [if_pos a1] at e1
    by_cases a2 : 0 ≤ a ∧ a < R 142
    · rw [if_pos a2] at e2
      rw [if_pos ⟨a1, a2⟩]
      simp (maxSteps := 1000000) (disch := omega) only [↓reduceIte, sp_0, sp_s, Option.map_some, Option.map_none, Option.some.injEq, o_le, o_nle, o_lt, o_nlt, o_eq, o_neq, w32_id, up_at, nw_at, nw_s, k_CC_isPair, px_iconst, px_bipush, px_sipush, px_ldc, px_ldc_w, px_lconst, px_ldc2_w, px_aconst_null, px_getstatic, px_iload_n, px_iload, px_lload_n, px_lload, px_aload_n, px_aload, px_istore_n, px_istore, px_astore_n, px_astore, px_lstore_n, px_lstore, px_iinc, px_iadd, px_isub, px_imul, px_iand, px_ior, px_ixor, px_ishl, px_ishr, px_iushr, px_ladd, px_lsub, px_lmul, px_land, px_lor, px_lcmp, px_lushr, px_lshl, px_ineg, px_i2l, px_l2i, px_idiv, px_irem, px_ldiv, px_lrem, px_dup0, px_pop0, px_dup2, px_pop2, px_dup2x, px_goto, px_if_eq, px_ic_eq, px_if_ne, px_ic_ne, px_if_lt, px_ic_lt, px_if_ge, px_ic_ge, px_if_gt, px_ic_gt, px_if_le, px_ic_le, px_ifnull, px_ifnonnull, px_lookupswitch, px_tableswitch, px_getfield, px_iaload, px_laload, px_caload, px_aaload, px_iastore, px_lastore, px_arraylength, px_putfield, px_ireturn, px_lreturn, px_areturn, px_return, px_iv0, px_is0, px_iv1, px_is1, px_iv2, px_is2, px_iv3, px_is3, px_iv4, px_is4, px_iv5, px_is5, px_iv6, px_is6, px_max, px_min, px_abs, px_maxJ, px_minJ, px_ii0, px_ii1, px_iio, px_copy, pz_cpk, pz_lk, pz_alk, pz_ask, pz_gfk, pz_lnk, pz_bx, pz_b, pz_z, pz_s1, pz_s2, pz_wt, pz_cmp, List.getElem?_cons_zero, List.getElem?_cons_succ, List.getElem?_nil, List.set_cons_zero, List.set_cons_succ, List.length_cons, List.length_nil, List.nil_append, List.cons_append, Option.toList_some, Option.toList_none, if_true, if_false, ite_true, ite_false, and_true, true_and, and_self, or_self, or_false, false_or, true_or, or_true, and_false, false_and, not_true_eq_false, not_false_eq_true, forall_const, ne_eq, reduceCtorEq, implies_true, false_implies, true_implies, Int.toNat_natCast, Nat.reduceAdd, Nat.reduceSub, Nat.reduceLT, Nat.reduceLeDiff, Nat.reduceEqDiff, Int.reduceLT, Int.reduceLE, Int.reduceToNat, Int.reduceNeg, Int.reduceEq, Int.reduceAdd, Nat.reduceMul, Int.reduceSub, Nat.reduceBEq, Int.reduceMul, Nat.add_zero, Nat.zero_add, Int.cast_ofNat_Int, Int.ofNat_eq_coe, decide_eq_true_eq, Nat.lt_irrefl, Nat.le_refl, List.getElem?_toArray, Option.elim_some, Option.elim_none, j_CC_isPair_0, j_CC_isPair_26, j_CC_isPair_27, g_0, g_9, rf_0_6 hR, e1, e2]
    · rw [if_neg a2] at e2
      rw [if_neg (fun h => a2 h.2)]
      simp (maxSteps := 1000000) (disch := omega) only [↓reduceIte, sp_0, sp_s, Option.map_some, Option.map_none, Option.some.injEq, o_le, o_nle, o_lt, o_nlt, o_eq, o_neq, w32_id, up_at, nw_at, nw_s, k_CC_isPair, px_iconst, px_bipush, px_sipush, px_ldc, px_ldc_w, px_lconst, px_ldc2_w, px_aconst_null, px_getstatic, px_iload_n, px_iload, px_lload_n, px_lload, px_aload_n, px_aload, px_istore_n, px_istore, px_astore_n, px_astore, px_lstore_n, px_lstore, px_iinc, px_iadd, px_isub, px_imul, px_iand, px_ior, px_ixor, px_ishl, px_ishr, px_iushr, px_ladd, px_lsub, px_lmul, px_land, px_lor, px_lcmp, px_lushr, px_lshl, px_ineg, px_i2l, px_l2i, px_idiv, px_irem, px_ldiv, px_lrem, px_dup0, px_pop0, px_dup2, px_pop2, px_dup2x, px_goto, px_if_eq, px_ic_eq, px_if_ne, px_ic_ne, px_if_lt, px_ic_lt, px_if_ge, px_ic_ge, px_if_gt, px_ic_gt, px_if_le, px_ic_le, px_ifnull, px_ifnonnull, px_lookupswitch, px_tableswitch, px_getfield, px_iaload, px_laload, px_caload, px_aaload, px_iastore, px_lastore, px_arraylength, px_putfield, px_ireturn, px_lreturn, px_areturn, px_return, px_iv0, px_is0, px_iv1, px_is1, px_iv2, px_is2, px_iv3, px_is3, px_iv4, px_is4, px_iv5, px_is5, px_iv6, px_is6, px_max, px_min, px_abs, px_maxJ, px_minJ, px_ii0, px_ii1, px_iio, px_copy, pz_cpk, pz_lk, pz_alk, pz_ask, pz_gfk, pz_lnk, pz_bx, pz_b, pz_z, pz_s1, pz_s2, pz_wt, pz_cmp, List.getElem?_cons_zero, List.getElem?_cons_succ, List.getElem?_nil, List.set_cons_zero, List.set_cons_succ, List.length_cons, List.length_nil, List.nil_append, List.cons_append, Option.toList_some, Option.toList_none, if_true, if_false, ite_true, ite_false, and_true, true_and, and_self, or_self, or_false, false_or, true_or, or_true, and_false, false_and, not_true_eq_false, not_false_eq_true, forall_const, ne_eq, reduceCtorEq, implies_true, false_implies, true_implies, Int.toNat_natCast, Nat.reduceAdd, Nat.reduceSub, Nat.reduceLT, Nat.reduceLeDiff, Nat.reduceEqDiff, Int.reduceLT, Int.reduceLE, Int.reduceToNat, Int.reduceNeg, Int.reduceEq, Int.reduceAdd, Nat.reduceMul, Int.reduceSub, Nat.reduceBEq, Int.reduceMul, Nat.add_zero, Nat.zero_add, Int.cast_ofNat_Int, Int.ofNat_eq_coe, decide_eq_true_eq, Nat.lt_irrefl, Nat.le_refl, List.getElem?_toArray, Option.elim_some, Option.elim_none, j_CC_isPair_0, j_CC_isPair_26, j_CC_isPair_27, g_0, g_9, rf_0_6 hR, e1, e2]
  · rw [if_neg a1] at e1
    rw [if_neg (fun h => a1 h.1)]
    simp (maxSteps := 1000000) (disch := omega) only [↓reduceIte, sp_0, sp_s, Option.map_some, Option.map_none, Option.some.injEq, o_le, o_nle, o_lt, o_nlt, o_eq, o_neq, w32_id, up_at, nw_at, nw_s, k_CC_isPair, px_iconst, px_bipush, px_sipush, px_ldc, px_ldc_w, px_lconst, px_ldc2_w, px_aconst_null, px_getstatic, px_iload_n, px_iload, px_lload_n, px_lload, px_aload_n, px_aload, px_istore_n, px_istore, px_astore_n, px_astore, px_lstore_n, px_lstore, px_iinc, px_iadd, px_isub, px_imul, px_iand, px_ior, px_ixor, px_ishl, px_ishr, px_iushr, px_ladd, px_lsub, px_lmul, px_land, px_lor, px_lcmp, px_lushr, px_lshl, px_ineg, px_i2l, px_l2i, px_idiv, px_irem, px_ldiv, px_lrem, px_dup0, px_pop0, px_dup2, px_pop2, px_dup2x, px_goto, px_if_eq, px_ic_eq, px_if_ne, px_ic_ne, px_if_lt, px_ic_lt, px_if_ge, px_ic_ge, px_if_gt, px_ic_gt, px_if_le, px_ic_le, px_ifnull, px_ifnonnull, px_lookupswitch, px_tableswitch, px_getfield, px_iaload, px_laload, px_caload, px_aaload, px_iastore, px_lastore, px_arraylength, px_putfield, px_ireturn, px_lreturn, px_areturn, px_return, px_iv0, px_is0, px_iv1, px_is1, px_iv2, px_is2, px_iv3, px_is3, px_iv4, px_is4, px_iv5, px_is5, px_iv6, px_is6, px_max, px_min, px_abs, px_maxJ, px_minJ, px_ii0, px_ii1, px_iio, px_copy, pz_cpk, pz_lk, pz_alk, pz_ask, pz_gfk, pz_lnk, pz_bx, pz_b, pz_z, pz_s1, pz_s2, pz_wt, pz_cmp, List.getElem?_cons_zero, List.getElem?_cons_succ, List.getElem?_nil, List.set_cons_zero, List.set_cons_succ, List.length_cons, List.length_nil, List.nil_append, List.cons_append, Option.toList_some, Option.toList_none, if_true, if_false, ite_true, ite_false, and_true, true_and, and_self, or_self, or_false, false_or, true_or, or_true, and_false, false_and, not_true_eq_false, not_false_eq_true, forall_const, ne_eq, reduceCtorEq, implies_true, false_implies, true_implies, Int.toNat_natCast, Nat.reduceAdd, Nat.reduceSub, Nat.reduceLT, Nat.reduceLeDiff, Nat.reduceEqDiff, Int.reduceLT, Int.reduceLE, Int.reduceToNat, Int.reduceNeg, Int.reduceEq, Int.reduceAdd, Nat.reduceMul, Int.reduceSub, Nat.reduceBEq, Int.reduceMul, Nat.add_zero, Nat.zero_add, Int.cast_ofNat_Int, Int.ofNat_eq_coe, decide_eq_true_eq, Nat.lt_irrefl, Nat.le_refl, List.getElem?_toArray, Option.elim_some, Option.elim_none, j_CC_isPair_0, j_CC_isPair_26, j_CC_isPair_27, g_0, g_9, rf_0_6 hR, e1]
set_option maxRecDepth 100000 in
theorem c_serving (h : Ev M L R) : pz_cal (d + 2) 14 [(2, 9)] ((pz_SH, ss, 0, 0, dd), M) = some (some (0, (sv R : Int)), ((pz_SH, ss, 0, 0, dd), M)) := by
  obtain ⟨_, _, h3, h4, _⟩ := id h
  have h1 := h4.1 141 (by decide)
  have h2 := h4.2.2.2.2.1
  have e := k_serving (d := d) (ss := ss) (dd := dd) (n := (R 141).toNat) (Ev_C h) (by rw [h3]; omega) (by omega)
  rw [h3, svn_srv] at e
  exact e
set_option maxRecDepth 100000 in
theorem c_isSet (h : Ev M L R) {s : Int} (hs : I32 s) : pz_cal (d + 3) 116 [(2, 0), (0, s)] ((pz_SH, ss, 0, 0, dd), M) = some (some (0, if StP R s then 1 else 0), ((pz_SH, ss, 0, 0, dd), M)) := by
  obtain ⟨hR, _, h3, h4, _⟩ := id h
  have e1 := c_serving (d := d) (ss := ss) (dd := dd) h
  have hv := sv_lt h4
  have h32 := hs.2
  by_cases h0 : 0 < s
  · have hp := pn_sub0 (t := s.toNat) (s := sv R) (by omega)
    rw [show ((s.toNat : Nat) : Int) = s by omega] at hp
    by_cases h1 : s.toNat &&& sv R = s.toNat
    · rw [if_pos ⟨h0, h1⟩]
      have hp2 := hp.mpr h1
      simp (maxSteps := 1000000) (disch := omega) only [↓reduceIte, sp_0, sp_s, Option.map_some, Option.map_none, Option.some.injEq, o_le, o_nle, o_lt, o_nlt, o_eq, o_neq, w32_id, up_at, nw_at, nw_s, k_CC_isSet, px_iconst, px_bipush, px_sipush, px_ldc, px_ldc_w, px_lconst, px_ldc2_w, px_aconst_null, px_getstatic, px_iload_n, px_iload, px_lload_n, px_lload, px_aload_n, px_aload, px_istore_n, px_istore, px_astore_n, px_astore, px_lstore_n, px_lstore, px_iinc, px_iadd, px_isub, px_imul, px_iand, px_ior, px_ixor, px_ishl, px_ishr, px_iushr, px_ladd, px_lsub, px_lmul, px_land, px_lor, px_lcmp, px_lushr, px_lshl, px_ineg, px_i2l, px_l2i, px_idiv, px_irem, px_ldiv, px_lrem, px_dup0, px_pop0, px_dup2, px_pop2, px_dup2x, px_goto, px_if_eq, px_ic_eq, px_if_ne, px_ic_ne, px_if_lt, px_ic_lt, px_if_ge, px_ic_ge, px_if_gt, px_ic_gt, px_if_le, px_ic_le, px_ifnull, px_ifnonnull, px_lookupswitch, px_tableswitch, px_getfield, px_iaload, px_laload, px_caload, px_aaload, px_iastore, px_lastore, px_arraylength, px_putfield, px_ireturn, px_lreturn, px_areturn, px_return, px_iv0, px_is0, px_iv1, px_is1, px_iv2, px_is2, px_iv3, px_is3, px_iv4, px_is4, px_iv5, px_is5, px_iv6, px_is6, px_max, px_min, px_abs, px_maxJ, px_minJ, px_ii0, px_ii1, px_iio, px_copy, pz_cpk, pz_lk, pz_alk, pz_ask, pz_gfk, pz_lnk, pz_bx, pz_b, pz_z, pz_s1, pz_s2, pz_wt, pz_cmp, List.getElem?_cons_zero, List.getElem?_cons_succ, List.getElem?_nil, List.set_cons_zero, List.set_cons_succ, List.length_cons, List.length_nil, List.nil_append, List.cons_append, Option.toList_some, Option.toList_none, if_true, if_false, ite_true, ite_false, and_true, true_and, and_self, or_self, or_false, false_or, true_or, or_true, and_false, false_and, not_true_eq_false, not_false_eq_true, forall_const, ne_eq, reduceCtorEq, implies_true, false_implies, true_implies, Int.toNat_natCast, Nat.reduceAdd, Nat.reduceSub, Nat.reduceLT, Nat.reduceLeDiff, Nat.reduceEqDiff, Int.reduceLT, Int.reduceLE, Int.reduceToNat, Int.reduceNeg, Int.reduceEq, Int.reduceAdd, Nat.reduceMul, Int.reduceSub, Nat.reduceBEq, Int.reduceMul, Nat.add_zero, Nat.zero_add, Int.cast_ofNat_Int, Int.ofNat_eq_coe, decide_eq_true_eq, Nat.lt_irrefl, Nat.le_refl, List.getElem?_toArray, Option.elim_some, Option.elim_none, j_CC_isSet_0, j_CC_isSet_22, j_CC_isSet_23, g_0, g_9, rf_0_6 hR, e1, hp2]
    · rw [if_neg (fun h => h1 h.2)]
      have hp2 : ¬ pz_and s (pz_xor (sv R : Int) (-1)) = 0 := fun h => h1 (hp.mp h)
      simp (maxSteps := 1000000) (disch := omega) only [↓reduceIte, sp_0, sp_s, Option.map_some, Option.map_none, Option.some.injEq, o_le, o_nle, o_lt, o_nlt, o_eq, o_neq, w32_id, up_at, nw_at, nw_s, k_CC_isSet, px_iconst, px_bipush, px_sipush, px_ldc, px_ldc_w, px_lconst, px_ldc2_w, px_aconst_null, px_getstatic, px_iload_n, px_iload, px_lload_n, px_lload, px_aload_n, px_aload, px_istore_n, px_istore, px_astore_n, px_astore, px_lstore_n, px_lstore, px_iinc, px_iadd, px_isub, px_imul, px_iand, px_ior, px_ixor, px_ishl, px_ishr, px_iushr, px_ladd, px_lsub, px_lmul, px_land, px_lor, px_lcmp, px_lushr, px_lshl, px_ineg, px_i2l, px_l2i, px_idiv, px_irem, px_ldiv, px_lrem, px_dup0, px_pop0, px_dup2, px_pop2, px_dup2x, px_goto, px_if_eq, px_ic_eq, px_if_ne, px_ic_ne, px_if_lt, px_ic_lt, px_if_ge, px_ic_ge, px_if_gt, px_ic_gt, px_if_le, px_ic_le, px_ifnull, px_ifnonnull, px_lookupswitch, px_tableswitch, px_getfield, px_iaload, px_laload, px_caload, px_aaload, px_iastore, px_lastore, px_arraylength, px_putfield, px_ireturn, px_lreturn, px_areturn, px_return, px_iv0, px_is0, px_iv1, px_is1, px_iv2, px_is2, px_iv3, px_is3, px_iv4, px_is4, px_iv5, px_is5, px_iv6, px_is6, px_max, px_min, px_abs, px_maxJ, px_minJ, px_ii0, px_ii1, px_iio, px_copy, pz_cpk, pz_lk, pz_alk, pz_ask, pz_gfk, pz_lnk, pz_bx, pz_b, pz_z, pz_s1, pz_s2, pz_wt, pz_cmp, List.getElem?_cons_zero, List.getElem?_cons_succ, List.getElem?_nil, List.set_cons_zero, List.set_cons_succ, List.length_cons, List.length_nil, List.nil_append, List.cons_append, Option.toList_some, Option.toList_none, if_true, if_false, ite_true, ite_false, and_true, true_and, and_self, or_self, or_false, false_or, true_or, or_true, and_false, false_and, not_true_eq_false, not_false_eq_true, forall_const, ne_eq, reduceCtorEq, implies_true, false_implies, true_implies, Int.toNat_natCast, Nat.reduceAdd, Nat.reduceSub, Nat.reduceLT, Nat.reduceLeDiff, Nat.reduceEqDiff, Int.reduceLT, Int.reduceLE, Int.reduceToNat, Int.reduceNeg, Int.reduceEq, Int.reduceAdd, Nat.reduceMul, Int.reduceSub, Nat.reduceBEq, Int.reduceMul, Nat.add_zero, Nat.zero_add, Int.cast_ofNat_Int, Int.ofNat_eq_coe, decide_eq_true_eq, Nat.lt_irrefl, Nat.le_refl, List.getElem?_toArray, Option.elim_some, Option.elim_none, j_CC_isSet_0, j_CC_isSet_22, j_CC_isSet_23, g_0, g_9, rf_0_6 hR, e1, hp2]
  · rw [if_neg (fun h => h0 h.1)]
    simp (maxSteps := 1000000) (disch := omega) only [↓reduceIte, sp_0, sp_s, Option.map_some, Option.map_none, Option.some.injEq, o_le, o_nle, o_lt, o_nlt, o_eq, o_neq, w32_id, up_at, nw_at, nw_s, k_CC_isSet, px_iconst, px_bipush, px_sipush, px_ldc, px_ldc_w, px_lconst, px_ldc2_w, px_aconst_null, px_getstatic, px_iload_n, px_iload, px_lload_n, px_lload, px_aload_n, px_aload, px_istore_n, px_istore, px_astore_n, px_astore, px_lstore_n, px_lstore, px_iinc, px_iadd, px_isub, px_imul, px_iand, px_ior, px_ixor, px_ishl, px_ishr, px_iushr, px_ladd, px_lsub, px_lmul, px_land, px_lor, px_lcmp, px_lushr, px_lshl, px_ineg, px_i2l, px_l2i, px_idiv, px_irem, px_ldiv, px_lrem, px_dup0, px_pop0, px_dup2, px_pop2, px_dup2x, px_goto, px_if_eq, px_ic_eq, px_if_ne, px_ic_ne, px_if_lt, px_ic_lt, px_if_ge, px_ic_ge, px_if_gt, px_ic_gt, px_if_le, px_ic_le, px_ifnull, px_ifnonnull, px_lookupswitch, px_tableswitch, px_getfield, px_iaload, px_laload, px_caload, px_aaload, px_iastore, px_lastore, px_arraylength, px_putfield, px_ireturn, px_lreturn, px_areturn, px_return, px_iv0, px_is0, px_iv1, px_is1, px_iv2, px_is2, px_iv3, px_is3, px_iv4, px_is4, px_iv5, px_is5, px_iv6, px_is6, px_max, px_min, px_abs, px_maxJ, px_minJ, px_ii0, px_ii1, px_iio, px_copy, pz_cpk, pz_lk, pz_alk, pz_ask, pz_gfk, pz_lnk, pz_bx, pz_b, pz_z, pz_s1, pz_s2, pz_wt, pz_cmp, List.getElem?_cons_zero, List.getElem?_cons_succ, List.getElem?_nil, List.set_cons_zero, List.set_cons_succ, List.length_cons, List.length_nil, List.nil_append, List.cons_append, Option.toList_some, Option.toList_none, if_true, if_false, ite_true, ite_false, and_true, true_and, and_self, or_self, or_false, false_or, true_or, or_true, and_false, false_and, not_true_eq_false, not_false_eq_true, forall_const, ne_eq, reduceCtorEq, implies_true, false_implies, true_implies, Int.toNat_natCast, Nat.reduceAdd, Nat.reduceSub, Nat.reduceLT, Nat.reduceLeDiff, Nat.reduceEqDiff, Int.reduceLT, Int.reduceLE, Int.reduceToNat, Int.reduceNeg, Int.reduceEq, Int.reduceAdd, Nat.reduceMul, Int.reduceSub, Nat.reduceBEq, Int.reduceMul, Nat.add_zero, Nat.zero_add, Int.cast_ofNat_Int, Int.ofNat_eq_coe, decide_eq_true_eq, Nat.lt_irrefl, Nat.le_refl, List.getElem?_toArray, Option.elim_some, Option.elim_none, j_CC_isSet_0, j_CC_isSet_22, j_CC_isSet_23]
set_option maxRecDepth 100000 in
theorem c_isCase (h : Ev M L R) {s a : Int} (hs : I32 s) : pz_cal (d + 4) 115 [(2, 0), (0, s), (0, a)] ((pz_SH, ss, 0, 0, dd), M) = some (some (0, if StP R s ∧ AcP R a then 1 else 0), ((pz_SH, ss, 0, 0, dd), M)) := by
  obtain ⟨hR, _, h3, h4, _⟩ := id h
  have e1 := c_isSet (d := d) (ss := ss) (dd := dd) h hs
  have e2 := k_hasAccused (d := d + 1) (ss := ss) (dd := dd) (c := a) (Ev_C h)
  rw [h3] at e2
  by_cases a1 : StP R s
  · rw [if_pos a1] at e1
    by_cases a2 : 0 ≤ a ∧ a < R 142
    · rw [if_pos a2] at e2
      rw [if_pos ⟨a1, a2⟩]
      simp (maxSteps := 1000000) (disch := omega) only [↓reduceIte, sp_0, sp_s, Option.map_some, Option.map_none, Option.some.injEq, o_le, o_nle, o_lt, o_nlt, o_eq, o_neq, w32_id, up_at, nw_at, nw_s, k_CC_isCase, px_iconst, px_bipush, px_sipush, px_ldc, px_ldc_w, px_lconst, px_ldc2_w, px_aconst_null, px_getstatic, px_iload_n, px_iload, px_lload_n, px_lload, px_aload_n, px_aload, px_istore_n, px_istore, px_astore_n, px_astore, px_lstore_n, px_lstore, px_iinc, px_iadd, px_isub, px_imul, px_iand, px_ior, px_ixor, px_ishl, px_ishr, px_iushr, px_ladd, px_lsub, px_lmul, px_land, px_lor, px_lcmp, px_lushr, px_lshl, px_ineg, px_i2l, px_l2i, px_idiv, px_irem, px_ldiv, px_lrem, px_dup0, px_pop0, px_dup2, px_pop2, px_dup2x, px_goto, px_if_eq, px_ic_eq, px_if_ne, px_ic_ne, px_if_lt, px_ic_lt, px_if_ge, px_ic_ge, px_if_gt, px_ic_gt, px_if_le, px_ic_le, px_ifnull, px_ifnonnull, px_lookupswitch, px_tableswitch, px_getfield, px_iaload, px_laload, px_caload, px_aaload, px_iastore, px_lastore, px_arraylength, px_putfield, px_ireturn, px_lreturn, px_areturn, px_return, px_iv0, px_is0, px_iv1, px_is1, px_iv2, px_is2, px_iv3, px_is3, px_iv4, px_is4, px_iv5, px_is5, px_iv6, px_is6, px_max, px_min, px_abs, px_maxJ, px_minJ, px_ii0, px_ii1, px_iio, px_copy, pz_cpk, pz_lk, pz_alk, pz_ask, pz_gfk, pz_lnk, pz_bx, pz_b, pz_z, pz_s1, pz_s2, pz_wt, pz_cmp, List.getElem?_cons_zero, List.getElem?_cons_succ, List.getElem?_nil, List.set_cons_zero, List.set_cons_succ, List.length_cons, List.length_nil, List.nil_append, List.cons_append, Option.toList_some, Option.toList_none, if_true, if_false, ite_true, ite_false, and_true, true_and, and_self, or_self, or_false, false_or, true_or, or_true, and_false, false_and, not_true_eq_false, not_false_eq_true, forall_const, ne_eq, reduceCtorEq, implies_true, false_implies, true_implies, Int.toNat_natCast, Nat.reduceAdd, Nat.reduceSub, Nat.reduceLT, Nat.reduceLeDiff, Nat.reduceEqDiff, Int.reduceLT, Int.reduceLE, Int.reduceToNat, Int.reduceNeg, Int.reduceEq, Int.reduceAdd, Nat.reduceMul, Int.reduceSub, Nat.reduceBEq, Int.reduceMul, Nat.add_zero, Nat.zero_add, Int.cast_ofNat_Int, Int.ofNat_eq_coe, decide_eq_true_eq, Nat.lt_irrefl, Nat.le_refl, List.getElem?_toArray, Option.elim_some, Option.elim_none, j_CC_isCase_0, j_CC_isCase_23, j_CC_isCase_24, g_0, g_9, rf_0_6 hR, e1, e2]
    · rw [if_neg a2] at e2
      rw [if_neg (fun h => a2 h.2)]
      simp (maxSteps := 1000000) (disch := omega) only [↓reduceIte, sp_0, sp_s, Option.map_some, Option.map_none, Option.some.injEq, o_le, o_nle, o_lt, o_nlt, o_eq, o_neq, w32_id, up_at, nw_at, nw_s, k_CC_isCase, px_iconst, px_bipush, px_sipush, px_ldc, px_ldc_w, px_lconst, px_ldc2_w, px_aconst_null, px_getstatic, px_iload_n, px_iload, px_lload_n, px_lload, px_aload_n, px_aload, px_istore_n, px_istore, px_astore_n, px_astore, px_lstore_n, px_lstore, px_iinc, px_iadd, px_isub, px_imul, px_iand, px_ior, px_ixor, px_ishl, px_ishr, px_iushr, px_ladd, px_lsub, px_lmul, px_land, px_lor, px_lcmp, px_lushr, px_lshl, px_ineg, px_i2l, px_l2i, px_idiv, px_irem, px_ldiv, px_lrem, px_dup0, px_pop0, px_dup2, px_pop2, px_dup2x, px_goto, px_if_eq, px_ic_eq, px_if_ne, px_ic_ne, px_if_lt, px_ic_lt, px_if_ge, px_ic_ge, px_if_gt, px_ic_gt, px_if_le, px_ic_le, px_ifnull, px_ifnonnull, px_lookupswitch, px_tableswitch, px_getfield, px_iaload, px_laload, px_caload, px_aaload, px_iastore, px_lastore, px_arraylength, px_putfield, px_ireturn, px_lreturn, px_areturn, px_return, px_iv0, px_is0, px_iv1, px_is1, px_iv2, px_is2, px_iv3, px_is3, px_iv4, px_is4, px_iv5, px_is5, px_iv6, px_is6, px_max, px_min, px_abs, px_maxJ, px_minJ, px_ii0, px_ii1, px_iio, px_copy, pz_cpk, pz_lk, pz_alk, pz_ask, pz_gfk, pz_lnk, pz_bx, pz_b, pz_z, pz_s1, pz_s2, pz_wt, pz_cmp, List.getElem?_cons_zero, List.getElem?_cons_succ, List.getElem?_nil, List.set_cons_zero, List.set_cons_succ, List.length_cons, List.length_nil, List.nil_append, List.cons_append, Option.toList_some, Option.toList_none, if_true, if_false, ite_true, ite_false, and_true, true_and, and_self, or_self, or_false, false_or, true_or, or_true, and_false, false_and, not_true_eq_false, not_false_eq_true, forall_const, ne_eq, reduceCtorEq, implies_true, false_implies, true_implies, Int.toNat_natCast, Nat.reduceAdd, Nat.reduceSub, Nat.reduceLT, Nat.reduceLeDiff, Nat.reduceEqDiff, Int.reduceLT, Int.reduceLE, Int.reduceToNat, Int.reduceNeg, Int.reduceEq, Int.reduceAdd, Nat.reduceMul, Int.reduceSub, Nat.reduceBEq, Int.reduceMul, Nat.add_zero, Nat.zero_add, Int.cast_ofNat_Int, Int.ofNat_eq_coe, decide_eq_true_eq, Nat.lt_irrefl, Nat.le_refl, List.getElem?_toArray, Option.elim_some, Option.elim_none, j_CC_isCase_0, j_CC_isCase_23, j_CC_isCase_24, g_0, g_9, rf_0_6 hR, e1, e2]
  · rw [if_neg a1] at e1
    rw [if_neg (fun h => a1 h.1)]
    simp (maxSteps := 1000000) (disch := omega) only [↓reduceIte, sp_0, sp_s, Option.map_some, Option.map_none, Option.some.injEq, o_le, o_nle, o_lt, o_nlt, o_eq, o_neq, w32_id, up_at, nw_at, nw_s, k_CC_isCase, px_iconst, px_bipush, px_sipush, px_ldc, px_ldc_w, px_lconst, px_ldc2_w, px_aconst_null, px_getstatic, px_iload_n, px_iload, px_lload_n, px_lload, px_aload_n, px_aload, px_istore_n, px_istore, px_astore_n, px_astore, px_lstore_n, px_lstore, px_iinc, px_iadd, px_isub, px_imul, px_iand, px_ior, px_ixor, px_ishl, px_ishr, px_iushr, px_ladd, px_lsub, px_lmul, px_land, px_lor, px_lcmp, px_lushr, px_lshl, px_ineg, px_i2l, px_l2i, px_idiv, px_irem, px_ldiv, px_lrem, px_dup0, px_pop0, px_dup2, px_pop2, px_dup2x, px_goto, px_if_eq, px_ic_eq, px_if_ne, px_ic_ne, px_if_lt, px_ic_lt, px_if_ge, px_ic_ge, px_if_gt, px_ic_gt, px_if_le, px_ic_le, px_ifnull, px_ifnonnull, px_lookupswitch, px_tableswitch, px_getfield, px_iaload, px_laload, px_caload, px_aaload, px_iastore, px_lastore, px_arraylength, px_putfield, px_ireturn, px_lreturn, px_areturn, px_return, px_iv0, px_is0, px_iv1, px_is1, px_iv2, px_is2, px_iv3, px_is3, px_iv4, px_is4, px_iv5, px_is5, px_iv6, px_is6, px_max, px_min, px_abs, px_maxJ, px_minJ, px_ii0, px_ii1, px_iio, px_copy, pz_cpk, pz_lk, pz_alk, pz_ask, pz_gfk, pz_lnk, pz_bx, pz_b, pz_z, pz_s1, pz_s2, pz_wt, pz_cmp, List.getElem?_cons_zero, List.getElem?_cons_succ, List.getElem?_nil, List.set_cons_zero, List.set_cons_succ, List.length_cons, List.length_nil, List.nil_append, List.cons_append, Option.toList_some, Option.toList_none, if_true, if_false, ite_true, ite_false, and_true, true_and, and_self, or_self, or_false, false_or, true_or, or_true, and_false, false_and, not_true_eq_false, not_false_eq_true, forall_const, ne_eq, reduceCtorEq, implies_true, false_implies, true_implies, Int.toNat_natCast, Nat.reduceAdd, Nat.reduceSub, Nat.reduceLT, Nat.reduceLeDiff, Nat.reduceEqDiff, Int.reduceLT, Int.reduceLE, Int.reduceToNat, Int.reduceNeg, Int.reduceEq, Int.reduceAdd, Nat.reduceMul, Int.reduceSub, Nat.reduceBEq, Int.reduceMul, Nat.add_zero, Nat.zero_add, Int.cast_ofNat_Int, Int.ofNat_eq_coe, decide_eq_true_eq, Nat.lt_irrefl, Nat.le_refl, List.getElem?_toArray, Option.elim_some, Option.elim_none, j_CC_isCase_0, j_CC_isCase_23, j_CC_isCase_24, g_0, e1]
set_option maxRecDepth 100000 in
theorem c_isDeed {e : Int} : pz_cal (d + 1) 109 [(0, e)] ((pz_SH, ss, 0, 0, dd), M) = some (some (0, if DeP e then 1 else 0), ((pz_SH, ss, 0, 0, dd), M)) := c_CC_isDeed rfl rfl
set_option maxRecDepth 100000 in
theorem c_isBit {e : Int} : pz_cal (d + 1) 110 [(0, e)] ((pz_SH, ss, 0, 0, dd), M) = some (some (0, if BiP e then 1 else 0), ((pz_SH, ss, 0, 0, dd), M)) := c_CC_isBit rfl rfl
def bcx (a : Int) : Int :=
  let x1 := pz_w32 (a - pz_and (pz_ushr a 1) 1431655765)
  let x2 := pz_w32 (pz_and x1 858993459 + pz_and (pz_ushr x1 2) 858993459)
  let x3 := pz_and (pz_w32 (x2 + pz_ushr x2 4)) 252645135
  let x4 := pz_w32 (x3 + pz_ushr x3 8)
  let x5 := pz_w32 (x4 + pz_ushr x4 16)
  pz_and x5 63
theorem bcx_cb : ∀ s : Nat, s < 256 → bcx (s : Int) = (cb s 8 : Int) := by decide +kernel
set_option maxRecDepth 100000 in
theorem c_bitCount {s : Nat} (hs : s < 256) : pz_cal (d + 1) 295 [(0, (s : Int))] ((pz_SH, ss, 0, 0, dd), M) = some (some (0, (cb s 8 : Int)), ((pz_SH, ss, 0, 0, dd), M)) := by
  have e := bcx_cb s hs
  unfold bcx at e
  dsimp only at e
  rw [← e]
  simp only [↓reduceIte, sp_0, sp_s, Option.map_some, Option.map_none, Option.some.injEq, k_Jd_bitCount, px_iconst, px_bipush, px_sipush, px_ldc, px_ldc_w, px_lconst, px_ldc2_w, px_aconst_null, px_getstatic, px_iload_n, px_iload, px_lload_n, px_lload, px_aload_n, px_aload, px_istore_n, px_istore, px_astore_n, px_astore, px_lstore_n, px_lstore, px_iinc, px_iadd, px_isub, px_imul, px_iand, px_ior, px_ixor, px_ishl, px_ishr, px_iushr, px_ladd, px_lsub, px_lmul, px_land, px_lor, px_lcmp, px_lushr, px_lshl, px_ineg, px_i2l, px_l2i, px_idiv, px_irem, px_ldiv, px_lrem, px_dup0, px_pop0, px_dup2, px_pop2, px_dup2x, px_goto, px_if_eq, px_ic_eq, px_if_ne, px_ic_ne, px_if_lt, px_ic_lt, px_if_ge, px_ic_ge, px_if_gt, px_ic_gt, px_if_le, px_ic_le, px_ifnull, px_ifnonnull, px_lookupswitch, px_tableswitch, px_getfield, px_iaload, px_laload, px_caload, px_aaload, px_iastore, px_lastore, px_arraylength, px_putfield, px_ireturn, px_lreturn, px_areturn, px_return, px_iv0, px_is0, px_iv1, px_is1, px_iv2, px_is2, px_iv3, px_is3, px_iv4, px_is4, px_iv5, px_is5, px_iv6, px_is6, px_max, px_min, px_abs, px_maxJ, px_minJ, px_ii0, px_ii1, px_iio, px_copy, pz_cpk, pz_lk, pz_alk, pz_ask, pz_gfk, pz_lnk, pz_bx, pz_b, pz_z, pz_s1, pz_s2, pz_wt, pz_cmp, List.getElem?_cons_zero, List.getElem?_cons_succ, List.getElem?_nil, List.set_cons_zero, List.set_cons_succ, List.length_cons, List.length_nil, List.nil_append, List.cons_append, Option.toList_some, Option.toList_none, if_true, if_false, ite_true, ite_false, and_true, true_and, and_self, or_self, or_false, false_or, true_or, or_true, and_false, false_and, not_true_eq_false, not_false_eq_true, forall_const, ne_eq, reduceCtorEq, implies_true, false_implies, true_implies, Int.toNat_natCast, Nat.reduceAdd, Nat.reduceSub, Nat.reduceLT, Nat.reduceLeDiff, Nat.reduceEqDiff, Int.reduceLT, Int.reduceLE, Int.reduceToNat, Int.reduceNeg, Int.reduceEq, Int.reduceAdd, Nat.reduceMul, Int.reduceSub, Nat.reduceBEq, Int.reduceMul, Nat.add_zero, Nat.zero_add, Int.cast_ofNat_Int, Int.ofNat_eq_coe, decide_eq_true_eq, Nat.lt_irrefl, Nat.le_refl, List.getElem?_toArray, Option.elim_some, Option.elim_none, j_Jd_bitCount_0]
end P28
