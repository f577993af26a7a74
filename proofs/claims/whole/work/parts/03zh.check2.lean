/-! THE CHECK IS SOUND -/
def pz_rk : Option FieldType → Nat
  | some .int => 0
  | some .boolean => 1
  | some .long => 2
  | some (.object _) => 3
  | some (.array _) => 3
  | none => 4
  | _ => 5
theorem pz_rk0 {rt : Option FieldType} (h : pz_rk rt = 0) : rt = some .int := by
  unfold pz_rk at h
  split at h <;> first | rfl | (exact absurd h (by decide))
theorem pz_rk1 {rt : Option FieldType} (h : pz_rk rt = 1) : rt = some .boolean := by
  unfold pz_rk at h
  split at h <;> first | rfl | (exact absurd h (by decide))
theorem pz_rk2 {rt : Option FieldType} (h : pz_rk rt = 2) : rt = some .long := by
  unfold pz_rk at h
  split at h <;> first | rfl | (exact absurd h (by decide))
theorem pz_rk3 {rt : Option FieldType} (h : pz_rk rt = 3) : (∃ n, rt = some (.object n)) ∨ ∃ t, rt = some (.array t) := by
  unfold pz_rk at h
  split at h <;> first | (exact Or.inl ⟨_, rfl⟩) | (exact Or.inr ⟨_, rfl⟩) | (exact absurd h (by decide))
theorem pz_rk4 {rt : Option FieldType} (h : pz_rk rt = 4) : rt = none := by
  unfold pz_rk at h
  split at h <;> first | rfl | (exact absurd h (by decide))
theorem pz_zz (z : Int) : ((z.toNat : Nat) : Int) - (((-z).toNat : Nat) : Int) = z := by omega
theorem pz_ckE_ok {mi : Nat → Option pz_I} {on : Nat → String} {gf pf pfi ki kl gs nw an iv is ii mt : pz_Tb} {oc oo mu : List Nat} {ow : Nat} {ini : Bool} {cc : ByteArray} {pc : Nat} {en : pz_E} {own mnm : String} {rt : Option FieldType} (T : pz_tok mi on gf pf pfi ki kl gs nw an iv is ii mt oc oo mu) (hk : pz_ckE gf pf pfi ki kl gs nw an iv is ii mt oc oo mu ow ini (pz_rk rt) cc pc en = true) (hon : on ow = own) (hin : ini = true → mnm = "<init>") (SP : Nat → Prop) : pz_okE mi SP own mnm cc rt pc en := by
  subst hon
  obtain ⟨i, n, a, b, c, d, z⟩ := en
  obtain ⟨t1, t2, t3, t4, t5, t6, t7, t8, t9, t10, t11, tm, t12, t13, t14, t15, t16, t17⟩ := T
  unfold pz_ckE at hk
  simp only [Bool.and_eq_true, decide_eq_true_eq] at hk
  obtain ⟨hd, hk⟩ := hk
  refine ⟨hd, ?_⟩
  match i, hk with
  | .iconst k, hk =>
    simp only [Bool.and_eq_true, Bool.or_eq_true, decide_eq_true_eq, beq_iff_eq, List.contains_iff_mem] at hk
    exact ⟨hk.1.1, hk.1.2, hk.2⟩
  | .bipush k, hk =>
    simp only [Bool.and_eq_true, Bool.or_eq_true, decide_eq_true_eq, beq_iff_eq, List.contains_iff_mem] at hk
    exact ⟨hk.1.1, hk.1.2, hk.2⟩
  | .sipush k, hk =>
    simp only [Bool.and_eq_true, Bool.or_eq_true, decide_eq_true_eq, beq_iff_eq, List.contains_iff_mem] at hk
    exact ⟨hk.1.1, hk.1.2, hk.2⟩
  | .ldc k, hk =>
    simp only [Bool.and_eq_true, Bool.or_eq_true, decide_eq_true_eq, beq_iff_eq, List.contains_iff_mem] at hk
    obtain ⟨v, h1, h2⟩ := t4 _ hk.2
    exact ⟨hk.1, v, h1, h2.trans (pz_zz z)⟩
  | .ldc_w k, hk =>
    simp only [Bool.and_eq_true, Bool.or_eq_true, decide_eq_true_eq, beq_iff_eq, List.contains_iff_mem] at hk
    obtain ⟨v, h1, h2⟩ := t4 _ hk.2
    exact ⟨hk.1, v, h1, h2.trans (pz_zz z)⟩
  | .ldc2_w k, hk =>
    simp only [Bool.and_eq_true, Bool.or_eq_true, decide_eq_true_eq, beq_iff_eq, List.contains_iff_mem] at hk
    obtain ⟨v, h1, h2⟩ := t5 _ hk.2
    exact ⟨hk.1, v, h1, h2.trans (pz_zz z)⟩
  | .lconst k, hk =>
    simp only [Bool.and_eq_true, Bool.or_eq_true, decide_eq_true_eq, beq_iff_eq, List.contains_iff_mem] at hk
    exact hk
  | .aconst_null, hk =>
    simp only [Bool.and_eq_true, Bool.or_eq_true, decide_eq_true_eq, beq_iff_eq, List.contains_iff_mem] at hk
    exact hk
  | .iload_n j, hk =>
    simp only [Bool.and_eq_true, Bool.or_eq_true, decide_eq_true_eq, beq_iff_eq, List.contains_iff_mem] at hk
    exact hk
  | .iload j, hk =>
    simp only [Bool.and_eq_true, Bool.or_eq_true, decide_eq_true_eq, beq_iff_eq, List.contains_iff_mem] at hk
    exact hk
  | .lload_n j, hk =>
    simp only [Bool.and_eq_true, Bool.or_eq_true, decide_eq_true_eq, beq_iff_eq, List.contains_iff_mem] at hk
    exact hk
  | .lload j, hk =>
    simp only [Bool.and_eq_true, Bool.or_eq_true, decide_eq_true_eq, beq_iff_eq, List.contains_iff_mem] at hk
    exact hk
  | .aload_n j, hk =>
    simp only [Bool.and_eq_true, Bool.or_eq_true, decide_eq_true_eq, beq_iff_eq, List.contains_iff_mem] at hk
    exact hk
  | .aload j, hk =>
    simp only [Bool.and_eq_true, Bool.or_eq_true, decide_eq_true_eq, beq_iff_eq, List.contains_iff_mem] at hk
    exact hk
  | .istore_n j, hk =>
    simp only [Bool.and_eq_true, Bool.or_eq_true, decide_eq_true_eq, beq_iff_eq, List.contains_iff_mem] at hk
    exact hk
  | .istore j, hk =>
    simp only [Bool.and_eq_true, Bool.or_eq_true, decide_eq_true_eq, beq_iff_eq, List.contains_iff_mem] at hk
    exact hk
  | .lstore_n j, hk =>
    simp only [Bool.and_eq_true, Bool.or_eq_true, decide_eq_true_eq, beq_iff_eq, List.contains_iff_mem] at hk
    exact hk
  | .lstore j, hk =>
    simp only [Bool.and_eq_true, Bool.or_eq_true, decide_eq_true_eq, beq_iff_eq, List.contains_iff_mem] at hk
    exact hk
  | .astore_n j, hk =>
    simp only [Bool.and_eq_true, Bool.or_eq_true, decide_eq_true_eq, beq_iff_eq, List.contains_iff_mem] at hk
    exact hk
  | .astore j, hk =>
    simp only [Bool.and_eq_true, Bool.or_eq_true, decide_eq_true_eq, beq_iff_eq, List.contains_iff_mem] at hk
    exact hk
  | .iinc j k, hk =>
    simp only [Bool.and_eq_true, Bool.or_eq_true, decide_eq_true_eq, beq_iff_eq, List.contains_iff_mem] at hk
    exact ⟨hk.1.1, hk.1.2, hk.2⟩
  | .iadd, hk =>
    simp only [Bool.and_eq_true, Bool.or_eq_true, decide_eq_true_eq, beq_iff_eq, List.contains_iff_mem] at hk
    exact hk
  | .isub, hk =>
    simp only [Bool.and_eq_true, Bool.or_eq_true, decide_eq_true_eq, beq_iff_eq, List.contains_iff_mem] at hk
    exact hk
  | .imul, hk =>
    simp only [Bool.and_eq_true, Bool.or_eq_true, decide_eq_true_eq, beq_iff_eq, List.contains_iff_mem] at hk
    exact hk
  | .iand, hk =>
    simp only [Bool.and_eq_true, Bool.or_eq_true, decide_eq_true_eq, beq_iff_eq, List.contains_iff_mem] at hk
    exact hk
  | .ior, hk =>
    simp only [Bool.and_eq_true, Bool.or_eq_true, decide_eq_true_eq, beq_iff_eq, List.contains_iff_mem] at hk
    exact hk
  | .ixor, hk =>
    simp only [Bool.and_eq_true, Bool.or_eq_true, decide_eq_true_eq, beq_iff_eq, List.contains_iff_mem] at hk
    exact hk
  | .ishl, hk =>
    simp only [Bool.and_eq_true, Bool.or_eq_true, decide_eq_true_eq, beq_iff_eq, List.contains_iff_mem] at hk
    exact hk
  | .ishr, hk =>
    simp only [Bool.and_eq_true, Bool.or_eq_true, decide_eq_true_eq, beq_iff_eq, List.contains_iff_mem] at hk
    exact hk
  | .iushr, hk =>
    simp only [Bool.and_eq_true, Bool.or_eq_true, decide_eq_true_eq, beq_iff_eq, List.contains_iff_mem] at hk
    exact hk
  | .idiv, hk =>
    simp only [Bool.and_eq_true, Bool.or_eq_true, decide_eq_true_eq, beq_iff_eq, List.contains_iff_mem] at hk
    exact hk
  | .irem, hk =>
    simp only [Bool.and_eq_true, Bool.or_eq_true, decide_eq_true_eq, beq_iff_eq, List.contains_iff_mem] at hk
    exact hk
  | .ineg, hk =>
    simp only [Bool.and_eq_true, Bool.or_eq_true, decide_eq_true_eq, beq_iff_eq, List.contains_iff_mem] at hk
    exact hk
  | .ladd, hk =>
    simp only [Bool.and_eq_true, Bool.or_eq_true, decide_eq_true_eq, beq_iff_eq, List.contains_iff_mem] at hk
    exact hk
  | .lsub, hk =>
    simp only [Bool.and_eq_true, Bool.or_eq_true, decide_eq_true_eq, beq_iff_eq, List.contains_iff_mem] at hk
    exact hk
  | .lmul, hk =>
    simp only [Bool.and_eq_true, Bool.or_eq_true, decide_eq_true_eq, beq_iff_eq, List.contains_iff_mem] at hk
    exact hk
  | .land, hk =>
    simp only [Bool.and_eq_true, Bool.or_eq_true, decide_eq_true_eq, beq_iff_eq, List.contains_iff_mem] at hk
    exact hk
  | .lor, hk =>
    simp only [Bool.and_eq_true, Bool.or_eq_true, decide_eq_true_eq, beq_iff_eq, List.contains_iff_mem] at hk
    exact hk
  | .ldiv, hk =>
    simp only [Bool.and_eq_true, Bool.or_eq_true, decide_eq_true_eq, beq_iff_eq, List.contains_iff_mem] at hk
    exact hk
  | .lrem, hk =>
    simp only [Bool.and_eq_true, Bool.or_eq_true, decide_eq_true_eq, beq_iff_eq, List.contains_iff_mem] at hk
    exact hk
  | .lcmp, hk =>
    simp only [Bool.and_eq_true, Bool.or_eq_true, decide_eq_true_eq, beq_iff_eq, List.contains_iff_mem] at hk
    exact hk
  | .lushr, hk =>
    simp only [Bool.and_eq_true, Bool.or_eq_true, decide_eq_true_eq, beq_iff_eq, List.contains_iff_mem] at hk
    exact hk
  | .lshl, hk =>
    simp only [Bool.and_eq_true, Bool.or_eq_true, decide_eq_true_eq, beq_iff_eq, List.contains_iff_mem] at hk
    exact hk
  | .i2l, hk =>
    simp only [Bool.and_eq_true, Bool.or_eq_true, decide_eq_true_eq, beq_iff_eq, List.contains_iff_mem] at hk
    exact hk
  | .l2i, hk =>
    simp only [Bool.and_eq_true, Bool.or_eq_true, decide_eq_true_eq, beq_iff_eq, List.contains_iff_mem] at hk
    exact hk
  | .dup, hk =>
    simp only [Bool.and_eq_true, Bool.or_eq_true, decide_eq_true_eq, beq_iff_eq, List.contains_iff_mem] at hk
    exact hk
  | .pop, hk =>
    simp only [Bool.and_eq_true, Bool.or_eq_true, decide_eq_true_eq, beq_iff_eq, List.contains_iff_mem] at hk
    exact hk
  | .dup2, hk =>
    simp only [Bool.and_eq_true, Bool.or_eq_true, decide_eq_true_eq, beq_iff_eq, List.contains_iff_mem] at hk
    exact hk
  | .iaload, hk =>
    simp only [Bool.and_eq_true, Bool.or_eq_true, decide_eq_true_eq, beq_iff_eq, List.contains_iff_mem] at hk
    exact hk
  | .laload, hk =>
    simp only [Bool.and_eq_true, Bool.or_eq_true, decide_eq_true_eq, beq_iff_eq, List.contains_iff_mem] at hk
    exact hk
  | .caload, hk =>
    simp only [Bool.and_eq_true, Bool.or_eq_true, decide_eq_true_eq, beq_iff_eq, List.contains_iff_mem] at hk
    exact hk
  | .iastore, hk =>
    simp only [Bool.and_eq_true, Bool.or_eq_true, decide_eq_true_eq, beq_iff_eq, List.contains_iff_mem] at hk
    exact hk
  | .lastore, hk =>
    simp only [Bool.and_eq_true, Bool.or_eq_true, decide_eq_true_eq, beq_iff_eq, List.contains_iff_mem] at hk
    exact hk
  | .arraylength, hk =>
    simp only [Bool.and_eq_true, Bool.or_eq_true, decide_eq_true_eq, beq_iff_eq, List.contains_iff_mem] at hk
    exact hk
  | .goto k, hk =>
    simp only [Bool.and_eq_true, Bool.or_eq_true, decide_eq_true_eq, beq_iff_eq, List.contains_iff_mem] at hk
    exact hk
  | .ifCond _ k, hk =>
    simp only [Bool.and_eq_true, Bool.or_eq_true, decide_eq_true_eq, beq_iff_eq, List.contains_iff_mem] at hk
    exact hk
  | .if_icmp _ k, hk =>
    simp only [Bool.and_eq_true, Bool.or_eq_true, decide_eq_true_eq, beq_iff_eq, List.contains_iff_mem] at hk
    exact hk
  | .ifnull k, hk =>
    simp only [Bool.and_eq_true, Bool.or_eq_true, decide_eq_true_eq, beq_iff_eq, List.contains_iff_mem] at hk
    exact hk
  | .ifnonnull k, hk =>
    simp only [Bool.and_eq_true, Bool.or_eq_true, decide_eq_true_eq, beq_iff_eq, List.contains_iff_mem] at hk
    exact hk
  | .lookupswitch df ps, hk =>
    simp only [Bool.and_eq_true, decide_eq_true_eq] at hk
    obtain ⟨⟨h1, h2⟩, h3⟩ := hk
    exact ⟨h1, fun x => pz_off_ge h2 _ (fun q hq => by simpa using List.all_eq_true.mp h3 q hq)⟩
  | .tableswitch df lo hi ofs, hk =>
    simp only [Bool.and_eq_true, decide_eq_true_eq] at hk
    exact ⟨hk.1, fun k o9 ho => by
      have h1 := List.all_eq_true.mp hk.2 o9 (Array.mem_toList_iff.mpr (Array.mem_of_getElem? ho))
      simpa using h1⟩
  | .getfield idx, hk =>
    simp only [Bool.and_eq_true, Bool.or_eq_true, decide_eq_true_eq, beq_iff_eq, List.contains_iff_mem] at hk
    obtain ⟨h1, h2, h3⟩ := t1 _ hk.2
    exact ⟨hk.1, h1, h2, h3⟩
  | .putfield idx, hk =>
    simp only [Bool.and_eq_true, Bool.or_eq_true, decide_eq_true_eq, beq_iff_eq, List.contains_iff_mem] at hk
    refine ⟨hk.1.1, ?_⟩
    rcases hk.2 with h1 | ⟨h0, h1⟩
    · obtain ⟨c2, d2, h2, h3, h4, h5⟩ := t2 _ h1
      have h2 : 10 * c + d = 10 * c2 + d2 := h2
      have hd9 : d < 10 := hk.1.2
      have hc : c2 = c ∧ d2 = d := ⟨by omega, by omega⟩
      obtain ⟨rfl, rfl⟩ := hc
      exact ⟨h5 mnm, h4⟩
    · obtain ⟨c2, d2, h2, h3, h4, h5⟩ := t3 _ h1
      have h2 : 10 * c + d = 10 * c2 + d2 := h2
      have hd9 : d < 10 := hk.1.2
      have hc : c2 = c ∧ d2 = d := ⟨by omega, by omega⟩
      obtain ⟨rfl, rfl⟩ := hc
      rw [hin h0]
      exact ⟨h5, h4⟩
  | .getstatic idx, hk =>
    simp only [Bool.and_eq_true, Bool.or_eq_true, decide_eq_true_eq, beq_iff_eq, List.contains_iff_mem] at hk
    obtain ⟨w, h1, h2⟩ := t6 _ hk.2
    exact ⟨hk.1.1, z.toNat - 4096, w, h1, h2, by omega⟩
  | .aaload, hk =>
    simp only [Bool.and_eq_true, Bool.or_eq_true, decide_eq_true_eq, beq_iff_eq, List.contains_iff_mem] at hk
    exact ⟨hk.1, by rcases hk.2 with (h | h) | h <;> omega⟩
  | .aastore, hk =>
    simp only [Bool.and_eq_true, Bool.or_eq_true, decide_eq_true_eq, beq_iff_eq, List.contains_iff_mem] at hk
    exact ⟨hk.1, hk.2⟩
  | .new idx, hk =>
    simp only [Bool.and_eq_true, Bool.or_eq_true, decide_eq_true_eq, beq_iff_eq, List.contains_iff_mem] at hk
    exact ⟨hk.1, t7 _ hk.2⟩
  | .newarray .int, hk =>
    simp only [Bool.and_eq_true, Bool.or_eq_true, decide_eq_true_eq, beq_iff_eq, List.contains_iff_mem] at hk
    exact ⟨hk.1, Or.inl ⟨rfl, hk.2⟩, t17.2.2⟩
  | .newarray .long, hk =>
    simp only [Bool.and_eq_true, Bool.or_eq_true, decide_eq_true_eq, beq_iff_eq, List.contains_iff_mem] at hk
    exact ⟨hk.1, Or.inr ⟨rfl, hk.2⟩, t17.2.1⟩
  | .newarray .boolean, hk =>
    cases hk
  | .newarray .char, hk =>
    cases hk
  | .newarray .float, hk =>
    cases hk
  | .newarray .double, hk =>
    cases hk
  | .newarray .byte, hk =>
    cases hk
  | .newarray .short, hk =>
    cases hk
  | .anewarray idx, hk =>
    simp only [Bool.and_eq_true, Bool.or_eq_true, decide_eq_true_eq, beq_iff_eq, List.contains_iff_mem] at hk
    exact ⟨hk.1, t8 _ hk.2⟩
  | .multianewarray idx k, hk =>
    simp only [Bool.and_eq_true, Bool.or_eq_true, decide_eq_true_eq, beq_iff_eq, List.contains_iff_mem] at hk
    exact ⟨hk.1.1.1, hk.1.1.2, t14 _ _ hk.2 hk.1.2, t17.1, t17.2.1⟩
  | .ireturn, hk =>
    simp only [Bool.and_eq_true, Bool.or_eq_true, decide_eq_true_eq, beq_iff_eq, List.contains_iff_mem] at hk
    exact ⟨hk.1, hk.2.imp pz_rk0 (fun q => ⟨pz_rk1 q.1, q.2⟩)⟩
  | .lreturn, hk =>
    simp only [Bool.and_eq_true, Bool.or_eq_true, decide_eq_true_eq, beq_iff_eq, List.contains_iff_mem] at hk
    exact ⟨hk.1, pz_rk2 hk.2⟩
  | .areturn, hk =>
    simp only [Bool.and_eq_true, Bool.or_eq_true, decide_eq_true_eq, beq_iff_eq, List.contains_iff_mem] at hk
    exact ⟨hk.1, pz_rk3 hk.2⟩
  | .return_, hk =>
    simp only [Bool.and_eq_true, Bool.or_eq_true, decide_eq_true_eq, beq_iff_eq, List.contains_iff_mem] at hk
    exact ⟨hk.1, pz_rk4 hk.2⟩
  | .invokevirtual idx, hk =>
    simp only [Bool.and_eq_true, Bool.or_eq_true, decide_eq_true_eq, beq_iff_eq, List.contains_iff_mem] at hk
    obtain ⟨⟨⟨⟨h1, rfl⟩, rfl⟩, h4⟩, h5⟩ := hk
    obtain ⟨I, i1, i2, i3, i4, i5, i6, i7, i8, w, i9, i10⟩ := t9 _ h5
    exact ⟨h1, I, i1, i2, i3, i4, i5, i6, i7, i8, w, i9, i10⟩
  | .invokestatic idx, hk =>
    simp only [Bool.and_eq_true, Bool.or_eq_true, decide_eq_true_eq, beq_iff_eq, List.contains_iff_mem] at hk
    obtain ⟨⟨h1, hx⟩, h2⟩ := hk
    refine ⟨h1, ?_⟩
    rcases h2 with (⟨rfl, h3⟩ | ⟨hz, h3⟩) | ⟨⟨⟨rfl, rfl⟩, rfl⟩, h3⟩
    · exact Or.inl ⟨rfl, t12 _ _ h3 hx, t15.1, t15.2.1, t15.2.2⟩
    · have h4 := tm _ h3
      have e9 : ((z.toNat : Nat) : Int) = z := by omega
      dsimp only at h4
      rw [e9] at h4
      exact Or.inr (Or.inl h4)
    · obtain ⟨I, i1, i2, i3, i4, i5, i6, i7⟩ := t10 _ h3
      exact Or.inr (Or.inr (Or.inr ⟨rfl, I, i1, i2, i3, i4, i5, i6, i7⟩))
  | .invokespecial idx, hk =>
    simp only [Bool.and_eq_true, Bool.or_eq_true, decide_eq_true_eq, beq_iff_eq, List.contains_iff_mem] at hk
    obtain ⟨⟨h1, hx⟩, h2⟩ := hk
    refine ⟨h1, ?_⟩
    rcases h2 with ⟨⟨rfl, rfl⟩, h3⟩ | ⟨⟨rfl, h3⟩, h4⟩
    · exact Or.inl ⟨rfl, rfl, t13 _ _ h3 hx, t16.1, t16.2⟩
    · obtain ⟨I, c2, d2, e1, e2, i1, i2, i3, i4, i5, i6, i7, i8, i9⟩ := t11 _ h3
      have e1 : 100000 * c + d = 100000 * c2 + d2 := e1
      have e3 : c2 = c := by omega
      have e4 : d2 = d := by omega
      subst e3
      subst e4
      exact Or.inr ⟨rfl, I, i1, i2, i3, i4, i5, i6, i7, i8, i9⟩
  | .athrow, hk => cases hk
  | .baload, hk => cases hk
  | .bastore, hk => cases hk
  | .castore, hk => cases hk
  | .checkcast _, hk => cases hk
  | .d2f, hk => cases hk
  | .d2i, hk => cases hk
  | .d2l, hk => cases hk
  | .dadd, hk => cases hk
  | .daload, hk => cases hk
  | .dastore, hk => cases hk
  | .dcmp _, hk => cases hk
  | .dconst _, hk => cases hk
  | .ddiv, hk => cases hk
  | .dload _, hk => cases hk
  | .dload_n _, hk => cases hk
  | .dmul, hk => cases hk
  | .dneg, hk => cases hk
  | .drem, hk => cases hk
  | .dreturn, hk => cases hk
  | .dstore _, hk => cases hk
  | .dstore_n _, hk => cases hk
  | .dsub, hk => cases hk
  | .dup_x1, hk => cases hk
  | .dup_x2, hk => cases hk
  | .dup2_x1, hk => cases hk
  | .dup2_x2, hk => cases hk
  | .f2d, hk => cases hk
  | .f2i, hk => cases hk
  | .f2l, hk => cases hk
  | .fadd, hk => cases hk
  | .faload, hk => cases hk
  | .fastore, hk => cases hk
  | .fcmp _, hk => cases hk
  | .fconst _, hk => cases hk
  | .fdiv, hk => cases hk
  | .fload _, hk => cases hk
  | .fload_n _, hk => cases hk
  | .fmul, hk => cases hk
  | .fneg, hk => cases hk
  | .frem, hk => cases hk
  | .freturn, hk => cases hk
  | .fstore _, hk => cases hk
  | .fstore_n _, hk => cases hk
  | .fsub, hk => cases hk
  | .goto_w _, hk => cases hk
  | .i2b, hk => cases hk
  | .i2c, hk => cases hk
  | .i2d, hk => cases hk
  | .i2f, hk => cases hk
  | .i2s, hk => cases hk
  | .if_acmp _ _, hk => cases hk
  | .instanceof _, hk => cases hk
  | .invokedynamic _, hk => cases hk
  | .invokeinterface _ _, hk => cases hk
  | .jsr _, hk => cases hk
  | .jsr_w _, hk => cases hk
  | .l2d, hk => cases hk
  | .l2f, hk => cases hk
  | .lneg, hk => cases hk
  | .lshr, hk => cases hk
  | .lxor, hk => cases hk
  | .monitorenter, hk => cases hk
  | .monitorexit, hk => cases hk
  | .nop, hk => cases hk
  | .pop2, hk => cases hk
  | .putstatic _, hk => cases hk
  | .ret _, hk => cases hk
  | .saload, hk => cases hk
  | .sastore, hk => cases hk
  | .swap, hk => cases hk
theorem pz_ckL_ok {mi : Nat → Option pz_I} {on : Nat → String} {gf pf pfi ki kl gs nw an iv is ii mt : pz_Tb} {oc oo mu : List Nat} {ow : Nat} {ini : Bool} {cc : ByteArray} {own mnm : String} {rt : Option FieldType} (T : pz_tok mi on gf pf pfi ki kl gs nw an iv is ii mt oc oo mu) (hon : on ow = own) (hin : ini = true → mnm = "<init>") (SP : Nat → Prop) : ∀ (su : List pz_E) (pc : Nat), pz_ckL gf pf pfi ki kl gs nw an iv is ii mt oc oo mu ow ini (pz_rk rt) cc pc su = true → pz_okL mi SP own mnm cc rt pc su
  | [], _, _ => trivial
  | en :: r, pc, h => by
    unfold pz_ckL at h
    rw [Bool.and_eq_true] at h
    exact ⟨pz_ckE_ok T h.1 hon hin SP, pz_ckL_ok T hon hin SP r _ h.2⟩
theorem pz_lookup {bl : List (Nat × List pz_E)} {P : Nat → List pz_E → Prop} (h0 : ∀ pc, P pc []) (h : ∀ q ∈ bl, P q.1 q.2) (pc : Nat) : P pc (pz_bk bl pc) := by
  unfold pz_bk
  induction bl with
  | nil => exact h0 pc
  | cons q r ih =>
    obtain ⟨a, L⟩ := q
    rw [List.lookup_cons]
    by_cases e : pc = a
    · subst e
      rw [beq_self_eq_true]
      exact h (pc, L) List.mem_cons_self
    · rw [beq_eq_false_iff_ne.mpr e]
      exact ih (fun q hq => h q (List.mem_cons_of_mem _ hq))
