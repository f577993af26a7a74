/-! THE PURE MACHINE IS SOUND: a run, and a method -/
def pz_okL (mi : Nat → Option pz_I) (SP : Nat → Prop) (own mnm : String) (cc : ByteArray) (rt : Option FieldType) : Nat → List pz_E → Prop
  | _, [] => True
  | pc, e :: r => pz_okE mi SP own mnm cc rt pc e ∧ pz_okL mi SP own mnm cc rt (pc + e.2.1) r
section SN13
variable {base : Nat} {stt : Nat → Nat} {cA : Nat → ClassId} {D : va_G} {ss : List (Nat × Nat)} {stc : Nat → Nat → Int}
variable {p : Program} {l : Launch} {e : Env} {R : Room} {s : State} {m : MethodId} {args : Array Value} {below : List Frame} {meth : Method} {c : Code} {Q : State → Prop} {cc : ByteArray} {own : String} {nL : Nat}
theorem pz_okE_call {mi : Nat → Option pz_I} {SP : Nat → Prop} {own mnm : String} {cc : ByteArray} {rt : Option FieldType} {pc rc rs : Nat} {e : pz_E} {ls st : List pz_V} {X : pz_X} {q : Nat × List pz_V × List pz_V × Nat × Nat} (h : pz_okE mi SP own mnm cc rt pc e) (ho : pz_stp pz_tf rc rs e pc ls st X = some (.inr (.inr (.inr q)))) : e.2.1 = 3 := by
  obtain ⟨i, n, a, b, c9, d, z⟩ := e
  obtain ⟨-, hE⟩ := h
  match i, hE, ho with
  | .invokevirtual _, hE, _ => exact hE.1
  | .invokestatic _, hE, _ => exact hE.1
  | .invokespecial _, hE, _ => exact hE.1
  | .iconst _, _, ho => cases ho
  | .bipush _, _, ho => cases ho
  | .sipush _, _, ho => cases ho
  | .ldc _, _, ho => cases ho
  | .ldc_w _, _, ho => cases ho
  | .lconst _, _, ho => cases ho
  | .ldc2_w _, _, ho => cases ho
  | .aconst_null, _, ho => cases ho
  | .iload_n _, _, ho => obtain ⟨_, _, ho⟩ := pz_ld_i ho; cases ho
  | .iload _, _, ho => obtain ⟨_, _, ho⟩ := pz_ld_i ho; cases ho
  | .lload_n _, _, ho => obtain ⟨_, _, ho⟩ := pz_ld_i ho; cases ho
  | .lload _, _, ho => obtain ⟨_, _, ho⟩ := pz_ld_i ho; cases ho
  | .aload_n _, _, ho => obtain ⟨_, _, ho⟩ := pz_ld_i ho; cases ho
  | .aload _, _, ho => obtain ⟨_, _, ho⟩ := pz_ld_i ho; cases ho
  | .iinc _ _, _, ho => obtain ⟨_, _, ho⟩ := pz_ld_i ho; cases ho
  | .istore_n _, _, ho => obtain ⟨_, _, _, ho⟩ := pz_u1_i ho; cases (pz_if_i ho).2
  | .istore _, _, ho => obtain ⟨_, _, _, ho⟩ := pz_u1_i ho; cases (pz_if_i ho).2
  | .astore_n _, _, ho => obtain ⟨_, _, _, ho⟩ := pz_r1_i ho; cases (pz_if_i ho).2
  | .astore _, _, ho => obtain ⟨_, _, _, ho⟩ := pz_r1_i ho; cases (pz_if_i ho).2
  | .lstore_n _, _, ho => obtain ⟨_, _, _, ho⟩ := pz_l1_i ho; cases (pz_if_i ho).2
  | .lstore _, _, ho => obtain ⟨_, _, _, ho⟩ := pz_l1_i ho; cases (pz_if_i ho).2
  | .iadd, _, ho => obtain ⟨_, _, _, _, ho⟩ := pz_u2_i ho; cases ho
  | .isub, _, ho => obtain ⟨_, _, _, _, ho⟩ := pz_u2_i ho; cases ho
  | .imul, _, ho => obtain ⟨_, _, _, _, ho⟩ := pz_u2_i ho; cases ho
  | .iand, _, ho => obtain ⟨_, _, _, _, ho⟩ := pz_u2_i ho; cases ho
  | .ior, _, ho => obtain ⟨_, _, _, _, ho⟩ := pz_u2_i ho; cases ho
  | .ixor, _, ho => obtain ⟨_, _, _, _, ho⟩ := pz_u2_i ho; cases ho
  | .ishl, _, ho => obtain ⟨_, _, _, _, ho⟩ := pz_u2_i ho; cases ho
  | .ishr, _, ho => obtain ⟨_, _, _, _, ho⟩ := pz_u2_i ho; cases ho
  | .iushr, _, ho => obtain ⟨_, _, _, _, ho⟩ := pz_u2_i ho; cases ho
  | .idiv, _, ho => obtain ⟨_, _, _, _, ho⟩ := pz_u2_i ho; cases (pz_if_i ho).2
  | .irem, _, ho => obtain ⟨_, _, _, _, ho⟩ := pz_u2_i ho; cases (pz_if_i ho).2
  | .ineg, _, ho => obtain ⟨_, _, _, ho⟩ := pz_u1_i ho; cases ho
  | .ladd, _, ho => obtain ⟨_, _, _, _, ho⟩ := pz_l2_i ho; cases ho
  | .lsub, _, ho => obtain ⟨_, _, _, _, ho⟩ := pz_l2_i ho; cases ho
  | .lmul, _, ho => obtain ⟨_, _, _, _, ho⟩ := pz_l2_i ho; cases ho
  | .land, _, ho => obtain ⟨_, _, _, _, ho⟩ := pz_l2_i ho; cases ho
  | .lor, _, ho => obtain ⟨_, _, _, _, ho⟩ := pz_l2_i ho; cases ho
  | .lcmp, _, ho => obtain ⟨_, _, _, _, ho⟩ := pz_l2_i ho; cases ho
  | .ldiv, _, ho => obtain ⟨_, _, _, _, ho⟩ := pz_l2_i ho; cases (pz_if_i ho).2
  | .lrem, _, ho => obtain ⟨_, _, _, _, ho⟩ := pz_l2_i ho; cases (pz_if_i ho).2
  | .lushr, _, ho => obtain ⟨_, _, _, ho⟩ := pz_u1_i ho; obtain ⟨_, _, _, ho⟩ := pz_l1_i ho; cases ho
  | .lshl, _, ho => obtain ⟨_, _, _, ho⟩ := pz_u1_i ho; obtain ⟨_, _, _, ho⟩ := pz_l1_i ho; cases ho
  | .i2l, _, ho => obtain ⟨_, _, _, ho⟩ := pz_u1_i ho; cases ho
  | .l2i, _, ho => obtain ⟨_, _, _, ho⟩ := pz_l1_i ho; cases ho
  | .dup, _, ho =>
    simp only [pz_stp] at ho
    split at ho
    · split at ho <;> cases ho
    · cases ho
  | .pop, _, ho =>
    simp only [pz_stp] at ho
    split at ho
    · split at ho <;> cases ho
    · cases ho
  | .dup2, _, ho =>
    simp only [pz_stp] at ho
    split at ho
    · split at ho <;> cases ho
    · cases ho
  | .goto _, _, ho => cases ho
  | .ifCond _ _, _, ho =>
    obtain ⟨x, r, _, ho⟩ := pz_u1_i ho
    split at ho <;> cases ho
  | .if_icmp _ _, _, ho =>
    obtain ⟨x, y, r, _, ho⟩ := pz_u2_i ho
    split at ho <;> cases ho
  | .ifnull _, _, ho =>
    obtain ⟨x, r, _, ho⟩ := pz_r1_i ho
    split at ho <;> cases ho
  | .ifnonnull _, _, ho =>
    obtain ⟨x, r, _, ho⟩ := pz_r1_i ho
    split at ho <;> cases ho
  | .lookupswitch _ _, _, ho => obtain ⟨_, _, _, ho⟩ := pz_u1_i ho; cases ho
  | .tableswitch _ _ _ _, _, ho =>
    obtain ⟨x, r, _, ho⟩ := pz_u1_i ho
    split at ho
    · cases ho
    · split at ho <;> cases ho
  | .getfield _, _, ho => obtain ⟨_, _, _, ho⟩ := pz_r1_i ho; obtain ⟨_, _, _, _, ho⟩ := pz_gf_i ho; cases ho
  | .putfield _, _, ho => obtain ⟨_, _, _, _, ho⟩ := pz_fv_i ho; obtain ⟨_, _, _, _, ho⟩ := pz_gf_i ho; cases (pz_if_i ho).2
  | .getstatic _, _, ho => cases ho
  | .iaload, _, ho => obtain ⟨_, _, _, _, ho⟩ := pz_ai_i ho; obtain ⟨_, _, _, _, _, ho⟩ := pz_al_i ho; cases ho
  | .laload, _, ho => obtain ⟨_, _, _, _, ho⟩ := pz_ai_i ho; obtain ⟨_, _, _, _, _, ho⟩ := pz_al_i ho; cases ho
  | .caload, _, ho => obtain ⟨_, _, _, _, ho⟩ := pz_ai_i ho; obtain ⟨_, _, _, _, _, ho⟩ := pz_al_i ho; cases ho
  | .aaload, _, ho => obtain ⟨_, _, _, _, ho⟩ := pz_ai_i ho; obtain ⟨_, _, _, _, _, ho⟩ := pz_al_i ho; cases ho
  | .iastore, _, ho => obtain ⟨_, _, _, _, _, ho⟩ := pz_av_i ho; obtain ⟨_, _, _, _, ho⟩ := pz_as_i ho; cases ho
  | .lastore, _, ho => obtain ⟨_, _, _, _, _, ho⟩ := pz_av_i ho; obtain ⟨_, _, _, _, ho⟩ := pz_as_i ho; cases ho
  | .aastore, _, ho => obtain ⟨_, _, _, _, _, ho⟩ := pz_av_i ho; obtain ⟨_, _, _, _, ho⟩ := pz_as_i ho; obtain ⟨_, _, _, _, ho⟩ := pz_gf_i ho; cases ho
  | .arraylength, _, ho => obtain ⟨_, _, _, ho⟩ := pz_r1_i ho; obtain ⟨_, _, _, _, ho⟩ := pz_ln_i ho; cases ho
  | .new _, _, ho => cases (pz_mk_i ho).2
  | .newarray _, _, ho => obtain ⟨_, _, _, ho⟩ := pz_u1_i ho; cases (pz_mk_i (pz_if_i ho).2).2
  | .anewarray _, _, ho => obtain ⟨_, _, _, ho⟩ := pz_u1_i ho; cases (pz_mk_i (pz_if_i ho).2).2
  | .multianewarray _ _, _, ho => obtain ⟨_, _, _, _, ho⟩ := pz_u2_i ho; cases (pz_mk_i (pz_if_i ho).2).2
  | .ireturn, _, ho =>
    simp only [pz_stp] at ho
    split at ho
    · cases (pz_if_i ho).2
    · cases ho
  | .lreturn, _, ho =>
    simp only [pz_stp] at ho
    split at ho
    · cases (pz_if_i ho).2
    · cases ho
  | .areturn, _, ho =>
    simp only [pz_stp] at ho
    split at ho
    · cases (pz_if_i ho).2
    · cases ho
  | .return_, _, ho =>
    simp only [pz_stp] at ho
    split at ho
    · cases (pz_if_i ho).2
    · cases ho
theorem pz_run_snd {mi : Nat → Option pz_I} {SP : Nat → Prop} {rt : Option FieldType} {C : Nat → List pz_V → pz_X → pz_A} {bk : Nat → List pz_E} {rc rs dp : Nat} {q : Option pz_V × pz_X} (h : pz_cx base stt cA D ss stc p R s m args c cc own nL) (hB : ∀ pc, pz_okL mi SP own meth.name cc rt pc (bk pc)) (hC : pz_Cs base stt cA D ss stc l mi dp C) (hRf : dp + 1 ≤ R.frames) (hRl : 64 * (dp + 1) ≤ R.locals) (hrc : rc ≤ R.cells) (hrs : rs ≤ R.slots)
    (hSP : ∀ (pc : Nat) (en : pz_E), pz_okE mi SP own meth.name cc rt pc en → SP pc → ∀ (as rest : List pz_V) (ls : List pz_V) (X Y : pz_X) (rv : Option pz_V), C en.2.2.1 as (pz_z X) = some (rv, Y) → as.length = en.2.2.2.1 → pz_wt rest ≤ 8 → X.1.2.2.1 + en.2.2.2.2.1 ≤ R.cells → X.1.2.2.2.1 + en.2.2.2.2.2.1 ≤ R.slots → pz_N base stt cA D ss stc p l e R s m args below meth c Q nL (pc + 3) ls (rv.toList ++ rest) (pz_b X Y en.2.2.2.2.1 en.2.2.2.2.2.1) → pz_N base stt cA D ss stc p l e R s m args below meth c Q nL pc ls (as.reverse ++ rest) X)
    (hEn : q.2.1.2.2.1 ≤ rc → q.2.1.2.2.2.1 ≤ rs → pz_En base stt cA D ss stc p l e R s m args below meth c Q cc rt q) : ∀ (k pc : Nat) (su : List pz_E) (ls st : List pz_V) (X : pz_X), pz_okL mi SP own meth.name cc rt pc su → pz_run pz_tf C bk rc rs k pc su ls st X = some q → pz_N base stt cA D ss stc p l e R s m args below meth c Q nL pc ls st X
  | 0, _, _, _, _, _, _, hr => by simp [pz_run] at hr
  | k + 1, pc, [], ls, st, X, _, hr => by
    rw [pz_run] at hr
    exact pz_run_snd h hB hC hRf hRl hrc hrs hSP hEn k pc (bk pc) ls st X (hB pc) hr
  | k + 1, pc, en :: r, ls, st, X, ho, hr => by
    obtain ⟨hE, hL⟩ := ho
    rw [pz_run] at hr
    cases hs : pz_stp pz_tf rc rs en pc ls st X with
    | none => rw [hs] at hr; cases hr
    | some o =>
      refine pz_step h hE hC hRf hRl hrc hrs (hSP pc en hE) hs ?_
      rw [hs] at hr
      match o, hs, hr with
      | .inl (ls', st', X'), hs, hr => exact pz_run_snd h hB hC hRf hRl hrc hrs hSP hEn k _ r ls' st' X' hL hr
      | .inr (.inl (pc', ls', st', X')), hs, hr => exact pz_run_snd h hB hC hRf hRl hrc hrs hSP hEn k pc' [] ls' st' X' trivial hr
      | .inr (.inr (.inl q')), hs, hr =>
        have e1 : q' = q := Option.some.inj hr
        subst e1
        exact hEn
      | .inr (.inr (.inr (y, as, rest, mc, ms))), hs, hr =>
        have e3 := pz_okE_call hE hs
        dsimp only at hr
        cases hc : C y as (pz_z X) with
        | none => rw [hc] at hr; cases hr
        | some w =>
          obtain ⟨rv, Y⟩ := w
          rw [hc] at hr
          rw [e3] at hL
          exact ⟨rv, Y, hc, pz_run_snd h hB hC hRf hRl hrc hrs hSP hEn k _ r ls _ _ hL hr⟩
/-- the locals with which a method begins -/
theorem pz_lr_entry {as : List pz_V} {n : Nat} (hok : pz_okl as) (hn : (pz_en as).length ≤ n) : pz_lr base stt ((lg_sl (as.map (pz_tv base stt)) ++ List.replicate (n - (lg_sl (as.map (pz_tv base stt))).length) Slot.unset).toArray) n (pz_el n as) := by
  have hlen : ∀ as : List pz_V, pz_okl as → (lg_sl (as.map (pz_tv base stt))).length = (pz_en as).length := by
    intro as
    induction as with
    | nil => intro _; rfl
    | cons v r ih =>
      intro hk
      obtain ⟨-, h2⟩ := pz_okl_c.mp hk
      have e0 : lg_sl ((v :: r).map (pz_tv base stt)) = (if (pz_tv base stt v).category = 2 then [Slot.val (pz_tv base stt v), Slot.second] else [Slot.val (pz_tv base stt v)]) ++ lg_sl (r.map (pz_tv base stt)) := by
        simp only [lg_sl, List.map_cons, List.flatMap_cons]
      rw [e0, List.length_append, ih h2]
      by_cases hv : v.1 = 1
      · obtain ⟨t, z⟩ := v
        have hv : t = 1 := hv
        subst hv
        rw [if_pos (pz_cat1 base stt z)]
        show 2 + (pz_en r).length = (pz_en ((1, z) :: r)).length
        simp [pz_en]
        omega
      · rw [if_neg (by rw [pz_cat base stt v hv]; decide)]
        show 1 + (pz_en r).length = (pz_en (v :: r)).length
        simp [pz_en, hv]
        omega
  have hmem : ∀ (as : List pz_V) (k : Nat), pz_okl as → ∀ (i : Nat) (v : pz_V), (pz_en as)[i]? = some v → v.1 < 3 → (k + i, pz_tv base stt v) ∈ lv_args k (as.map (pz_tv base stt)) ∧ pz_okv v := by
    intro as
    induction as with
    | nil => intro k _ i v hi; simp [pz_en] at hi
    | cons w r ih =>
      intro k hk i v hi hv
      obtain ⟨⟨h1, h3⟩, h2⟩ := pz_okl_c.mp hk
      rw [List.map_cons]
      by_cases hw : w.1 = 1
      · have e1 : pz_en (w :: r) = w :: (9, 0) :: pz_en r := by simp [pz_en, hw]
        rw [e1] at hi
        obtain ⟨t, z⟩ := w
        have hw : t = 1 := hw
        subst hw
        have e2 : lv_args k (pz_tv base stt (1, z) :: r.map (pz_tv base stt)) = (k, pz_tv base stt (1, z)) :: lv_args (k + 2) (r.map (pz_tv base stt)) := by
          show (k, _) :: lv_args (if _ then _ else _) _ = _
          rw [if_pos (pz_cat1 base stt z)]
        rw [e2]
        match i, hi with
        | 0, hi =>
          cases hi
          exact ⟨List.mem_cons_self, h3⟩
        | 1, hi =>
          cases hi
          exact absurd hv (by decide)
        | i + 2, hi =>
          obtain ⟨q1, q2⟩ := ih (k + 2) h2 i v hi hv
          refine ⟨List.mem_cons_of_mem _ ?_, q2⟩
          rw [show k + (i + 2) = k + 2 + i by omega]
          exact q1
      · have e1 : pz_en (w :: r) = w :: pz_en r := by simp [pz_en, hw]
        rw [e1] at hi
        have e2 : lv_args k (pz_tv base stt w :: r.map (pz_tv base stt)) = (k, pz_tv base stt w) :: lv_args (k + 1) (r.map (pz_tv base stt)) := by
          show (k, _) :: lv_args (if _ then _ else _) _ = _
          rw [if_neg (by rw [pz_cat base stt w hw]; decide)]
        rw [e2]
        match i, hi with
        | 0, hi =>
          cases hi
          exact ⟨List.mem_cons_self, h3⟩
        | i + 1, hi =>
          obtain ⟨q1, q2⟩ := ih (k + 1) h2 i v hi hv
          refine ⟨List.mem_cons_of_mem _ ?_, q2⟩
          rw [show k + (i + 1) = k + 1 + i by omega]
          exact q1
  have hl := lv_entry (as.map (pz_tv base stt)) (n := n) (by rw [hlen as hok]; exact hn)
  refine ⟨hl.1, by unfold pz_el; rw [List.length_append, List.length_replicate]; omega, hl.2.1, fun i v hi hv => ?_⟩
  unfold pz_el at hi
  by_cases hlt : i < (pz_en as).length
  · rw [List.getElem?_append_left hlt] at hi
    obtain ⟨q1, q2⟩ := hmem as 0 hok i v hi hv
    rw [Nat.zero_add] at q1
    exact ⟨hl.2.2 _ q1, q2⟩
  · rw [List.getElem?_append_right (by omega)] at hi
    have q := List.eq_of_mem_replicate (List.mem_of_getElem? hi)
    subst q
    exact absurd hv (by decide)
end SN13
