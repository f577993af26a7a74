/-! THE PURE MACHINE IS SOUND: one step -/
theorem pz_u1_i {st : List pz_V} {k : Int → List pz_V → Option pz_O} {o : pz_O} (h : pz_u1 st k = some o) : ∃ x r, st = (0, x) :: r ∧ k x r = some o := by
  unfold pz_u1 at h
  split at h
  · exact ⟨_, _, rfl, h⟩
  · cases h
theorem pz_u2_i {st : List pz_V} {k : Int → Int → List pz_V → Option pz_O} {o : pz_O} (h : pz_u2 st k = some o) : ∃ x y r, st = (0, y) :: (0, x) :: r ∧ k x y r = some o := by
  unfold pz_u2 at h
  split at h
  · exact ⟨_, _, _, rfl, h⟩
  · cases h
theorem pz_l1_i {st : List pz_V} {k : Int → List pz_V → Option pz_O} {o : pz_O} (h : pz_l1 st k = some o) : ∃ x r, st = (1, x) :: r ∧ k x r = some o := by
  unfold pz_l1 at h
  split at h
  · exact ⟨_, _, rfl, h⟩
  · cases h
theorem pz_l2_i {st : List pz_V} {k : Int → Int → List pz_V → Option pz_O} {o : pz_O} (h : pz_l2 st k = some o) : ∃ x y r, st = (1, y) :: (1, x) :: r ∧ k x y r = some o := by
  unfold pz_l2 at h
  split at h
  · exact ⟨_, _, _, rfl, h⟩
  · cases h
theorem pz_r1_i {st : List pz_V} {k : Int → List pz_V → Option pz_O} {o : pz_O} (h : pz_r1 st k = some o) : ∃ x r, st = (2, x) :: r ∧ k x r = some o := by
  unfold pz_r1 at h
  split at h
  · exact ⟨_, _, rfl, h⟩
  · cases h
theorem pz_ai_i {st : List pz_V} {k : Int → Int → List pz_V → Option pz_O} {o : pz_O} (h : pz_ai st k = some o) : ∃ a i r, st = (0, i) :: (2, a) :: r ∧ k a i r = some o := by
  unfold pz_ai at h
  split at h
  · exact ⟨_, _, _, rfl, h⟩
  · cases h
theorem pz_av_i {st : List pz_V} {t : Nat} {k : Int → Int → Int → List pz_V → Option pz_O} {o : pz_O} (h : pz_av st t k = some o) : ∃ a i v r, st = (t, v) :: (0, i) :: (2, a) :: r ∧ k a i v r = some o := by
  unfold pz_av at h
  split at h
  · split at h
    next e => subst e; exact ⟨_, _, _, _, rfl, h⟩
    next => cases h
  · cases h
theorem pz_fv_i {st : List pz_V} {t : Nat} {k : Int → Int → List pz_V → Option pz_O} {o : pz_O} (h : pz_fv st t k = some o) : ∃ a v r, st = (t, v) :: (2, a) :: r ∧ k a v r = some o := by
  unfold pz_fv at h
  split at h
  · split at h
    next e => subst e; exact ⟨_, _, _, rfl, h⟩
    next => cases h
  · cases h
theorem pz_ld_i {ls : List pz_V} {t i : Nat} {k : Int → Option pz_O} {o : pz_O} (h : pz_ld ls t i k = some o) : ∃ z, ls[i]? = some (t, z) ∧ k z = some o := by
  unfold pz_ld at h
  split at h
  next t' z hz =>
    split at h
    next e => subst e; exact ⟨z, hz, h⟩
    next => cases h
  next => cases h
theorem pz_if_i {p : Prop} {dp : Decidable p} {a : Option pz_O} {o : pz_O} (h : (if p then a else none) = some o) : p ∧ a = some o := by
  split at h
  next hp => exact ⟨hp, h⟩
  next => cases h
theorem pz_al_i {X : pz_X} {a i : Int} {k k2 : Nat} {g : Int → Option pz_O} {o : pz_O} (h : pz_al X a i k k2 g = some o) : ∃ q n, pz_sh X a = some (q, n) ∧ (q = k ∨ q = k2) ∧ (0 ≤ i ∧ i < n) ∧ g (X.2 a.toNat i.toNat) = some o := by
  unfold pz_al at h
  split at h
  next q n hq =>
    obtain ⟨⟨h1, h2, h3⟩, h4⟩ := pz_if_i h
    exact ⟨q, n, hq, h1, ⟨h2, h3⟩, h4⟩
  next => cases h
theorem pz_as_i {X : pz_X} {a i v : Int} {k : Nat} {g : pz_X → Option pz_O} {o : pz_O} (h : pz_as X a i v k g = some o) : ∃ n, pz_sh X a = some (k, n) ∧ a < 4096 ∧ (0 ≤ i ∧ i < n) ∧ g (X.1, pz_up X.2 a.toNat i.toNat v) = some o := by
  unfold pz_as at h
  split at h
  next q n hq =>
    obtain ⟨⟨h1, h2, h3, h5⟩, h4⟩ := pz_if_i h
    subst h1
    exact ⟨n, hq, h2, ⟨h3, h5⟩, h4⟩
  next => cases h
theorem pz_gf_i {X : pz_X} {a : Int} {ci j : Nat} {g : Int → Option pz_O} {o : pz_O} (h : pz_gf X a ci j g = some o) : ∃ n, pz_sh X a = some (ci, n) ∧ a < 4096 ∧ j < n ∧ g (X.2 a.toNat j) = some o := by
  unfold pz_gf at h
  split at h
  next q n hq =>
    obtain ⟨⟨h1, h2, h3⟩, h4⟩ := pz_if_i h
    subst h1
    exact ⟨n, hq, h2, h3, h4⟩
  next => cases h
theorem pz_ln_i {X : pz_X} {a : Int} {g : Int → Option pz_O} {o : pz_O} (h : pz_ln X a g = some o) : ∃ q n, pz_sh X a = some (q, n) ∧ 100 ≤ q ∧ g n = some o := by
  unfold pz_ln at h
  split at h
  next q n hq =>
    obtain ⟨h1, h4⟩ := pz_if_i h
    exact ⟨q, n, hq, h1, h4⟩
  next => cases h
theorem pz_mk_i {X : pz_X} {shs : List (Nat × Nat)} {mc ms rc rs : Nat} {M : pz_M} {g : pz_X → Option pz_O} {o : pz_O} (h : pz_mk X shs mc ms rc rs M g = some o) : (X.1.2.2.1 + mc ≤ rc ∧ X.1.2.2.2.1 + ms ≤ rs ∧ X.1.1.length + mc ≤ 4096 ∧ X.1.2.2.2.2 = 0) ∧ g ((X.1.1 ++ shs, X.1.2.1, X.1.2.2.1 + mc, X.1.2.2.2.1 + ms, 0), M) = some o := by
  unfold pz_mk at h
  exact pz_if_i h
theorem pz_kinds {base : Nat} {stt : Nat → Nat} {cA : Nat → ClassId} {D : va_G} {ss : List (Nat × Nat)} {stc : Nat → Nat → Int} {X : pz_X} {H : Heap} {x : Int} {q n : Nat} (hR : pz_r base stt cA D ss stc X H) (hs : pz_sh X x = some (q, n)) : (x < 4096 ∧ (q < 100 ∨ (100 ≤ q ∧ q ≤ 104))) ∨ (¬ x < 4096 ∧ ss[(x - 4096).toNat]? = some (q, n)) := by
  by_cases hx : x < 4096
  · obtain ⟨x0, xq⟩ := pz_sh_heap hs hx
    rcases (hR.2.2.1 _ _ xq).1 with ⟨e, -⟩ | ⟨e1, e2, -⟩
    · exact Or.inl ⟨hx, Or.inl e⟩
    · exact Or.inl ⟨hx, Or.inr ⟨e1, e2⟩⟩
  · have h := pz_sh_stat hs hx
    rw [hR.2.2.2.2.1] at h
    exact Or.inr ⟨hx, h⟩
/-- a method: name, code, locals, answer's type, parameters, cells and places that it may make -/
abbrev pz_I : Type := MethodName × ByteArray × Nat × Option FieldType × Nat × Nat × Nat
def pz_rm (d : Nat) (I : pz_I) : Room := { frames := d, cells := I.2.2.2.2.2.1, slots := I.2.2.2.2.2.2, locals := 64 * d }
def pz_okI (I : pz_I) : Prop := I.2.2.1 ≤ 45 ∧ Cond.code I.1 I.2.1 I.2.2.1 I.2.2.2.1 ∈ lw_g ∧ Cond.initialized I.1.cls ∈ lw_g ∧ I.1.cls ≠ "java/lang/invoke/MethodHandle" ∧ I.1.cls ≠ "java/lang/invoke/VarHandle" ∧ (parseMethodDescriptor I.1.desc).map (fun d => d.parameters.length) = some I.2.2.2.2.1
/-- a field by its link: class number, place; fin: it may be written here -/
def pz_fl (own : String) (idx ci k : Nat) : Prop := ∃ (C : String) (T : u_T) (N : Nat) (ty0 : Nat → FieldType), pz_cls[ci]? = some (C, T, N) ∧ (∀ w ∈ u_ws C T N, w ∈ lw_g) ∧ (∀ k, k < N → parseFieldDescriptor (T k).2.2.1 = some (ty0 k)) ∧ (∀ a, a < N → ∀ b, b < N → a ≠ b → (T a).2.1 ≠ (T b).2.1) ∧ k < N ∧ Cond.fieldLink own idx (T k).1 (T k).2.1 (T k).2.2.1 ∈ lw_g
def pz_fw (own mnm : String) (idx ci k d : Nat) : Prop := ∃ (C : String) (T : u_T) (N : Nat) (ty0 : Nat → FieldType), pz_cls[ci]? = some (C, T, N) ∧ (∀ w ∈ u_ws C T N, w ∈ lw_g) ∧ (∀ k, k < N → parseFieldDescriptor (T k).2.2.1 = some (ty0 k)) ∧ (∀ a, a < N → ∀ b, b < N → a ≠ b → (T a).2.1 ≠ (T b).2.1) ∧ k < N ∧ Cond.fieldLink own idx (T k).1 (T k).2.1 (T k).2.2.1 ∈ lw_g ∧
  ((T k).2.2.2 = false ∨ ((T k).2.2.2 = true ∧ mnm = "<init>" ∧ (T k).1 = own)) ∧ ((ty0 k = .int ∧ pz_tf ci k = 0) ∨ (ty0 k = .boolean ∧ pz_tf ci k = 0 ∧ d = 1) ∨ (ty0 k = .long ∧ pz_tf ci k = 1) ∨ (∃ n, ty0 k = .object n ∧ pz_tf ci k = 2) ∨ ∃ n, ty0 k = .array n ∧ pz_tf ci k = 2)
def pz_nwok (own : String) (idx ci N : Nat) : Prop := ∃ (C : String) (T : u_T) (ty0 : Nat → FieldType), pz_cls[ci]? = some (C, T, N) ∧ (∀ w ∈ u_ws C T N, w ∈ lw_g) ∧ (∀ k, k < N → parseFieldDescriptor (T k).2.2.1 = some (ty0 k)) ∧ (∀ k, k < N → (ty0 k = .int ∨ ty0 k = .boolean ∨ ty0 k = .long ∨ (∃ n, ty0 k = .object n) ∨ ∃ t, ty0 k = .array t) ∧ pz_tf ci k = pz_tt (ty0 k)) ∧ Cond.classLink own idx C ∈ lw_g ∧ Cond.instantiable C N ∈ lw_g ∧ Cond.initialized C ∈ lw_g
def pz_mth (own : String) (idx : Nat) (z : Int) : Prop := Cond.initialized "java/lang/Math" ∈ lw_g ∧ (
  (z = 2 ∧ Cond.methodLink own idx Lib.Math.max.name ∈ lw_g ∧ Cond.static Lib.Math.max.name ∈ lw_g ∧ Cond.code Lib.Math.max.name Lib.Math.max.code 2 (some .int) ∈ lw_g) ∨
  (z = 3 ∧ Cond.methodLink own idx Lib.Math.min.name ∈ lw_g ∧ Cond.static Lib.Math.min.name ∈ lw_g ∧ Cond.code Lib.Math.min.name Lib.Math.min.code 2 (some .int) ∈ lw_g) ∨
  (z = 4 ∧ Cond.methodLink own idx Lib.Math.abs.name ∈ lw_g ∧ Cond.static Lib.Math.abs.name ∈ lw_g ∧ Cond.code Lib.Math.abs.name Lib.Math.abs.code 1 (some .int) ∈ lw_g) ∨
  (z = 5 ∧ Cond.methodLink own idx Lib.MathLoose.max_long.x ∈ lw_g ∧ Cond.static Lib.MathLoose.max_long.x ∈ lw_g ∧ Cond.code Lib.MathLoose.max_long.x Lib.MathLoose.max_long.code 4 (some .long) ∈ lw_g) ∨
  (z = 6 ∧ Cond.methodLink own idx Lib.MathLoose.min_long.x ∈ lw_g ∧ Cond.static Lib.MathLoose.min_long.x ∈ lw_g ∧ Cond.code Lib.MathLoose.min_long.x Lib.MathLoose.min_long.code 4 (some .long) ∈ lw_g))
def pz_okE (mi : Nat → Option pz_I) (SP : Nat → Prop) (own mnm : String) (cc : ByteArray) (rt : Option FieldType) (pc : Nat) (e : pz_E) : Prop := match e with
  | (i, n, a, b, c, d, z) => decode cc pc = .ok (i, n) ∧ match i with
    | .iconst k => n = 1 ∧ k = z ∧ pz_okv (0, z)
    | .bipush k => n = 2 ∧ k = z ∧ -128 ≤ z ∧ z < 128
    | .sipush k => n = 3 ∧ k = z ∧ -32768 ≤ z ∧ z < 32768
    | .ldc i => n = 2 ∧ ∃ v : Int32, Cond.constant own i v ∈ lw_g ∧ v.toInt = z
    | .ldc_w i => n = 3 ∧ ∃ v : Int32, Cond.constant own i v ∈ lw_g ∧ v.toInt = z
    | .lconst k => n = 1 ∧ ((k : Nat) : Int) = z
    | .ldc2_w i => n = 3 ∧ ∃ v : Int64, Cond.constantLong own i v ∈ lw_g ∧ v.toInt = z
    | .aconst_null => n = 1
    | .iload_n j => n = 1 ∧ (j : Nat) = a
    | .lload_n j => n = 1 ∧ (j : Nat) = a
    | .aload_n j => n = 1 ∧ (j : Nat) = a
    | .istore_n j => n = 1 ∧ (j : Nat) = a
    | .lstore_n j => n = 1 ∧ (j : Nat) = a
    | .astore_n j => n = 1 ∧ (j : Nat) = a
    | .iload j => n = 2 ∧ j = a
    | .lload j => n = 2 ∧ j = a
    | .aload j => n = 2 ∧ j = a
    | .istore j => n = 2 ∧ j = a
    | .lstore j => n = 2 ∧ j = a
    | .astore j => n = 2 ∧ j = a
    | .iinc j k => n = 3 ∧ j = a ∧ k = z
    | .iadd | .isub | .imul | .iand | .ior | .ixor | .ishl | .ishr | .iushr | .idiv | .irem | .ineg | .ladd | .lsub | .lmul | .land | .lor | .ldiv | .lrem | .lcmp | .lushr | .lshl | .i2l | .l2i | .dup | .pop | .dup2 | .iaload | .laload | .caload | .iastore | .lastore | .arraylength => n = 1
    | .goto o => n = 3 ∧ (pc : Int) + o = (a : Int)
    | .ifCond _ o => n = 3 ∧ (pc : Int) + o = (a : Int)
    | .if_icmp _ o => n = 3 ∧ (pc : Int) + o = (a : Int)
    | .ifnull o => n = 3 ∧ (pc : Int) + o = (a : Int)
    | .ifnonnull o => n = 3 ∧ (pc : Int) + o = (a : Int)
    | .lookupswitch df ps => (ps.toList.zip (ps.toList.drop 1)).all (fun (a, next) => a.1 < next.1) = true ∧ ∀ x : Int, 0 ≤ (pc : Int) + Op.lookupswitch.offset ps.toList df x
    | .tableswitch df _ _ ofs => 0 ≤ (pc : Int) + df ∧ ∀ (k : Nat) (o : Int), ofs[k]? = some o → 0 ≤ (pc : Int) + o
    | .getfield idx => n = 3 ∧ pz_fl own idx a b ∧ c = pz_tf a b ∧ c < 3
    | .putfield idx => n = 3 ∧ pz_fw own mnm idx a b d ∧ c = pz_tf a b
    | .getstatic idx => n = 3 ∧ ∃ (k : Nat) (q : String × String), pz_snm[k]? = some q ∧ Cond.fieldLinkNest own idx "CatCourt" q.1 q.2 "CatCourt" ∈ lw_tbl ∧ z = ((4096 + k : Nat) : Int)
    | .aaload => n = 1 ∧ (a = 102 ∨ a = 103 ∨ a = 104)
    | .aastore => n = 1 ∧ ((a = 102 ∧ b = 3) ∨ (a = 103 ∧ b = 0))
    | .new idx => n = 3 ∧ pz_nwok own idx a b
    | .newarray at0 => n = 2 ∧ ((at0 = .int ∧ a = 100) ∨ (at0 = .long ∧ a = 101)) ∧ Cond.arrayClass (newarray.typeOf at0) ∈ lw_g
    | .anewarray idx => n = 3 ∧ ((a = 102 ∧ Cond.classLink own idx "CatCourt$Law" ∈ lw_g ∧ Cond.arrayOver (.object "CatCourt$Law") ∈ lw_tbl) ∨ (a = 103 ∧ Cond.classLink own idx "CatCourt$Court" ∈ lw_g ∧ Cond.arrayOver (.object "CatCourt$Court") ∈ lw_tbl))
    | .multianewarray idx k => n = 4 ∧ k = 2 ∧ Cond.classLink own idx ("[" ++ (FieldType.array .long).toString) ∈ lw_g ∧ Cond.arrayOver (.array .long) ∈ lw_tbl ∧ Cond.arrayClass .long ∈ lw_g
    | .ireturn => n = 1 ∧ ((rt = some .int) ∨ (rt = some .boolean ∧ a = 1))
    | .lreturn => n = 1 ∧ rt = some .long
    | .areturn => n = 1 ∧ ((∃ n, rt = some (.object n)) ∨ ∃ t, rt = some (.array t))
    | .return_ => n = 1 ∧ rt = none
    | .invokevirtual idx => n = 3 ∧ ∃ I : pz_I, mi a = some I ∧ pz_okI I ∧ I.2.2.2.2.1 = b ∧ I.2.2.2.2.2.1 = c ∧ I.2.2.2.2.2.2 = d ∧ Cond.instanceMethod I.1 ∈ lw_g ∧ Cond.selects I.1.cls I.1 I.1 ∈ lw_g ∧ Cond.methodLink own idx I.1 ∈ lw_g ∧ ∃ q : vw_C, pz_cls[z.toNat]? = some q ∧ q.1 = I.1.cls
    | .invokestatic idx => n = 3 ∧ ((z = 1 ∧ Cond.methodLink own idx arraycopyName ∈ lw_g ∧ Cond.native arraycopyName ∈ lw_g ∧ Cond.static arraycopyName ∈ lw_g ∧ Cond.initialized "java/lang/System" ∈ lw_g) ∨ (pz_mth own idx z) ∨ (z = 0 ∧ SP pc) ∨ (z = 0 ∧ ∃ I : pz_I, mi a = some I ∧ pz_okI I ∧ I.2.2.2.2.1 = b ∧ I.2.2.2.2.2.1 = c ∧ I.2.2.2.2.2.2 = d ∧ Cond.static I.1 ∈ lw_g ∧ (Cond.methodLink own idx I.1 ∈ lw_g ∨ ∃ host, Cond.methodLinkNest own idx I.1 host ∈ lw_tbl)))
    | .invokespecial idx => n = 3 ∧ ((z = 1 ∧ b = 0 ∧ Cond.methodLink own idx objectInit ∈ lw_g ∧ Cond.instanceMethod objectInit ∈ lw_g ∧ Cond.code objectInit ⟨#[0xb1]⟩ 1 none ∈ lw_g) ∨ (z = 0 ∧ ∃ I : pz_I, mi a = some I ∧ pz_okI I ∧ I.2.2.2.1 = none ∧ I.1.name = "<init>" ∧ I.2.2.2.2.1 = b ∧ I.2.2.2.2.2.1 = c ∧ I.2.2.2.2.2.2 = d ∧ Cond.instanceMethod I.1 ∈ lw_g ∧ (Cond.methodLink own idx I.1 ∈ lw_g ∨ ∃ host, Cond.methodLinkNest own idx I.1 host ∈ lw_tbl)))
    | _ => False
section SN12
variable {base : Nat} {stt : Nat → Nat} {cA : Nat → ClassId} {D : va_G} {ss : List (Nat × Nat)} {stc : Nat → Nat → Int}
variable {p : Program} {l : Launch} {e : Env} {R : Room} {s : State} {m : MethodId} {args : Array Value} {below : List Frame} {meth : Method} {c : Code} {Q : State → Prop} {cc : ByteArray} {own : String} {nL : Nat}
/-- what a call gives: the contracts, at a depth -/
def pz_Cs (base : Nat) (stt : Nat → Nat) (cA : Nat → ClassId) (D : va_G) (ss : List (Nat × Nat)) (stc : Nat → Nat → Int) (l : Launch) (mi : Nat → Option pz_I) (d : Nat) (C : Nat → List pz_V → pz_X → pz_A) : Prop :=
  ∀ (y : Nat) (I : pz_I) (as : List pz_V) (X : pz_X) (rv : Option pz_V) (Y : pz_X), mi y = some I → X.1.2.2.1 = 0 → X.1.2.2.2.1 = 0 → C y as X = some (rv, Y) → Met l I.1 (pz_ws I.1 I.2.1 I.2.2.1 I.2.2.2.1) (pz_rm d I) (pz_Pc base stt cA D ss stc as X) (pz_Qc base stt cA D ss stc rv Y) I.2.2.2.2.2.1 I.2.2.2.2.2.2 (pz_Z base)
/-- the way on behind an outcome -/
def pz_Ko (base : Nat) (stt : Nat → Nat) (cA : Nat → ClassId) (D : va_G) (ss : List (Nat × Nat)) (stc : Nat → Nat → Int) (p : Program) (l : Launch) (e : Env) (R : Room) (s : State) (m : MethodId) (args : Array Value) (below : List Frame) (meth : Method) (c : Code) (Q : State → Prop) (cc : ByteArray) (rt : Option FieldType) (nL pc n rc rs : Nat) (C : Nat → List pz_V → pz_X → pz_A) (ls : List pz_V) (X : pz_X) (o : pz_O) : Prop := match o with
  | .inl (ls', st', X') => pz_N base stt cA D ss stc p l e R s m args below meth c Q nL (pc + n) ls' st' X'
  | .inr (.inl (pc', ls', st', X')) => pz_N base stt cA D ss stc p l e R s m args below meth c Q nL pc' ls' st' X'
  | .inr (.inr (.inl q)) => q.2.1.2.2.1 ≤ rc → q.2.1.2.2.2.1 ≤ rs → pz_En base stt cA D ss stc p l e R s m args below meth c Q cc rt q
  | .inr (.inr (.inr (y, as, rest, mc, ms))) => ∃ (rv : Option pz_V) (Y : pz_X), C y as (pz_z X) = some (rv, Y) ∧ pz_N base stt cA D ss stc p l e R s m args below meth c Q nL (pc + 3) ls (rv.toList ++ rest) (pz_b X Y mc ms)
set_option maxHeartbeats 4000000 in
theorem pz_step {mi : Nat → Option pz_I} {SP : Nat → Prop} {rt : Option FieldType} {C : Nat → List pz_V → pz_X → pz_A} {rc rs dp pc : Nat} {en : pz_E} {ls st : List pz_V} {X : pz_X} {o : pz_O} (h : pz_cx base stt cA D ss stc p R s m args c cc own nL) (hE : pz_okE mi SP own meth.name cc rt pc en) (hC : pz_Cs base stt cA D ss stc l mi dp C) (hRf : dp + 1 ≤ R.frames) (hRl : 64 * (dp + 1) ≤ R.locals) (hrc : rc ≤ R.cells) (hrs : rs ≤ R.slots)
    (hSP : SP pc → ∀ (as rest : List pz_V) (ls : List pz_V) (X Y : pz_X) (rv : Option pz_V), C en.2.2.1 as (pz_z X) = some (rv, Y) → as.length = en.2.2.2.1 → pz_wt rest ≤ 8 → X.1.2.2.1 + en.2.2.2.2.1 ≤ R.cells → X.1.2.2.2.1 + en.2.2.2.2.2.1 ≤ R.slots → pz_N base stt cA D ss stc p l e R s m args below meth c Q nL (pc + 3) ls (rv.toList ++ rest) (pz_b X Y en.2.2.2.2.1 en.2.2.2.2.2.1) → pz_N base stt cA D ss stc p l e R s m args below meth c Q nL pc ls (as.reverse ++ rest) X)
    (ho : pz_stp pz_tf rc rs en pc ls st X = some o) (K : pz_Ko base stt cA D ss stc p l e R s m args below meth c Q cc rt nL pc en.2.1 rc rs C ls X o) : pz_N base stt cA D ss stc p l e R s m args below meth c Q nL pc ls st X := by
  obtain ⟨i, n, a, b, c9, d, z⟩ := en
  obtain ⟨hd, hE⟩ := hE
  match i, hd, hE, ho with
  | .iconst k, hd, hE, ho =>
    obtain ⟨rfl, rfl, h1⟩ := hE
    have eo := Option.some.inj ho
    subst eo
    exact sn_iconst h hd h1 K
  | .bipush k, hd, hE, ho =>
    obtain ⟨rfl, rfl, h1⟩ := hE
    have eo := Option.some.inj ho
    subst eo
    exact sn_bipush h hd h1 K
  | .sipush k, hd, hE, ho =>
    obtain ⟨rfl, rfl, h1⟩ := hE
    have eo := Option.some.inj ho
    subst eo
    exact sn_sipush h hd h1 K
  | .ldc k, hd, hE, ho =>
    obtain ⟨rfl, v, h1, rfl⟩ := hE
    have eo := Option.some.inj ho
    subst eo
    exact sn_ldc h hd h1 K
  | .ldc_w k, hd, hE, ho =>
    obtain ⟨rfl, v, h1, rfl⟩ := hE
    have eo := Option.some.inj ho
    subst eo
    exact sn_ldcw h hd h1 K
  | .ldc2_w k, hd, hE, ho =>
    obtain ⟨rfl, v, h1, rfl⟩ := hE
    have eo := Option.some.inj ho
    subst eo
    exact sn_ldc2 h hd h1 K
  | .lconst k, hd, hE, ho =>
    obtain ⟨rfl, rfl⟩ := hE
    have eo := Option.some.inj ho
    subst eo
    exact sn_lconst h hd K
  | .aconst_null, hd, hE, ho =>
    have hE : n = 1 := hE
    subst hE
    have eo := Option.some.inj ho
    subst eo
    exact sn_null h hd K
  | .iload_n j, hd, hE, ho =>
    obtain ⟨rfl, h1⟩ := hE
    obtain ⟨v, hv, hp1⟩ := pz_ld_i ho
    have eo := Option.some.inj hp1
    subst eo
    exact sn_iload_n h hd h1 hv K
  | .iload j, hd, hE, ho =>
    obtain ⟨rfl, rfl⟩ := hE
    obtain ⟨v, hv, hp1⟩ := pz_ld_i ho
    have eo := Option.some.inj hp1
    subst eo
    exact sn_iload h hd hv K
  | .lload_n j, hd, hE, ho =>
    obtain ⟨rfl, h1⟩ := hE
    obtain ⟨v, hv, hp1⟩ := pz_ld_i ho
    have eo := Option.some.inj hp1
    subst eo
    exact sn_lload_n h hd h1 hv K
  | .lload j, hd, hE, ho =>
    obtain ⟨rfl, rfl⟩ := hE
    obtain ⟨v, hv, hp1⟩ := pz_ld_i ho
    have eo := Option.some.inj hp1
    subst eo
    exact sn_lload h hd hv K
  | .aload_n j, hd, hE, ho =>
    obtain ⟨rfl, h1⟩ := hE
    obtain ⟨v, hv, hp1⟩ := pz_ld_i ho
    have eo := Option.some.inj hp1
    subst eo
    exact sn_aload_n h hd h1 hv K
  | .aload j, hd, hE, ho =>
    obtain ⟨rfl, rfl⟩ := hE
    obtain ⟨v, hv, hp1⟩ := pz_ld_i ho
    have eo := Option.some.inj hp1
    subst eo
    exact sn_aload h hd hv K
  | .istore_n j, hd, hE, ho =>
    obtain ⟨rfl, h1⟩ := hE
    obtain ⟨v, r, rfl, hp1⟩ := pz_u1_i ho
    obtain ⟨h2, hp2⟩ := pz_if_i hp1
    have eo := Option.some.inj hp2
    subst eo
    exact sn_istore_n h hd h1 h2 K
  | .istore j, hd, hE, ho =>
    obtain ⟨rfl, rfl⟩ := hE
    obtain ⟨v, r, rfl, hp1⟩ := pz_u1_i ho
    obtain ⟨h2, hp2⟩ := pz_if_i hp1
    have eo := Option.some.inj hp2
    subst eo
    exact sn_istore h hd h2 K
  | .astore_n j, hd, hE, ho =>
    obtain ⟨rfl, h1⟩ := hE
    obtain ⟨v, r, rfl, hp1⟩ := pz_r1_i ho
    obtain ⟨h2, hp2⟩ := pz_if_i hp1
    have eo := Option.some.inj hp2
    subst eo
    exact sn_astore_n h hd h1 h2 K
  | .astore j, hd, hE, ho =>
    obtain ⟨rfl, rfl⟩ := hE
    obtain ⟨v, r, rfl, hp1⟩ := pz_r1_i ho
    obtain ⟨h2, hp2⟩ := pz_if_i hp1
    have eo := Option.some.inj hp2
    subst eo
    exact sn_astore h hd h2 K
  | .lstore_n j, hd, hE, ho =>
    obtain ⟨rfl, h1⟩ := hE
    obtain ⟨v, r, rfl, hp1⟩ := pz_l1_i ho
    obtain ⟨h2, hp2⟩ := pz_if_i hp1
    have eo := Option.some.inj hp2
    subst eo
    exact sn_lstore_n h hd h1 h2 K
  | .lstore j, hd, hE, ho =>
    obtain ⟨rfl, rfl⟩ := hE
    obtain ⟨v, r, rfl, hp1⟩ := pz_l1_i ho
    obtain ⟨h2, hp2⟩ := pz_if_i hp1
    have eo := Option.some.inj hp2
    subst eo
    exact sn_lstore h hd h2 K
  | .iinc j k, hd, hE, ho =>
    obtain ⟨rfl, rfl, rfl⟩ := hE
    obtain ⟨v, hv, hp1⟩ := pz_ld_i ho
    have eo := Option.some.inj hp1
    subst eo
    exact sn_iinc h hd hv K
  | .iadd, hd, hE, ho =>
    have hE : n = 1 := hE
    subst hE
    obtain ⟨x, y, r, rfl, hp1⟩ := pz_u2_i ho
    have eo := Option.some.inj hp1
    subst eo
    exact sn_iadd h hd K
  | .isub, hd, hE, ho =>
    have hE : n = 1 := hE
    subst hE
    obtain ⟨x, y, r, rfl, hp1⟩ := pz_u2_i ho
    have eo := Option.some.inj hp1
    subst eo
    exact sn_isub h hd K
  | .imul, hd, hE, ho =>
    have hE : n = 1 := hE
    subst hE
    obtain ⟨x, y, r, rfl, hp1⟩ := pz_u2_i ho
    have eo := Option.some.inj hp1
    subst eo
    exact sn_imul h hd K
  | .iand, hd, hE, ho =>
    have hE : n = 1 := hE
    subst hE
    obtain ⟨x, y, r, rfl, hp1⟩ := pz_u2_i ho
    have eo := Option.some.inj hp1
    subst eo
    exact sn_iand h hd K
  | .ior, hd, hE, ho =>
    have hE : n = 1 := hE
    subst hE
    obtain ⟨x, y, r, rfl, hp1⟩ := pz_u2_i ho
    have eo := Option.some.inj hp1
    subst eo
    exact sn_ior h hd K
  | .ixor, hd, hE, ho =>
    have hE : n = 1 := hE
    subst hE
    obtain ⟨x, y, r, rfl, hp1⟩ := pz_u2_i ho
    have eo := Option.some.inj hp1
    subst eo
    exact sn_ixor h hd K
  | .ishl, hd, hE, ho =>
    have hE : n = 1 := hE
    subst hE
    obtain ⟨x, y, r, rfl, hp1⟩ := pz_u2_i ho
    have eo := Option.some.inj hp1
    subst eo
    exact sn_ishl h hd K
  | .ishr, hd, hE, ho =>
    have hE : n = 1 := hE
    subst hE
    obtain ⟨x, y, r, rfl, hp1⟩ := pz_u2_i ho
    have eo := Option.some.inj hp1
    subst eo
    exact sn_ishr h hd K
  | .iushr, hd, hE, ho =>
    have hE : n = 1 := hE
    subst hE
    obtain ⟨x, y, r, rfl, hp1⟩ := pz_u2_i ho
    have eo := Option.some.inj hp1
    subst eo
    exact sn_iushr h hd K
  | .idiv, hd, hE, ho =>
    have hE : n = 1 := hE
    subst hE
    obtain ⟨x, y, r, rfl, hp1⟩ := pz_u2_i ho
    obtain ⟨h1, hp2⟩ := pz_if_i hp1
    have eo := Option.some.inj hp2
    subst eo
    exact sn_idiv h hd h1 K
  | .irem, hd, hE, ho =>
    have hE : n = 1 := hE
    subst hE
    obtain ⟨x, y, r, rfl, hp1⟩ := pz_u2_i ho
    obtain ⟨h1, hp2⟩ := pz_if_i hp1
    have eo := Option.some.inj hp2
    subst eo
    exact sn_irem h hd h1 K
  | .ladd, hd, hE, ho =>
    have hE : n = 1 := hE
    subst hE
    obtain ⟨x, y, r, rfl, hp1⟩ := pz_l2_i ho
    have eo := Option.some.inj hp1
    subst eo
    exact sn_ladd h hd K
  | .lsub, hd, hE, ho =>
    have hE : n = 1 := hE
    subst hE
    obtain ⟨x, y, r, rfl, hp1⟩ := pz_l2_i ho
    have eo := Option.some.inj hp1
    subst eo
    exact sn_lsub h hd K
  | .lmul, hd, hE, ho =>
    have hE : n = 1 := hE
    subst hE
    obtain ⟨x, y, r, rfl, hp1⟩ := pz_l2_i ho
    have eo := Option.some.inj hp1
    subst eo
    exact sn_lmul h hd K
  | .land, hd, hE, ho =>
    have hE : n = 1 := hE
    subst hE
    obtain ⟨x, y, r, rfl, hp1⟩ := pz_l2_i ho
    have eo := Option.some.inj hp1
    subst eo
    exact sn_land h hd K
  | .lor, hd, hE, ho =>
    have hE : n = 1 := hE
    subst hE
    obtain ⟨x, y, r, rfl, hp1⟩ := pz_l2_i ho
    have eo := Option.some.inj hp1
    subst eo
    exact sn_lor h hd K
  | .lcmp, hd, hE, ho =>
    have hE : n = 1 := hE
    subst hE
    obtain ⟨x, y, r, rfl, hp1⟩ := pz_l2_i ho
    have eo := Option.some.inj hp1
    subst eo
    exact sn_lcmp h hd K
  | .ldiv, hd, hE, ho =>
    have hE : n = 1 := hE
    subst hE
    obtain ⟨x, y, r, rfl, hp1⟩ := pz_l2_i ho
    obtain ⟨h1, hp2⟩ := pz_if_i hp1
    have eo := Option.some.inj hp2
    subst eo
    exact sn_ldiv h hd h1 K
  | .lrem, hd, hE, ho =>
    have hE : n = 1 := hE
    subst hE
    obtain ⟨x, y, r, rfl, hp1⟩ := pz_l2_i ho
    obtain ⟨h1, hp2⟩ := pz_if_i hp1
    have eo := Option.some.inj hp2
    subst eo
    exact sn_lrem h hd h1 K
  | .lushr, hd, hE, ho =>
    have hE : n = 1 := hE
    subst hE
    obtain ⟨y, r0, rfl, hp1⟩ := pz_u1_i ho
    obtain ⟨x, r, rfl, hp2⟩ := pz_l1_i hp1
    have eo := Option.some.inj hp2
    subst eo
    exact sn_lushr h hd K
  | .lshl, hd, hE, ho =>
    have hE : n = 1 := hE
    subst hE
    obtain ⟨y, r0, rfl, hp1⟩ := pz_u1_i ho
    obtain ⟨x, r, rfl, hp2⟩ := pz_l1_i hp1
    have eo := Option.some.inj hp2
    subst eo
    exact sn_lshl h hd K
  | .ineg, hd, hE, ho =>
    have hE : n = 1 := hE
    subst hE
    obtain ⟨x, r, rfl, hp1⟩ := pz_u1_i ho
    have eo := Option.some.inj hp1
    subst eo
    exact sn_ineg h hd K
  | .i2l, hd, hE, ho =>
    have hE : n = 1 := hE
    subst hE
    obtain ⟨x, r, rfl, hp1⟩ := pz_u1_i ho
    have eo := Option.some.inj hp1
    subst eo
    exact sn_i2l h hd K
  | .l2i, hd, hE, ho =>
    have hE : n = 1 := hE
    subst hE
    obtain ⟨x, r, rfl, hp1⟩ := pz_l1_i ho
    have eo := Option.some.inj hp1
    subst eo
    exact sn_l2i h hd K
  | .dup, hd, hE, ho =>
    have hE : n = 1 := hE
    subst hE
    match st, ho with
    | v :: r, ho =>
      have ho : (if v.1 = 1 then none else some _) = some o := ho
      split at ho
      next => cases ho
      next hv =>
        have eo := Option.some.inj ho
        subst eo
        exact sn_dup h hd hv K
    | [], ho => cases ho
  | .pop, hd, hE, ho =>
    have hE : n = 1 := hE
    subst hE
    match st, ho with
    | v :: r, ho =>
      have ho : (if v.1 = 1 then none else some _) = some o := ho
      split at ho
      next => cases ho
      next hv =>
        have eo := Option.some.inj ho
        subst eo
        exact sn_pop h hd hv K
    | [], ho => cases ho
  | .dup2, hd, hE, ho =>
    have hE : n = 1 := hE
    subst hE
    match st, ho with
    | v :: w :: r, ho =>
      have ho : (if v.1 = 1 ∨ w.1 = 1 then none else some _) = some o := ho
      split at ho
      next => cases ho
      next hv =>
        have eo := Option.some.inj ho
        subst eo
        exact sn_dup2 h hd (fun q => hv (Or.inl q)) (fun q => hv (Or.inr q)) K
    | [], ho => cases ho
    | [_], ho => cases ho
  | .goto k, hd, hE, ho =>
    obtain ⟨rfl, h1⟩ := hE
    have eo := Option.some.inj ho
    subst eo
    exact sn_goto h hd h1 K
  | .ifCond .eq k, hd, hE, ho =>
    obtain ⟨rfl, h1⟩ := hE
    obtain ⟨x, r, rfl, hp1⟩ := pz_u1_i ho
    have hp1 : (if decide (x = 0) = true then pz_jp a ls r X else pz_nx ls r X) = some o := hp1
    by_cases hc : x = 0
    · rw [if_pos (decide_eq_true hc)] at hp1
      have eo := Option.some.inj hp1
      subst eo
      exact sn_if_eq h hd h1 (fun _ => K) (fun q => absurd hc q)
    · rw [if_neg (by simpa using hc)] at hp1
      have eo := Option.some.inj hp1
      subst eo
      exact sn_if_eq h hd h1 (fun q => absurd q hc) (fun _ => K)
  | .ifCond .ne k, hd, hE, ho =>
    obtain ⟨rfl, h1⟩ := hE
    obtain ⟨x, r, rfl, hp1⟩ := pz_u1_i ho
    have hp1 : (if decide (x ≠ 0) = true then pz_jp a ls r X else pz_nx ls r X) = some o := hp1
    by_cases hc : x ≠ 0
    · rw [if_pos (decide_eq_true hc)] at hp1
      have eo := Option.some.inj hp1
      subst eo
      exact sn_if_ne h hd h1 (fun _ => K) (fun q => absurd hc q)
    · rw [if_neg (by simpa using hc)] at hp1
      have eo := Option.some.inj hp1
      subst eo
      exact sn_if_ne h hd h1 (fun q => absurd q hc) (fun _ => K)
  | .ifCond .lt k, hd, hE, ho =>
    obtain ⟨rfl, h1⟩ := hE
    obtain ⟨x, r, rfl, hp1⟩ := pz_u1_i ho
    have hp1 : (if decide (x < 0) = true then pz_jp a ls r X else pz_nx ls r X) = some o := hp1
    by_cases hc : x < 0
    · rw [if_pos (decide_eq_true hc)] at hp1
      have eo := Option.some.inj hp1
      subst eo
      exact sn_if_lt h hd h1 (fun _ => K) (fun q => absurd hc q)
    · rw [if_neg (by simpa using hc)] at hp1
      have eo := Option.some.inj hp1
      subst eo
      exact sn_if_lt h hd h1 (fun q => absurd q hc) (fun _ => K)
  | .ifCond .ge k, hd, hE, ho =>
    obtain ⟨rfl, h1⟩ := hE
    obtain ⟨x, r, rfl, hp1⟩ := pz_u1_i ho
    have hp1 : (if decide (0 ≤ x) = true then pz_jp a ls r X else pz_nx ls r X) = some o := hp1
    by_cases hc : 0 ≤ x
    · rw [if_pos (decide_eq_true hc)] at hp1
      have eo := Option.some.inj hp1
      subst eo
      exact sn_if_ge h hd h1 (fun _ => K) (fun q => absurd hc q)
    · rw [if_neg (by simpa using hc)] at hp1
      have eo := Option.some.inj hp1
      subst eo
      exact sn_if_ge h hd h1 (fun q => absurd q hc) (fun _ => K)
  | .ifCond .gt k, hd, hE, ho =>
    obtain ⟨rfl, h1⟩ := hE
    obtain ⟨x, r, rfl, hp1⟩ := pz_u1_i ho
    have hp1 : (if decide (0 < x) = true then pz_jp a ls r X else pz_nx ls r X) = some o := hp1
    by_cases hc : 0 < x
    · rw [if_pos (decide_eq_true hc)] at hp1
      have eo := Option.some.inj hp1
      subst eo
      exact sn_if_gt h hd h1 (fun _ => K) (fun q => absurd hc q)
    · rw [if_neg (by simpa using hc)] at hp1
      have eo := Option.some.inj hp1
      subst eo
      exact sn_if_gt h hd h1 (fun q => absurd q hc) (fun _ => K)
  | .ifCond .le k, hd, hE, ho =>
    obtain ⟨rfl, h1⟩ := hE
    obtain ⟨x, r, rfl, hp1⟩ := pz_u1_i ho
    have hp1 : (if decide (x ≤ 0) = true then pz_jp a ls r X else pz_nx ls r X) = some o := hp1
    by_cases hc : x ≤ 0
    · rw [if_pos (decide_eq_true hc)] at hp1
      have eo := Option.some.inj hp1
      subst eo
      exact sn_if_le h hd h1 (fun _ => K) (fun q => absurd hc q)
    · rw [if_neg (by simpa using hc)] at hp1
      have eo := Option.some.inj hp1
      subst eo
      exact sn_if_le h hd h1 (fun q => absurd q hc) (fun _ => K)
  | .if_icmp .eq k, hd, hE, ho =>
    obtain ⟨rfl, h1⟩ := hE
    obtain ⟨x, y, r, rfl, hp1⟩ := pz_u2_i ho
    have hp1 : (if decide (x = y) = true then pz_jp a ls r X else pz_nx ls r X) = some o := hp1
    by_cases hc : x = y
    · rw [if_pos (decide_eq_true hc)] at hp1
      have eo := Option.some.inj hp1
      subst eo
      exact sn_ic_eq h hd h1 (fun _ => K) (fun q => absurd hc q)
    · rw [if_neg (by simpa using hc)] at hp1
      have eo := Option.some.inj hp1
      subst eo
      exact sn_ic_eq h hd h1 (fun q => absurd q hc) (fun _ => K)
  | .if_icmp .ne k, hd, hE, ho =>
    obtain ⟨rfl, h1⟩ := hE
    obtain ⟨x, y, r, rfl, hp1⟩ := pz_u2_i ho
    have hp1 : (if decide (x ≠ y) = true then pz_jp a ls r X else pz_nx ls r X) = some o := hp1
    by_cases hc : x ≠ y
    · rw [if_pos (decide_eq_true hc)] at hp1
      have eo := Option.some.inj hp1
      subst eo
      exact sn_ic_ne h hd h1 (fun _ => K) (fun q => absurd hc q)
    · rw [if_neg (by simpa using hc)] at hp1
      have eo := Option.some.inj hp1
      subst eo
      exact sn_ic_ne h hd h1 (fun q => absurd q hc) (fun _ => K)
  | .if_icmp .lt k, hd, hE, ho =>
    obtain ⟨rfl, h1⟩ := hE
    obtain ⟨x, y, r, rfl, hp1⟩ := pz_u2_i ho
    have hp1 : (if decide (x < y) = true then pz_jp a ls r X else pz_nx ls r X) = some o := hp1
    by_cases hc : x < y
    · rw [if_pos (decide_eq_true hc)] at hp1
      have eo := Option.some.inj hp1
      subst eo
      exact sn_ic_lt h hd h1 (fun _ => K) (fun q => absurd hc q)
    · rw [if_neg (by simpa using hc)] at hp1
      have eo := Option.some.inj hp1
      subst eo
      exact sn_ic_lt h hd h1 (fun q => absurd q hc) (fun _ => K)
  | .if_icmp .ge k, hd, hE, ho =>
    obtain ⟨rfl, h1⟩ := hE
    obtain ⟨x, y, r, rfl, hp1⟩ := pz_u2_i ho
    have hp1 : (if decide (y ≤ x) = true then pz_jp a ls r X else pz_nx ls r X) = some o := hp1
    by_cases hc : y ≤ x
    · rw [if_pos (decide_eq_true hc)] at hp1
      have eo := Option.some.inj hp1
      subst eo
      exact sn_ic_ge h hd h1 (fun _ => K) (fun q => absurd hc q)
    · rw [if_neg (by simpa using hc)] at hp1
      have eo := Option.some.inj hp1
      subst eo
      exact sn_ic_ge h hd h1 (fun q => absurd q hc) (fun _ => K)
  | .if_icmp .gt k, hd, hE, ho =>
    obtain ⟨rfl, h1⟩ := hE
    obtain ⟨x, y, r, rfl, hp1⟩ := pz_u2_i ho
    have hp1 : (if decide (y < x) = true then pz_jp a ls r X else pz_nx ls r X) = some o := hp1
    by_cases hc : y < x
    · rw [if_pos (decide_eq_true hc)] at hp1
      have eo := Option.some.inj hp1
      subst eo
      exact sn_ic_gt h hd h1 (fun _ => K) (fun q => absurd hc q)
    · rw [if_neg (by simpa using hc)] at hp1
      have eo := Option.some.inj hp1
      subst eo
      exact sn_ic_gt h hd h1 (fun q => absurd q hc) (fun _ => K)
  | .if_icmp .le k, hd, hE, ho =>
    obtain ⟨rfl, h1⟩ := hE
    obtain ⟨x, y, r, rfl, hp1⟩ := pz_u2_i ho
    have hp1 : (if decide (x ≤ y) = true then pz_jp a ls r X else pz_nx ls r X) = some o := hp1
    by_cases hc : x ≤ y
    · rw [if_pos (decide_eq_true hc)] at hp1
      have eo := Option.some.inj hp1
      subst eo
      exact sn_ic_le h hd h1 (fun _ => K) (fun q => absurd hc q)
    · rw [if_neg (by simpa using hc)] at hp1
      have eo := Option.some.inj hp1
      subst eo
      exact sn_ic_le h hd h1 (fun q => absurd q hc) (fun _ => K)
  | .ifnull k, hd, hE, ho =>
    obtain ⟨rfl, h1⟩ := hE
    obtain ⟨x, r, rfl, hp1⟩ := pz_r1_i ho
    by_cases hc : x < 0
    · have hp1 : (if x < 0 then _ else _) = some o := hp1
      rw [if_pos hc] at hp1
      have eo := Option.some.inj hp1
      subst eo
      exact sn_ifnull h hd h1 (fun _ => K) (fun q => absurd hc q)
    · have hp1 : (if x < 0 then _ else _) = some o := hp1
      rw [if_neg hc] at hp1
      have eo := Option.some.inj hp1
      subst eo
      exact sn_ifnull h hd h1 (fun q => absurd q hc) (fun _ => K)
  | .ifnonnull k, hd, hE, ho =>
    obtain ⟨rfl, h1⟩ := hE
    obtain ⟨x, r, rfl, hp1⟩ := pz_r1_i ho
    by_cases hc : x < 0
    · have hp1 : (if x < 0 then _ else _) = some o := hp1
      rw [if_pos hc] at hp1
      have eo := Option.some.inj hp1
      subst eo
      exact sn_ifnonnull h hd h1 (fun _ => K) (fun q => absurd hc q)
    · have hp1 : (if x < 0 then _ else _) = some o := hp1
      rw [if_neg hc] at hp1
      have eo := Option.some.inj hp1
      subst eo
      exact sn_ifnonnull h hd h1 (fun q => absurd q hc) (fun _ => K)
  | .lookupswitch df ps, hd, hE, ho =>
    obtain ⟨h1, h2⟩ := hE
    obtain ⟨x, r, rfl, hp1⟩ := pz_u1_i ho
    have eo := Option.some.inj hp1
    subst eo
    exact sn_lookup h hd h1 (h2 x) K
  | .tableswitch df lo hi ofs, hd, hE, ho =>
    obtain ⟨h1, h2⟩ := hE
    obtain ⟨x, r, rfl, hp1⟩ := pz_u1_i ho
    by_cases hc : x < lo ∨ hi < x
    · have hp1 : (if x < lo ∨ hi < x then _ else _) = some o := hp1
      rw [if_pos hc] at hp1
      have eo := Option.some.inj hp1
      subst eo
      exact sn_tableOut h hd h1 hc K
    · have hp1 : (if x < lo ∨ hi < x then _ else _) = some o := hp1
      rw [if_neg hc] at hp1
      cases hk : ofs[(x - lo).toNat]? with
      | none => rw [hk] at hp1; cases hp1
      | some k =>
        rw [hk] at hp1
        have eo := Option.some.inj hp1
        subst eo
        exact sn_tableIn h hd hc hk (h2 _ _ hk) K
  | .getfield idx, hd, hE, ho =>
    obtain ⟨rfl, ⟨C1, T, N, ty0, f1, f2, f3, f4, f5, f6⟩, rfl, h3⟩ := hE
    obtain ⟨x, r, rfl, hp1⟩ := pz_r1_i ho
    obtain ⟨N2, hs, hx, hj, hp2⟩ := pz_gf_i hp1
    have eo := Option.some.inj hp2
    subst eo
    intro H locs mls hR hS hl hs9
    have hN : N2 = N := by
      obtain ⟨x0, xq⟩ := pz_sh_heap hs hx
      rcases (hR.2.2.1 _ _ xq).1 with ⟨-, C2, T2, e2⟩ | ⟨e2, -⟩
      · have e3 := f1.symm.trans e2
        simp only [Option.some.injEq, Prod.mk.injEq] at e3
        exact e3.2.2.symm
      · have e2 : 100 ≤ a := e2
        have := pz_cls_lt f1
        omega
    subst hN
    exact sn_getfield h hd f1 f2 f5 f6 hs hx K h3 H locs mls hR hS hl hs9
  | .putfield idx, hd, hE, ho =>
    obtain ⟨rfl, ⟨C1, T, N, ty0, f1, f2, f3, f4, f5, f6, f7, f8⟩, rfl⟩ := hE
    obtain ⟨x, v, r, rfl, hp1⟩ := pz_fv_i ho
    obtain ⟨N2, hs, hx, hj, hp2⟩ := pz_gf_i hp1
    obtain ⟨hz, hp3⟩ := pz_if_i hp2
    have eo := Option.some.inj hp3
    subst eo
    intro H locs mls hR hS hl hs9
    have hN : N2 = N := by
      obtain ⟨x0, xq⟩ := pz_sh_heap hs hx
      rcases (hR.2.2.1 _ _ xq).1 with ⟨-, C2, T2, e2⟩ | ⟨e2, -⟩
      · have e3 := f1.symm.trans e2
        simp only [Option.some.injEq, Prod.mk.injEq] at e3
        exact e3.2.2.symm
      · have e2 : 100 ≤ a := e2
        have := pz_cls_lt f1
        omega
    subst hN
    refine sn_putfield h hd f1 f2 f3 f4 f5 f6 f7 ?_ hs hx K H locs mls hR hS hl hs9
    rcases f8 with ⟨e1, e2⟩ | ⟨e1, e2, e3⟩ | ⟨e1, e2⟩ | ⟨k, e1, e2⟩ | ⟨k, e1, e2⟩
    · rw [e1]; exact e2
    · rw [e1]; exact ⟨e2, hz e3⟩
    · rw [e1]; exact e2
    · rw [e1]; exact e2
    · rw [e1]; exact e2
  | .getstatic idx, hd, hE, ho =>
    obtain ⟨rfl, k, q, h1, h2, rfl⟩ := hE
    have eo := Option.some.inj ho
    subst eo
    exact sn_getstatic h hd h1 h2 K
  | .iaload, hd, hE, ho =>
    have hE : n = 1 := hE
    subst hE
    obtain ⟨x, j, r, rfl, hp1⟩ := pz_ai_i ho
    obtain ⟨q, k, hs, hq, hi, hp2⟩ := pz_al_i hp1
    have eo := Option.some.inj hp2
    subst eo
    intro H locs mls hR hS hl hs9
    rcases pz_kinds hR hs with ⟨hx, hk⟩ | ⟨hx, hk⟩
    · have e1 : q = 100 := by rcases hq with e | e <;> omega
      subst e1
      exact sn_iaload h hd hs hx hi K H locs mls hR hS hl hs9
    · obtain ⟨-, hk, -⟩ := h.2.2.2.2.2.2.1.2.1 _ _ hk
      have hk : q = 110 ∨ q = 112 := hk
      have e1 : q = 110 := by rcases hq with e | e <;> omega
      subst e1
      exact sn_ialoadS h hd hs hx hi K H locs mls hR hS hl hs9
  | .laload, hd, hE, ho =>
    have hE : n = 1 := hE
    subst hE
    obtain ⟨x, j, r, rfl, hp1⟩ := pz_ai_i ho
    obtain ⟨q, k, hs, hq, hi, hp2⟩ := pz_al_i hp1
    have eo := Option.some.inj hp2
    subst eo
    intro H locs mls hR hS hl hs9
    have e1 : q = 101 := by rcases hq with e | e <;> exact e
    subst e1
    rcases pz_kinds hR hs with ⟨hx, hk⟩ | ⟨hx, hk⟩
    · exact sn_laload h hd hs hx hi K H locs mls hR hS hl hs9
    · obtain ⟨-, hk, -⟩ := h.2.2.2.2.2.2.1.2.1 _ _ hk
      have hk : 101 = 110 ∨ 101 = 112 := hk
      omega
  | .caload, hd, hE, ho =>
    have hE : n = 1 := hE
    subst hE
    obtain ⟨x, j, r, rfl, hp1⟩ := pz_ai_i ho
    obtain ⟨q, k, hs, hq, hi, hp2⟩ := pz_al_i hp1
    have eo := Option.some.inj hp2
    subst eo
    intro H locs mls hR hS hl hs9
    have e1 : q = 112 := by rcases hq with e | e <;> exact e
    subst e1
    rcases pz_kinds hR hs with ⟨hx, hk⟩ | ⟨hx, hk⟩
    · exfalso
      have hk : 112 < 100 ∨ (100 ≤ 112 ∧ 112 ≤ 104) := hk
      omega
    · exact sn_caload h hd hs hx hi K H locs mls hR hS hl hs9
  | .aaload, hd, hE, ho =>
    obtain ⟨rfl, hk⟩ := hE
    obtain ⟨x, j, r, rfl, hp1⟩ := pz_ai_i ho
    obtain ⟨q, k, hs, hq, hi, hp2⟩ := pz_al_i hp1
    have eo := Option.some.inj hp2
    subst eo
    intro H locs mls hR hS hl hs9
    have e1 : q = a := by rcases hq with e | e <;> exact e
    subst e1
    rcases pz_kinds hR hs with ⟨hx, -⟩ | ⟨hx, h9⟩
    · rcases hk with rfl | rfl | rfl
      · exact sn_aaload (t0 := 2) (C := "CatCourt$Law") h hd (by decide) (Or.inl rfl) hs hx hi K H locs mls hR hS hl hs9
      · exact sn_aaload (t0 := 3) (C := "CatCourt$Court") h hd (by decide) (Or.inl rfl) hs hx hi K H locs mls hR hS hl hs9
      · exact sn_aaload (t0 := 4) (C := "") h hd (by decide) (Or.inr rfl) hs hx hi K H locs mls hR hS hl hs9
    · obtain ⟨-, h9, -⟩ := h.2.2.2.2.2.2.1.2.1 _ _ h9
      have h9 : q = 110 ∨ q = 112 := h9
      omega
  | .iastore, hd, hE, ho =>
    have hE : n = 1 := hE
    subst hE
    obtain ⟨x, j, v, r, rfl, hp1⟩ := pz_av_i ho
    obtain ⟨k, hs, hx, hi, hp2⟩ := pz_as_i hp1
    have eo := Option.some.inj hp2
    subst eo
    exact sn_iastore h hd hs hx hi K
  | .lastore, hd, hE, ho =>
    have hE : n = 1 := hE
    subst hE
    obtain ⟨x, j, v, r, rfl, hp1⟩ := pz_av_i ho
    obtain ⟨k, hs, hx, hi, hp2⟩ := pz_as_i hp1
    have eo := Option.some.inj hp2
    subst eo
    exact sn_lastore h hd hs hx hi K
  | .aastore, hd, hE, ho =>
    obtain ⟨rfl, hk⟩ := hE
    obtain ⟨x, j, v, r, rfl, hp1⟩ := pz_av_i ho
    obtain ⟨k, hs, hx, hi, hp2⟩ := pz_as_i hp1
    obtain ⟨N, hv, hv4, -, hp3⟩ := pz_gf_i hp2
    have eo := Option.some.inj hp3
    subst eo
    rcases hk with ⟨rfl, rfl⟩ | ⟨rfl, rfl⟩
    · exact sn_aastore (t0 := 2) (r := ("CatCourt$Law", T_3, 3)) h hd (by decide) rfl rfl hs hx hi hv hv4 K
    · exact sn_aastore (t0 := 3) (r := ("CatCourt$Court", T_0, 1)) h hd (by decide) rfl rfl hs hx hi hv hv4 K
  | .arraylength, hd, hE, ho =>
    have hE : n = 1 := hE
    subst hE
    obtain ⟨x, r, rfl, hp1⟩ := pz_r1_i ho
    obtain ⟨q, k, hs, hk, hp2⟩ := pz_ln_i hp1
    have eo := Option.some.inj hp2
    subst eo
    exact sn_alen h hd hs hk K
  | .new idx, hd, hE, ho =>
    obtain ⟨rfl, C1, T, ty0, f1, f2, f3, f4, f5, f6, f7⟩ := hE
    obtain ⟨⟨h1, h2, h3, h4⟩, hp1⟩ := pz_mk_i ho
    have eo := Option.some.inj hp1
    subst eo
    exact sn_new h hd f1 f2 f3 (fun k hk => by rw [pz_dflt (f4 k hk).1, ← (f4 k hk).2]) f5 f6 f7 (Nat.le_trans h1 hrc) (Nat.le_trans h2 hrs) h3 h4 K
  | .newarray at0, hd, hE, ho =>
    obtain ⟨rfl, h0, hw⟩ := hE
    obtain ⟨k, r, rfl, hp1⟩ := pz_u1_i ho
    obtain ⟨hk, hp2⟩ := pz_if_i hp1
    obtain ⟨⟨h1, h2, h3, h4⟩, hp3⟩ := pz_mk_i hp2
    have eo := Option.some.inj hp3
    subst eo
    rcases h0 with ⟨rfl, rfl⟩ | ⟨rfl, rfl⟩
    · exact sn_newarray (ty := .int) h hd (Or.inl ⟨rfl, rfl, rfl⟩) hw hk (Nat.le_trans h1 hrc) (Nat.le_trans h2 hrs) h3 h4 K
    · exact sn_newarray (ty := .long) h hd (Or.inr ⟨rfl, rfl, rfl⟩) hw hk (Nat.le_trans h1 hrc) (Nat.le_trans h2 hrs) h3 h4 K
  | .anewarray idx, hd, hE, ho =>
    obtain ⟨rfl, h0⟩ := hE
    obtain ⟨k, r, rfl, hp1⟩ := pz_u1_i ho
    obtain ⟨hk, hp2⟩ := pz_if_i hp1
    obtain ⟨⟨h1, h2, h3, h4⟩, hp3⟩ := pz_mk_i hp2
    have eo := Option.some.inj hp3
    subst eo
    rcases h0 with ⟨rfl, f1, f2⟩ | ⟨rfl, f1, f2⟩
    · exact sn_anewarray (t0 := 2) h hd ⟨by decide, by decide⟩ rfl f1 f2 hk (Nat.le_trans h1 hrc) (Nat.le_trans h2 hrs) h3 h4 K
    · exact sn_anewarray (t0 := 3) h hd ⟨by decide, by decide⟩ rfl f1 f2 hk (Nat.le_trans h1 hrc) (Nat.le_trans h2 hrs) h3 h4 K
  | .multianewarray idx k2, hd, hE, ho =>
    obtain ⟨rfl, rfl, f1, f2, f3⟩ := hE
    obtain ⟨x, y, r, rfl, hp1⟩ := pz_u2_i ho
    obtain ⟨⟨k1, k2, k3, k4⟩, hp2⟩ := pz_if_i hp1
    obtain ⟨⟨h1, h2, h3, h4⟩, hp3⟩ := pz_mk_i hp2
    have eo := Option.some.inj hp3
    subst eo
    exact sn_multi h hd f1 f2 f3 ⟨k1, k2⟩ ⟨k3, k4⟩ (Nat.le_trans h1 hrc) (Nat.le_trans h2 hrs) h3 h4 K
  | .ireturn, hd, hE, ho =>
    obtain ⟨rfl, h1⟩ := hE
    match st, ho with
    | [(0, v)], ho =>
      obtain ⟨hv, hp1⟩ := pz_if_i (show (if (a = 1 → v = 0 ∨ v = 1) ∧ X.1.2.2.1 ≤ rc ∧ X.1.2.2.2.1 ≤ rs then pz_rt (some (0, v)) X else none) = some o from ho)
      have eo := Option.some.inj hp1
      subst eo
      exact fun H locs mls hR hS hl hs => K hv.2.1 hv.2.2 H locs mls pc _ hR hS hs rfl ⟨hd, h1.imp id (fun q => ⟨q.1, hv.1 q.2⟩)⟩
    | [], hp1 => cases hp1
    | [(k + 1, v)], hp1 => cases hp1
    | _ :: _ :: _, hp1 =>
      simp only [pz_stp] at hp1
      cases hp1
  | .lreturn, hd, hE, ho =>
    obtain ⟨rfl, h1⟩ := hE
    have ho2 : ∃ v, st = [(1, v)] ∧ (X.1.2.2.1 ≤ rc ∧ X.1.2.2.2.1 ≤ rs) ∧ pz_rt (some (1, v)) X = some o := by
      simp only [pz_stp] at ho
      split at ho
      next => exact ⟨_, rfl, (pz_if_i ho).1, (pz_if_i ho).2⟩
      next => cases ho
    obtain ⟨v, rfl, hg, hp1⟩ := ho2
    have eo := Option.some.inj hp1
    subst eo
    exact fun H locs mls hR hS hl hs => K hg.1 hg.2 H locs mls pc _ hR hS hs rfl ⟨hd, h1⟩
  | .areturn, hd, hE, ho =>
    obtain ⟨rfl, h1⟩ := hE
    have ho2 : ∃ v, st = [(2, v)] ∧ (X.1.2.2.1 ≤ rc ∧ X.1.2.2.2.1 ≤ rs) ∧ pz_rt (some (2, v)) X = some o := by
      simp only [pz_stp] at ho
      split at ho
      next => exact ⟨_, rfl, (pz_if_i ho).1, (pz_if_i ho).2⟩
      next => cases ho
    obtain ⟨v, rfl, hg, hp1⟩ := ho2
    have eo := Option.some.inj hp1
    subst eo
    exact fun H locs mls hR hS hl hs => K hg.1 hg.2 H locs mls pc _ hR hS hs rfl ⟨hd, h1⟩
  | .return_, hd, hE, ho =>
    obtain ⟨rfl, h1⟩ := hE
    match st, ho with
    | [], ho =>
      obtain ⟨hg, ho⟩ := pz_if_i (show (if X.1.2.2.1 ≤ rc ∧ X.1.2.2.2.1 ≤ rs then pz_rt none X else none) = some o from ho)
      have eo := Option.some.inj ho
      subst eo
      exact fun H locs mls hR hS hl hs => K hg.1 hg.2 H locs mls pc _ hR hS hs rfl ⟨h1, hd⟩
    | _ :: _, ho => cases ho
  | .invokevirtual idx, hd, hE, ho =>
    obtain ⟨rfl, I, i1, ⟨j1, j2, j3, j4, j5, j6⟩, i2, i3, i4, i5, i6, i7, q, i8, i9⟩ := hE
    have ho2 : ∃ (r : Int) (as rest : List pz_V), st = as.reverse ++ (2, r) :: rest ∧ as.length = b ∧ pz_wt rest ≤ 8 ∧ (X.1.2.2.1 + c9 ≤ rc ∧ X.1.2.2.2.1 + d ≤ rs) ∧ pz_gf X r z.toNat 0 (fun _ => pz_cl a ((2, r) :: as) rest c9 d) = some o := by
      simp only [pz_stp] at ho
      split at ho
      next _ r rest hr =>
        obtain ⟨⟨⟨w1, w2⟩, w3⟩, ho⟩ := pz_if_i ho
        refine ⟨r, (st.take b).reverse, rest, ?_, by simp; omega, w1, w3, ho⟩
        rw [List.reverse_reverse, ← hr, List.take_append_drop]
      next => cases ho
    obtain ⟨r, as, rest, rfl, hlen, hw, ⟨w3, w4⟩, hp⟩ := ho2
    obtain ⟨N, hs, hx, -, hp⟩ := pz_gf_i hp
    have eo := Option.some.inj hp
    subst eo
    obtain ⟨rv, Y, hY, K⟩ := K
    subst i2
    subst i3
    subst i4
    exact sn_callV (rm := pz_rm dp I) h hd (hC a I _ _ rv Y i1 rfl rfl hY) rfl rfl ⟨by show dp + 1 ≤ _; exact hRf, by show 8 + (I.2.2.1 + 11) + 64 * dp ≤ _; omega⟩ (Nat.le_trans w3 hrc) (Nat.le_trans w4 hrs) j2 j3 i5 i6 i7 ⟨j4, j5, j6⟩ hlen hw hs hx i8 i9 K
  | .invokestatic idx, hd, hE, ho =>
    obtain ⟨rfl, hF⟩ := hE
    rcases hF with ⟨rfl, f1, f2, f3, f4⟩ | hF | hF
    · have ho2 : ∃ (n dp9 t sp s9 : Int) (rest : List pz_V) (n0 n1 : Nat), st = (0, n) :: (0, dp9) :: (2, t) :: (0, sp) :: (2, s9) :: rest ∧ pz_sh X s9 = some (100, n0) ∧ pz_sh X t = some (100, n1) ∧ (s9 < 4096 ∧ t < 4096 ∧ 0 ≤ n ∧ 0 ≤ dp9 ∧ 0 ≤ sp ∧ sp + n ≤ n0 ∧ dp9 + n ≤ n1 ∧ pz_wt rest ≤ 8) ∧ pz_nx ls rest (X.1, pz_cp X.2 s9.toNat t.toNat sp.toNat dp9.toNat n.toNat) = some o := by
        simp only [pz_stp, if_true] at ho
        split at ho
        next =>
          split at ho
          next e1 e2 =>
            obtain ⟨w, ho⟩ := pz_if_i ho
            exact ⟨_, _, _, _, _, _, _, _, rfl, e1, e2, w, ho⟩
          next => cases ho
        next => cases ho
      obtain ⟨n, dp9, t, sp, s9, rest, n0, n1, rfl, e1, e2, ⟨w1, w2, w3, w4, w5, w6, w7, w8⟩, hp⟩ := ho2
      have eo := Option.some.inj hp
      subst eo
      exact sn_copy h hd f1 f2 f3 f4 e1 e2 w1 w2 w3 w4 w5 w6 w7 w8 K
    · obtain ⟨hini, hF⟩ := hF
      rcases hF with ⟨rfl, f1, f2, f3⟩ | ⟨rfl, f1, f2, f3⟩ | ⟨rfl, f1, f2, f3⟩ | ⟨rfl, f1, f2, f3⟩ | ⟨rfl, f1, f2, f3⟩
      · have hq : pz_u2 st (fun x y r => if pz_wt r ≤ 8 ∧ X.1.2.2.1 ≤ rc ∧ X.1.2.2.2.1 ≤ rs then pz_nx ls ((0, max x y) :: r) X else none) = some o := by
          simp only [pz_stp] at ho
          rw [if_neg (by decide), if_pos trivial] at ho
          exact ho
        obtain ⟨x, y, r, rfl, hp⟩ := pz_u2_i hq
        obtain ⟨⟨w1, w2, w3⟩, hp⟩ := pz_if_i hp
        have eo := Option.some.inj hp
        subst eo
        exact sn_max h hd f1 f2 hini f3 w1 (Nat.le_trans w2 hrc) (Nat.le_trans w3 hrs) K
      · have hq : pz_u2 st (fun x y r => if pz_wt r ≤ 8 ∧ X.1.2.2.1 ≤ rc ∧ X.1.2.2.2.1 ≤ rs then pz_nx ls ((0, min x y) :: r) X else none) = some o := by
          simp only [pz_stp] at ho
          rw [if_neg (by decide), if_neg (by decide), if_pos trivial] at ho
          exact ho
        obtain ⟨x, y, r, rfl, hp⟩ := pz_u2_i hq
        obtain ⟨⟨w1, w2, w3⟩, hp⟩ := pz_if_i hp
        have eo := Option.some.inj hp
        subst eo
        exact sn_min h hd f1 f2 hini f3 w1 (Nat.le_trans w2 hrc) (Nat.le_trans w3 hrs) K
      · have hq : pz_u1 st (fun x r => if pz_wt r ≤ 8 ∧ X.1.2.2.1 ≤ rc ∧ X.1.2.2.2.1 ≤ rs then pz_nx ls ((0, if 0 ≤ x then x else pz_w32 (0 - x)) :: r) X else none) = some o := by
          simp only [pz_stp] at ho
          rw [if_neg (by decide), if_neg (by decide), if_neg (by decide), if_pos trivial] at ho
          exact ho
        obtain ⟨x, r, rfl, hp⟩ := pz_u1_i hq
        obtain ⟨⟨w1, w2, w3⟩, hp⟩ := pz_if_i hp
        have eo := Option.some.inj hp
        subst eo
        exact sn_abs h hd f1 f2 hini f3 w1 (Nat.le_trans w2 hrc) (Nat.le_trans w3 hrs) K
      · have hq : pz_l2 st (fun x y r => if pz_wt r ≤ 8 ∧ X.1.2.2.1 ≤ rc ∧ X.1.2.2.2.1 ≤ rs then pz_nx ls ((1, max x y) :: r) X else none) = some o := by
          simp only [pz_stp] at ho
          rw [if_neg (by decide), if_neg (by decide), if_neg (by decide), if_neg (by decide), if_pos trivial] at ho
          exact ho
        obtain ⟨x, y, r, rfl, hp⟩ := pz_l2_i hq
        obtain ⟨⟨w1, w2, w3⟩, hp⟩ := pz_if_i hp
        have eo := Option.some.inj hp
        subst eo
        exact sn_maxJ h hd f1 f2 hini f3 w1 (Nat.le_trans w2 hrc) (Nat.le_trans w3 hrs) K
      · have hq : pz_l2 st (fun x y r => if pz_wt r ≤ 8 ∧ X.1.2.2.1 ≤ rc ∧ X.1.2.2.2.1 ≤ rs then pz_nx ls ((1, min x y) :: r) X else none) = some o := by
          simp only [pz_stp] at ho
          rw [if_neg (by decide), if_neg (by decide), if_neg (by decide), if_neg (by decide), if_neg (by decide), if_pos trivial] at ho
          exact ho
        obtain ⟨x, y, r, rfl, hp⟩ := pz_l2_i hq
        obtain ⟨⟨w1, w2, w3⟩, hp⟩ := pz_if_i hp
        have eo := Option.some.inj hp
        subst eo
        exact sn_minJ h hd f1 f2 hini f3 w1 (Nat.le_trans w2 hrc) (Nat.le_trans w3 hrs) K
    · have hz : z = 0 := by rcases hF with q | q <;> exact q.1
      subst hz
      have ho2 : ∃ (as rest : List pz_V), st = as.reverse ++ rest ∧ as.length = b ∧ pz_wt rest ≤ 8 ∧ (X.1.2.2.1 + c9 ≤ rc ∧ X.1.2.2.2.1 + d ≤ rs) ∧ pz_cl a as rest c9 d = some o := by
        simp only [pz_stp] at ho
        rw [if_neg (by decide), if_neg (by decide), if_neg (by decide), if_neg (by decide), if_neg (by decide), if_neg (by decide)] at ho
        obtain ⟨⟨⟨w1, w2⟩, w3⟩, ho⟩ := pz_if_i ho
        refine ⟨(st.take b).reverse, st.drop b, ?_, by simp; omega, w1, w3, ho⟩
        rw [List.reverse_reverse, List.take_append_drop]
      obtain ⟨as, rest, rfl, hlen, hw, ⟨w3, w4⟩, hp⟩ := ho2
      have eo := Option.some.inj hp
      subst eo
      obtain ⟨rv, Y, hY, K⟩ := K
      rcases hF with ⟨-, hsp⟩ | ⟨-, I, i1, ⟨j1, j2, j3, j4, j5, j6⟩, i2, i3, i4, i5, i6⟩
      · exact hSP hsp as rest ls X Y rv hY hlen hw (Nat.le_trans w3 hrc) (Nat.le_trans w4 hrs) K
      · subst i2
        subst i3
        subst i4
        exact sn_callS (rm := pz_rm dp I) h hd (hC a I _ _ rv Y i1 rfl rfl hY) rfl rfl ⟨by show dp + 1 ≤ _; exact hRf, by show 8 + (I.2.2.1 + 11) + 64 * dp ≤ _; omega⟩ (Nat.le_trans w3 hrc) (Nat.le_trans w4 hrs) j2 j3 i5 i6 ⟨j4, j5, j6⟩ hlen hw K
  | .invokespecial idx, hd, hE, ho =>
    obtain ⟨rfl, hF⟩ := hE
    have ho2 : ∃ (r : Int) (as rest : List pz_V), st = as.reverse ++ (2, r) :: rest ∧ as.length = b ∧ pz_wt rest ≤ 8 ∧ (X.1.2.2.1 + c9 ≤ rc ∧ X.1.2.2.2.1 + d ≤ rs) ∧ (0 ≤ r ∧ r < 4096) ∧ (if z = 1 then pz_nx ls rest X else pz_cl a ((2, r) :: as) rest c9 d) = some o := by
      simp only [pz_stp] at ho
      split at ho
      next _ r rest hr =>
        obtain ⟨⟨⟨⟨w1, w2⟩, w3⟩, w5⟩, ho⟩ := pz_if_i ho
        refine ⟨r, (st.take b).reverse, rest, ?_, by simp; omega, w1, w3, w5, ho⟩
        rw [List.reverse_reverse, ← hr, List.take_append_drop]
      next => cases ho
    obtain ⟨r, as, rest, rfl, hlen, hw, ⟨w3, w4⟩, ⟨w5, w6⟩, hp⟩ := ho2
    rcases hF with ⟨rfl, rfl, f1, f2, f3⟩ | ⟨rfl, I, i1, ⟨j1, j2, j3, j4, j5, j6⟩, k1, k2, i2, i3, i4, i5, i6⟩
    · rw [if_pos rfl] at hp
      have eo := Option.some.inj hp
      subst eo
      have has : as = [] := List.length_eq_zero_iff.mp hlen
      subst has
      exact sn_objInit h hd f1 f2 f3 hw w5 K
    · rw [if_neg (by decide)] at hp
      have eo := Option.some.inj hp
      subst eo
      obtain ⟨rv, Y, hY, K⟩ := K
      subst i2
      subst i3
      subst i4
      have hM := hC a I _ _ rv Y i1 rfl rfl hY
      rw [k1] at hM j2
      exact sn_callI (ci := 0) (N := 0) (rm := pz_rm dp I) h hd hM rfl rfl ⟨by show dp + 1 ≤ _; exact hRf, by show 8 + (I.2.2.1 + 11) + 64 * dp ≤ _; omega⟩ (Nat.le_trans w3 hrc) (Nat.le_trans w4 hrs) j2 j3 i5 i6 k2 ⟨j4, j5, j6⟩ hlen hw w5 w6 K
  | .athrow, hd, hE, ho => exact hE.elim
  | .baload, hd, hE, ho => exact hE.elim
  | .bastore, hd, hE, ho => exact hE.elim
  | .castore, hd, hE, ho => exact hE.elim
  | .checkcast _, hd, hE, ho => exact hE.elim
  | .d2f, hd, hE, ho => exact hE.elim
  | .d2i, hd, hE, ho => exact hE.elim
  | .d2l, hd, hE, ho => exact hE.elim
  | .dadd, hd, hE, ho => exact hE.elim
  | .daload, hd, hE, ho => exact hE.elim
  | .dastore, hd, hE, ho => exact hE.elim
  | .dcmp _, hd, hE, ho => exact hE.elim
  | .dconst _, hd, hE, ho => exact hE.elim
  | .ddiv, hd, hE, ho => exact hE.elim
  | .dload _, hd, hE, ho => exact hE.elim
  | .dload_n _, hd, hE, ho => exact hE.elim
  | .dmul, hd, hE, ho => exact hE.elim
  | .dneg, hd, hE, ho => exact hE.elim
  | .drem, hd, hE, ho => exact hE.elim
  | .dreturn, hd, hE, ho => exact hE.elim
  | .dstore _, hd, hE, ho => exact hE.elim
  | .dstore_n _, hd, hE, ho => exact hE.elim
  | .dsub, hd, hE, ho => exact hE.elim
  | .dup_x1, hd, hE, ho => exact hE.elim
  | .dup_x2, hd, hE, ho => exact hE.elim
  | .dup2_x1, hd, hE, ho => exact hE.elim
  | .dup2_x2, hd, hE, ho => exact hE.elim
  | .f2d, hd, hE, ho => exact hE.elim
  | .f2i, hd, hE, ho => exact hE.elim
  | .f2l, hd, hE, ho => exact hE.elim
  | .fadd, hd, hE, ho => exact hE.elim
  | .faload, hd, hE, ho => exact hE.elim
  | .fastore, hd, hE, ho => exact hE.elim
  | .fcmp _, hd, hE, ho => exact hE.elim
  | .fconst _, hd, hE, ho => exact hE.elim
  | .fdiv, hd, hE, ho => exact hE.elim
  | .fload _, hd, hE, ho => exact hE.elim
  | .fload_n _, hd, hE, ho => exact hE.elim
  | .fmul, hd, hE, ho => exact hE.elim
  | .fneg, hd, hE, ho => exact hE.elim
  | .frem, hd, hE, ho => exact hE.elim
  | .freturn, hd, hE, ho => exact hE.elim
  | .fstore _, hd, hE, ho => exact hE.elim
  | .fstore_n _, hd, hE, ho => exact hE.elim
  | .fsub, hd, hE, ho => exact hE.elim
  | .goto_w _, hd, hE, ho => exact hE.elim
  | .i2b, hd, hE, ho => exact hE.elim
  | .i2c, hd, hE, ho => exact hE.elim
  | .i2d, hd, hE, ho => exact hE.elim
  | .i2f, hd, hE, ho => exact hE.elim
  | .i2s, hd, hE, ho => exact hE.elim
  | .if_acmp _ _, hd, hE, ho => exact hE.elim
  | .instanceof _, hd, hE, ho => exact hE.elim
  | .invokedynamic _, hd, hE, ho => exact hE.elim
  | .invokeinterface _ _, hd, hE, ho => exact hE.elim
  | .jsr _, hd, hE, ho => exact hE.elim
  | .jsr_w _, hd, hE, ho => exact hE.elim
  | .l2d, hd, hE, ho => exact hE.elim
  | .l2f, hd, hE, ho => exact hE.elim
  | .lneg, hd, hE, ho => exact hE.elim
  | .lshr, hd, hE, ho => exact hE.elim
  | .lxor, hd, hE, ho => exact hE.elim
  | .monitorenter, hd, hE, ho => exact hE.elim
  | .monitorexit, hd, hE, ho => exact hE.elim
  | .nop, hd, hE, ho => exact hE.elim
  | .pop2, hd, hE, ho => exact hE.elim
  | .putstatic _, hd, hE, ho => exact hE.elim
  | .ret _, hd, hE, ho => exact hE.elim
  | .saload, hd, hE, ho => exact hE.elim
  | .sastore, hd, hE, ho => exact hE.elim
  | .swap, hd, hE, ho => exact hE.elim
end SN12
