/-! THE PROGRAM'S ENTRIES ARE CHECKED BY PROGRAM: numbers by the kernel, links by tables -/
/-- the tables of links: each entry by the class's number among the callers -/
abbrev pz_Tb : Type := List (Nat × Nat × Nat × Nat × Nat)
theorem pz_off_ge {df pc x : Int} (h0 : 0 ≤ pc + df) : ∀ ps : List (Int × Int), (∀ q ∈ ps, 0 ≤ pc + q.2) → 0 ≤ pc + Op.lookupswitch.offset ps df x
  | [], _ => h0
  | (a, b) :: r, h => by
    have h1 : 0 ≤ pc + b := h (a, b) List.mem_cons_self
    have h2 := pz_off_ge (x := x) h0 r (fun q hq => h q (List.mem_cons_of_mem _ hq))
    unfold Op.lookupswitch.offset
    split
    · exact h1
    · exact h2
def pz_ckE (gf pf pfi ki kl gs nw an iv is ii mt : pz_Tb) (oc oo mu : List Nat) (ow : Nat) (ini : Bool) (rk : Nat) (cc : ByteArray) (pc : Nat) (e : pz_E) : Bool := match e with
  | (i, n, a, b, c, d, z) => decide (decode cc pc = .ok (i, n)) && match i with
    | .iconst k => n == 1 && decide (k = z) && decide (-2147483648 ≤ z ∧ z < 2147483648)
    | .bipush k => n == 2 && decide (k = z) && decide (-128 ≤ z ∧ z < 128)
    | .sipush k => n == 3 && decide (k = z) && decide (-32768 ≤ z ∧ z < 32768)
    | .ldc i => n == 2 && ki.contains (ow, i, z.toNat, (-z).toNat, 0)
    | .ldc_w i => n == 3 && ki.contains (ow, i, z.toNat, (-z).toNat, 0)
    | .lconst k => n == 1 && decide (((k : Nat) : Int) = z)
    | .ldc2_w i => n == 3 && kl.contains (ow, i, z.toNat, (-z).toNat, 0)
    | .aconst_null => n == 1
    | .iload_n j => n == 1 && (j : Nat) == a
    | .lload_n j => n == 1 && (j : Nat) == a
    | .aload_n j => n == 1 && (j : Nat) == a
    | .istore_n j => n == 1 && (j : Nat) == a
    | .lstore_n j => n == 1 && (j : Nat) == a
    | .astore_n j => n == 1 && (j : Nat) == a
    | .iload j => n == 2 && j == a
    | .lload j => n == 2 && j == a
    | .aload j => n == 2 && j == a
    | .istore j => n == 2 && j == a
    | .lstore j => n == 2 && j == a
    | .astore j => n == 2 && j == a
    | .iinc j k => n == 3 && j == a && decide (k = z)
    | .iadd | .isub | .imul | .iand | .ior | .ixor | .ishl | .ishr | .iushr | .idiv | .irem | .ineg | .ladd | .lsub | .lmul | .land | .lor | .ldiv | .lrem | .lcmp | .lushr | .lshl | .i2l | .l2i | .dup | .pop | .dup2 | .iaload | .laload | .caload | .iastore | .lastore | .arraylength => n == 1
    | .goto o => n == 3 && decide ((pc : Int) + o = (a : Int))
    | .ifCond _ o => n == 3 && decide ((pc : Int) + o = (a : Int))
    | .if_icmp _ o => n == 3 && decide ((pc : Int) + o = (a : Int))
    | .ifnull o => n == 3 && decide ((pc : Int) + o = (a : Int))
    | .ifnonnull o => n == 3 && decide ((pc : Int) + o = (a : Int))
    | .lookupswitch df ps => (ps.toList.zip (ps.toList.drop 1)).all (fun (a, next) => a.1 < next.1) && decide (0 ≤ (pc : Int) + df) && ps.toList.all (fun q => decide (0 ≤ (pc : Int) + q.2))
    | .tableswitch df _ _ ofs => decide (0 ≤ (pc : Int) + df) && ofs.toList.all (fun o => decide (0 ≤ (pc : Int) + o))
    | .getfield idx => n == 3 && gf.contains (ow, idx, a, b, c)
    | .putfield idx => n == 3 && decide (d < 10) && (pf.contains (ow, idx, a, b, 10 * c + d) || (ini && pfi.contains (ow, idx, a, b, 10 * c + d)))
    | .getstatic idx => n == 3 && decide (4096 ≤ z) && gs.contains (ow, idx, z.toNat - 4096, 0, 0)
    | .aaload => n == 1 && (a == 102 || a == 103 || a == 104)
    | .aastore => n == 1 && ((a == 102 && b == 3) || (a == 103 && b == 0))
    | .new idx => n == 3 && nw.contains (ow, idx, a, b, 0)
    | .newarray .int => n == 2 && a == 100
    | .newarray .long => n == 2 && a == 101
    | .anewarray idx => n == 3 && an.contains (ow, idx, a, 0, 0)
    | .multianewarray idx k => n == 4 && k == 2 && decide (idx < 1000) && mu.contains (1000 * ow + idx)
    | .ireturn => n == 1 && (rk == 0 || (rk == 1 && a == 1))
    | .lreturn => n == 1 && rk == 2
    | .areturn => n == 1 && rk == 3
    | .return_ => n == 1 && rk == 4
    | .invokevirtual idx => n == 3 && c == 0 && d == 0 && decide (0 ≤ z) && iv.contains (ow, idx, a, b, z.toNat)
    | .invokestatic idx => n == 3 && decide (idx < 1000) && ((decide (z = 1) && oc.contains (1000 * ow + idx)) || (decide (2 ≤ z) && mt.contains (ow, idx, z.toNat, 0, 0)) || (decide (z = 0) && c == 0 && d == 0 && is.contains (ow, idx, a, b, 0)))
    | .invokespecial idx => n == 3 && decide (idx < 1000) && ((decide (z = 1) && b == 0 && oo.contains (1000 * ow + idx)) || (decide (z = 0) && ii.contains (ow, idx, a, b, 100000 * c + d) && decide (d < 100000)))
    | _ => false
/-- what the tables of links promise -/
def pz_tok (mi : Nat → Option pz_I) (on : Nat → String) (gf pf pfi ki kl gs nw an iv is ii mt : pz_Tb) (oc oo mu : List Nat) : Prop :=
  (∀ q ∈ gf, pz_fl (on q.1) q.2.1 q.2.2.1 q.2.2.2.1 ∧ q.2.2.2.2 = pz_tf q.2.2.1 q.2.2.2.1 ∧ q.2.2.2.2 < 3) ∧
  (∀ q ∈ pf, ∃ c d, q.2.2.2.2 = 10 * c + d ∧ d < 10 ∧ c = pz_tf q.2.2.1 q.2.2.2.1 ∧ ∀ mnm, pz_fw (on q.1) mnm q.2.1 q.2.2.1 q.2.2.2.1 d) ∧
  (∀ q ∈ pfi, ∃ c d, q.2.2.2.2 = 10 * c + d ∧ d < 10 ∧ c = pz_tf q.2.2.1 q.2.2.2.1 ∧ pz_fw (on q.1) "<init>" q.2.1 q.2.2.1 q.2.2.2.1 d) ∧
  (∀ q ∈ ki, ∃ v : Int32, Cond.constant (on q.1) q.2.1 v ∈ lw_g ∧ v.toInt = (q.2.2.1 : Int) - (q.2.2.2.1 : Int)) ∧
  (∀ q ∈ kl, ∃ v : Int64, Cond.constantLong (on q.1) q.2.1 v ∈ lw_g ∧ v.toInt = (q.2.2.1 : Int) - (q.2.2.2.1 : Int)) ∧
  (∀ q ∈ gs, ∃ w : String × String, pz_snm[q.2.2.1]? = some w ∧ Cond.fieldLinkNest (on q.1) q.2.1 "CatCourt" w.1 w.2 "CatCourt" ∈ lw_tbl) ∧
  (∀ q ∈ nw, pz_nwok (on q.1) q.2.1 q.2.2.1 q.2.2.2.1) ∧
  (∀ q ∈ an, (q.2.2.1 = 102 ∧ Cond.classLink (on q.1) q.2.1 "CatCourt$Law" ∈ lw_g ∧ Cond.arrayOver (.object "CatCourt$Law") ∈ lw_tbl) ∨ (q.2.2.1 = 103 ∧ Cond.classLink (on q.1) q.2.1 "CatCourt$Court" ∈ lw_g ∧ Cond.arrayOver (.object "CatCourt$Court") ∈ lw_tbl)) ∧
  (∀ q ∈ iv, ∃ I : pz_I, mi q.2.2.1 = some I ∧ pz_okI I ∧ I.2.2.2.2.1 = q.2.2.2.1 ∧ I.2.2.2.2.2.1 = 0 ∧ I.2.2.2.2.2.2 = 0 ∧ Cond.instanceMethod I.1 ∈ lw_g ∧ Cond.selects I.1.cls I.1 I.1 ∈ lw_g ∧ Cond.methodLink (on q.1) q.2.1 I.1 ∈ lw_g ∧ ∃ w : vw_C, pz_cls[q.2.2.2.2]? = some w ∧ w.1 = I.1.cls) ∧
  (∀ q ∈ is, ∃ I : pz_I, mi q.2.2.1 = some I ∧ pz_okI I ∧ I.2.2.2.2.1 = q.2.2.2.1 ∧ I.2.2.2.2.2.1 = 0 ∧ I.2.2.2.2.2.2 = 0 ∧ Cond.static I.1 ∈ lw_g ∧ (Cond.methodLink (on q.1) q.2.1 I.1 ∈ lw_g ∨ ∃ host, Cond.methodLinkNest (on q.1) q.2.1 I.1 host ∈ lw_tbl)) ∧
  (∀ q ∈ ii, ∃ (I : pz_I) (c d : Nat), q.2.2.2.2 = 100000 * c + d ∧ d < 100000 ∧ mi q.2.2.1 = some I ∧ pz_okI I ∧ I.2.2.2.1 = none ∧ I.1.name = "<init>" ∧ I.2.2.2.2.1 = q.2.2.2.1 ∧ I.2.2.2.2.2.1 = c ∧ I.2.2.2.2.2.2 = d ∧ Cond.instanceMethod I.1 ∈ lw_g ∧ (Cond.methodLink (on q.1) q.2.1 I.1 ∈ lw_g ∨ ∃ host, Cond.methodLinkNest (on q.1) q.2.1 I.1 host ∈ lw_tbl)) ∧
  (∀ q ∈ mt, pz_mth (on q.1) q.2.1 (q.2.2.1 : Int)) ∧
  (∀ w i, 1000 * w + i ∈ oc → i < 1000 → Cond.methodLink (on w) i arraycopyName ∈ lw_g) ∧ (∀ w i, 1000 * w + i ∈ oo → i < 1000 → Cond.methodLink (on w) i objectInit ∈ lw_g) ∧
  (∀ w i, 1000 * w + i ∈ mu → i < 1000 → Cond.classLink (on w) i ("[" ++ (FieldType.array .long).toString) ∈ lw_g) ∧
  (Cond.native arraycopyName ∈ lw_g ∧ Cond.static arraycopyName ∈ lw_g ∧ Cond.initialized "java/lang/System" ∈ lw_g) ∧ (Cond.instanceMethod objectInit ∈ lw_g ∧ Cond.code objectInit ⟨#[0xb1]⟩ 1 none ∈ lw_g) ∧ (Cond.arrayOver (.array .long) ∈ lw_tbl ∧ Cond.arrayClass .long ∈ lw_g ∧ Cond.arrayClass .int ∈ lw_g)
def pz_ckL (gf pf pfi ki kl gs nw an iv is ii mt : pz_Tb) (oc oo mu : List Nat) (ow : Nat) (ini : Bool) (rk : Nat) (cc : ByteArray) : Nat → List pz_E → Bool
  | _, [] => true
  | pc, e :: r => pz_ckE gf pf pfi ki kl gs nw an iv is ii mt oc oo mu ow ini rk cc pc e && pz_ckL gf pf pfi ki kl gs nw an iv is ii mt oc oo mu ow ini rk cc (pc + e.2.1) r
