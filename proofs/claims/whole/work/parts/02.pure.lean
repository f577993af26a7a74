/-! THE PURE MACHINE: values are a tag (0 int, 1 long, 2 reference, 9 unset) and a whole number; the memory is cell -> place -> number; a reference is a cell's number, null is -1; cells from 4096 on are the static arrays and the script, which nobody writes. -/
abbrev pz_V : Type := Nat × Int
abbrev pz_G : Type := List (Nat × Nat) × List (Nat × Nat) × Nat × Nat × Nat
abbrev pz_M : Type := Nat → Nat → Int
abbrev pz_X : Type := pz_G × pz_M
abbrev pz_E : Type := Instr × Nat × Nat × Nat × Nat × Nat × Int
abbrev pz_O : Type := (List pz_V × List pz_V × pz_X) ⊕ (Nat × List pz_V × List pz_V × pz_X) ⊕ (Option pz_V × pz_X) ⊕ (Nat × List pz_V × List pz_V × Nat × Nat)
abbrev pz_A : Type := Option (Option pz_V × pz_X)
def pz_w32 (z : Int) : Int := (Int32.ofInt z).toInt
def pz_w64 (z : Int) : Int := (Int64.ofInt z).toInt
def pz_and (a b : Int) : Int := (Int32.ofInt a &&& Int32.ofInt b).toInt
def pz_or (a b : Int) : Int := (Int32.ofInt a ||| Int32.ofInt b).toInt
def pz_xor (a b : Int) : Int := (Int32.ofInt a ^^^ Int32.ofInt b).toInt
def pz_shl (a b : Int) : Int := (Int32.ofInt a <<< (Int32.ofInt b &&& 31)).toInt
def pz_shr (a b : Int) : Int := (Int32.ofInt a >>> (Int32.ofInt b &&& 31)).toInt
def pz_ushr (a b : Int) : Int := ((Int32.ofInt a).toUInt32 >>> ((Int32.ofInt b).toUInt32 &&& Int32.toUInt32 31)).toInt32.toInt
def pz_div (a b : Int) : Int := (Int32.ofInt a / Int32.ofInt b).toInt
def pz_rem (a b : Int) : Int := (Int32.ofInt a - Int32.ofInt a / Int32.ofInt b * Int32.ofInt b).toInt
def pz_ldiv (a b : Int) : Int := (Int64.ofInt a / Int64.ofInt b).toInt
def pz_lrem (a b : Int) : Int := (Int64.ofInt a - Int64.ofInt a / Int64.ofInt b * Int64.ofInt b).toInt
def pz_land (a b : Int) : Int := (Int64.ofInt a &&& Int64.ofInt b).toInt
def pz_lor (a b : Int) : Int := (Int64.ofInt a ||| Int64.ofInt b).toInt
def pz_lushr (a b : Int) : Int := ((Int64.ofInt a).toUInt64 >>> ((Int32.ofInt b).toInt64.toUInt64 &&& Int64.toUInt64 63)).toInt64.toInt
def pz_lshl (a b : Int) : Int := (Int64.ofInt a <<< ((Int32.ofInt b).toInt64 &&& 63)).toInt
def pz_cmp (a b : Int) : Int := if b < a then 1 else if a = b then 0 else -1
/-- one place of the memory anew -/
def pz_up (M : pz_M) (k j : Nat) (z : Int) : pz_M := fun a b => if a = k ∧ b = j then z else M a b
/-- a run of places copied -/
def pz_cp (M : pz_M) (s d sp dp n : Nat) : pz_M := fun a b => if a = d ∧ dp ≤ b ∧ b < dp + n then M s (sp + (b - dp)) else M a b
/-- a new cell with a first content -/
def pz_nw (M : pz_M) (k : Nat) (f : Nat → Int) : pz_M := fun a b => if a = k then f b else M a b
/-- the kind and the size of a cell -/
def pz_sh (X : pz_X) (r : Int) : Option (Nat × Nat) := if r < 0 then none else if r < 4096 then X.1.1[r.toNat]? else X.1.2.1[(r - 4096).toNat]?
def pz_nx (ls st : List pz_V) (X : pz_X) : Option pz_O := some (.inl (ls, st, X))
def pz_jp (pc : Nat) (ls st : List pz_V) (X : pz_X) : Option pz_O := some (.inr (.inl (pc, ls, st, X)))
def pz_rt (v : Option pz_V) (X : pz_X) : Option pz_O := some (.inr (.inr (.inl (v, X))))
def pz_cl (y : Nat) (as rest : List pz_V) (mc ms : Nat) : Option pz_O := some (.inr (.inr (.inr (y, as, rest, mc, ms))))
def pz_u1 (st : List pz_V) (k : Int → List pz_V → Option pz_O) : Option pz_O := match st with
  | (0, x) :: r => k x r
  | _ => none
def pz_u2 (st : List pz_V) (k : Int → Int → List pz_V → Option pz_O) : Option pz_O := match st with
  | (0, y) :: (0, x) :: r => k x y r
  | _ => none
def pz_l1 (st : List pz_V) (k : Int → List pz_V → Option pz_O) : Option pz_O := match st with
  | (1, x) :: r => k x r
  | _ => none
def pz_l2 (st : List pz_V) (k : Int → Int → List pz_V → Option pz_O) : Option pz_O := match st with
  | (1, y) :: (1, x) :: r => k x y r
  | _ => none
def pz_r1 (st : List pz_V) (k : Int → List pz_V → Option pz_O) : Option pz_O := match st with
  | (2, x) :: r => k x r
  | _ => none
/-- an index on an array -/
def pz_ai (st : List pz_V) (k : Int → Int → List pz_V → Option pz_O) : Option pz_O := match st with
  | (0, i) :: (2, a) :: r => k a i r
  | _ => none
/-- a value for a place of an array -/
def pz_av (st : List pz_V) (t : Nat) (k : Int → Int → Int → List pz_V → Option pz_O) : Option pz_O := match st with
  | (t', v) :: (0, i) :: (2, a) :: r => if t' = t then k a i v r else none
  | _ => none
/-- a value for a field -/
def pz_fv (st : List pz_V) (t : Nat) (k : Int → Int → List pz_V → Option pz_O) : Option pz_O := match st with
  | (t', v) :: (2, a) :: r => if t' = t then k a v r else none
  | _ => none
def pz_ld (ls : List pz_V) (t i : Nat) (k : Int → Option pz_O) : Option pz_O := match ls[i]? with
  | some (t', z) => if t' = t then k z else none
  | none => none
/-- a long just below a place is spoiled -/
def pz_sp (ls : List pz_V) (i : Nat) : List pz_V := match i with
  | 0 => ls
  | j + 1 => match ls[j]? with
    | some (1, _) => ls.set j (9, 0)
    | _ => ls
def pz_s1 (ls : List pz_V) (i : Nat) (v : pz_V) : List pz_V := (pz_sp ls i).set i v
def pz_s2 (ls : List pz_V) (i : Nat) (v : pz_V) : List pz_V := ((pz_sp ls i).set (i + 1) (9, 0)).set i v
def pz_c1 (cnd : ClassFile.Cond) (x y : Int) : Bool := match cnd with
  | .eq => decide (x = y)
  | .ne => decide (x ≠ y)
  | .lt => decide (x < y)
  | .ge => decide (y ≤ x)
  | .gt => decide (y < x)
  | .le => decide (x ≤ y)
/-- how many words lie on a stack -/
def pz_wt : List pz_V → Nat
  | [] => 0
  | v :: r => (if v.1 = 1 then 2 else 1) + pz_wt r
def pz_df (t : Nat) : Int := if t = 2 then -1 else 0
/-- an array's load: of kind k or k2 -/
def pz_al (X : pz_X) (a i : Int) (k k2 : Nat) (g : Int → Option pz_O) : Option pz_O := match pz_sh X a with
  | some (q, n) => if (q = k ∨ q = k2) ∧ 0 ≤ i ∧ i < n then g (X.2 a.toNat i.toNat) else none
  | none => none
def pz_as (X : pz_X) (a i v : Int) (k : Nat) (g : pz_X → Option pz_O) : Option pz_O := match pz_sh X a with
  | some (q, n) => if q = k ∧ a < 4096 ∧ 0 ≤ i ∧ i < n then g (X.1, pz_up X.2 a.toNat i.toNat v) else none
  | none => none
def pz_gf (X : pz_X) (a : Int) (ci j : Nat) (g : Int → Option pz_O) : Option pz_O := match pz_sh X a with
  | some (q, n) => if q = ci ∧ a < 4096 ∧ j < n then g (X.2 a.toNat j) else none
  | none => none
def pz_ln (X : pz_X) (a : Int) (g : Int → Option pz_O) : Option pz_O := match pz_sh X a with
  | some (q, n) => if 100 ≤ q then g n else none
  | none => none
/-- n cells more, by their shapes -/
def pz_mk (X : pz_X) (shs : List (Nat × Nat)) (mc ms rc rs : Nat) (M : pz_M) (g : pz_X → Option pz_O) : Option pz_O :=
  if X.1.2.2.1 + mc ≤ rc ∧ X.1.2.2.2.1 + ms ≤ rs ∧ X.1.1.length + mc ≤ 4096 ∧ X.1.2.2.2.2 = 0 then g ((X.1.1 ++ shs, X.1.2.1, X.1.2.2.1 + mc, X.1.2.2.2.1 + ms, 0), M) else none
/-- what new cells of a class hold first: tf: the tags of the fields -/
def pz_stp (tf : Nat → Nat → Nat) (rc rs : Nat) (e : pz_E) (pc : Nat) (ls st : List pz_V) (X : pz_X) : Option pz_O :=
  match e with
  | (i, _, a, b, c, d, z) => match i with
    | .iconst _ => pz_nx ls ((0, z) :: st) X
    | .bipush _ => pz_nx ls ((0, z) :: st) X
    | .sipush _ => pz_nx ls ((0, z) :: st) X
    | .ldc _ => pz_nx ls ((0, z) :: st) X
    | .ldc_w _ => pz_nx ls ((0, z) :: st) X
    | .lconst _ => pz_nx ls ((1, z) :: st) X
    | .ldc2_w _ => pz_nx ls ((1, z) :: st) X
    | .aconst_null => pz_nx ls ((2, -1) :: st) X
    | .iload_n _ => pz_ld ls 0 a (fun v => pz_nx ls ((0, v) :: st) X)
    | .iload _ => pz_ld ls 0 a (fun v => pz_nx ls ((0, v) :: st) X)
    | .lload_n _ => pz_ld ls 1 a (fun v => pz_nx ls ((1, v) :: st) X)
    | .lload _ => pz_ld ls 1 a (fun v => pz_nx ls ((1, v) :: st) X)
    | .aload_n _ => pz_ld ls 2 a (fun v => pz_nx ls ((2, v) :: st) X)
    | .aload _ => pz_ld ls 2 a (fun v => pz_nx ls ((2, v) :: st) X)
    | .istore_n _ => pz_u1 st (fun v r => if a < ls.length then pz_nx (pz_s1 ls a (0, v)) r X else none)
    | .istore _ => pz_u1 st (fun v r => if a < ls.length then pz_nx (pz_s1 ls a (0, v)) r X else none)
    | .astore_n _ => pz_r1 st (fun v r => if a < ls.length then pz_nx (pz_s1 ls a (2, v)) r X else none)
    | .astore _ => pz_r1 st (fun v r => if a < ls.length then pz_nx (pz_s1 ls a (2, v)) r X else none)
    | .lstore_n _ => pz_l1 st (fun v r => if a + 1 < ls.length then pz_nx (pz_s2 ls a (1, v)) r X else none)
    | .lstore _ => pz_l1 st (fun v r => if a + 1 < ls.length then pz_nx (pz_s2 ls a (1, v)) r X else none)
    | .iinc _ _ => pz_ld ls 0 a (fun v => pz_nx (pz_s1 ls a (0, pz_w32 (v + z))) st X)
    | .iadd => pz_u2 st (fun x y r => pz_nx ls ((0, pz_w32 (x + y)) :: r) X)
    | .isub => pz_u2 st (fun x y r => pz_nx ls ((0, pz_w32 (x - y)) :: r) X)
    | .imul => pz_u2 st (fun x y r => pz_nx ls ((0, pz_w32 (x * y)) :: r) X)
    | .iand => pz_u2 st (fun x y r => pz_nx ls ((0, pz_and x y) :: r) X)
    | .ior => pz_u2 st (fun x y r => pz_nx ls ((0, pz_or x y) :: r) X)
    | .ixor => pz_u2 st (fun x y r => pz_nx ls ((0, pz_xor x y) :: r) X)
    | .ishl => pz_u2 st (fun x y r => pz_nx ls ((0, pz_shl x y) :: r) X)
    | .ishr => pz_u2 st (fun x y r => pz_nx ls ((0, pz_shr x y) :: r) X)
    | .iushr => pz_u2 st (fun x y r => pz_nx ls ((0, pz_ushr x y) :: r) X)
    | .idiv => pz_u2 st (fun x y r => if y ≠ 0 then pz_nx ls ((0, pz_div x y) :: r) X else none)
    | .irem => pz_u2 st (fun x y r => if y ≠ 0 then pz_nx ls ((0, pz_rem x y) :: r) X else none)
    | .ineg => pz_u1 st (fun x r => pz_nx ls ((0, pz_w32 (-x)) :: r) X)
    | .ladd => pz_l2 st (fun x y r => pz_nx ls ((1, pz_w64 (x + y)) :: r) X)
    | .lsub => pz_l2 st (fun x y r => pz_nx ls ((1, pz_w64 (x - y)) :: r) X)
    | .lmul => pz_l2 st (fun x y r => pz_nx ls ((1, pz_w64 (x * y)) :: r) X)
    | .land => pz_l2 st (fun x y r => pz_nx ls ((1, pz_land x y) :: r) X)
    | .lor => pz_l2 st (fun x y r => pz_nx ls ((1, pz_lor x y) :: r) X)
    | .ldiv => pz_l2 st (fun x y r => if y ≠ 0 then pz_nx ls ((1, pz_ldiv x y) :: r) X else none)
    | .lrem => pz_l2 st (fun x y r => if y ≠ 0 then pz_nx ls ((1, pz_lrem x y) :: r) X else none)
    | .lcmp => pz_l2 st (fun x y r => pz_nx ls ((0, pz_cmp x y) :: r) X)
    | .lushr => pz_u1 st (fun y r => pz_l1 r (fun x r => pz_nx ls ((1, pz_lushr x y) :: r) X))
    | .lshl => pz_u1 st (fun y r => pz_l1 r (fun x r => pz_nx ls ((1, pz_lshl x y) :: r) X))
    | .i2l => pz_u1 st (fun x r => pz_nx ls ((1, x) :: r) X)
    | .l2i => pz_l1 st (fun x r => pz_nx ls ((0, pz_w32 x) :: r) X)
    | .dup => match st with
      | v :: r => if v.1 = 1 then none else pz_nx ls (v :: v :: r) X
      | [] => none
    | .pop => match st with
      | v :: r => if v.1 = 1 then none else pz_nx ls r X
      | [] => none
    | .dup2 => match st with
      | v :: w :: r => if v.1 = 1 ∨ w.1 = 1 then none else pz_nx ls (v :: w :: v :: w :: r) X
      | _ => none
    | .goto _ => pz_jp a ls st X
    | .ifCond cnd _ => pz_u1 st (fun x r => if pz_c1 cnd x 0 = true then pz_jp a ls r X else pz_nx ls r X)
    | .if_icmp cnd _ => pz_u2 st (fun x y r => if pz_c1 cnd x y = true then pz_jp a ls r X else pz_nx ls r X)
    | .ifnull _ => pz_r1 st (fun x r => if x < 0 then pz_jp a ls r X else pz_nx ls r X)
    | .ifnonnull _ => pz_r1 st (fun x r => if x < 0 then pz_nx ls r X else pz_jp a ls r X)
    | .lookupswitch df ps => pz_u1 st (fun x r => pz_jp ((pc : Int) + Op.lookupswitch.offset ps.toList df x).toNat ls r X)
    | .tableswitch df lo hi offs => pz_u1 st (fun x r => if x < lo ∨ hi < x then pz_jp ((pc : Int) + df).toNat ls r X else match offs[(x - lo).toNat]? with
      | some o => pz_jp ((pc : Int) + o).toNat ls r X
      | none => none)
    | .getfield _ => pz_r1 st (fun r s => pz_gf X r a b (fun v => pz_nx ls ((c, v) :: s) X))
    | .putfield _ => pz_fv st c (fun r v s => pz_gf X r a b (fun _ => if d = 1 → v = 0 ∨ v = 1 then pz_nx ls s (X.1, pz_up X.2 r.toNat b v) else none))
    | .getstatic _ => pz_nx ls ((2, z) :: st) X
    | .iaload => pz_ai st (fun r i s => pz_al X r i 100 110 (fun v => pz_nx ls ((0, v) :: s) X))
    | .laload => pz_ai st (fun r i s => pz_al X r i 101 101 (fun v => pz_nx ls ((1, v) :: s) X))
    | .caload => pz_ai st (fun r i s => pz_al X r i 112 112 (fun v => pz_nx ls ((0, v) :: s) X))
    | .aaload => pz_ai st (fun r i s => pz_al X r i a a (fun v => pz_nx ls ((2, v) :: s) X))
    | .iastore => pz_av st 0 (fun r i v s => pz_as X r i v 100 (fun Y => pz_nx ls s Y))
    | .lastore => pz_av st 1 (fun r i v s => pz_as X r i v 101 (fun Y => pz_nx ls s Y))
    | .aastore => pz_av st 2 (fun r i v s => pz_as X r i v a (fun Y => pz_gf X v b 0 (fun _ => pz_nx ls s Y)))
    | .arraylength => pz_r1 st (fun r s => pz_ln X r (fun n => pz_nx ls ((0, n) :: s) X))
    | .new _ => pz_mk X [(a, b)] 1 b rc rs (pz_nw X.2 X.1.1.length (fun j => pz_df (tf a j))) (fun Y => pz_nx ls ((2, X.1.1.length) :: st) Y)
    | .newarray _ => pz_u1 st (fun n r => if 0 ≤ n ∧ n ≤ 60000 then pz_mk X [(a, n.toNat)] 1 n.toNat rc rs (pz_nw X.2 X.1.1.length (fun _ => 0)) (fun Y => pz_nx ls ((2, X.1.1.length) :: r) Y) else none)
    | .anewarray _ => pz_u1 st (fun n r => if 0 ≤ n ∧ n ≤ 60000 then pz_mk X [(a, n.toNat)] 1 n.toNat rc rs (pz_nw X.2 X.1.1.length (fun _ => -1)) (fun Y => pz_nx ls ((2, X.1.1.length) :: r) Y) else none)
    | .multianewarray _ _ => pz_u2 st (fun n k r => if 0 ≤ n ∧ n ≤ 60000 ∧ 0 ≤ k ∧ k ≤ 60000 then pz_mk X ((104, n.toNat) :: List.replicate n.toNat (101, k.toNat)) (1 + n.toNat) (n.toNat + n.toNat * k.toNat) rc rs
        (fun p q => if p < X.1.1.length then X.2 p q else if p = X.1.1.length then (X.1.1.length : Int) + 1 + q else if p ≤ X.1.1.length + n.toNat then 0 else X.2 p q) (fun Y => pz_nx ls ((2, X.1.1.length) :: r) Y) else none)
    | .ireturn => match st with
      | [(0, v)] => if (a = 1 → v = 0 ∨ v = 1) ∧ X.1.2.2.1 ≤ rc ∧ X.1.2.2.2.1 ≤ rs then pz_rt (some (0, v)) X else none
      | _ => none
    | .lreturn => match st with
      | [(1, v)] => if X.1.2.2.1 ≤ rc ∧ X.1.2.2.2.1 ≤ rs then pz_rt (some (1, v)) X else none
      | _ => none
    | .areturn => match st with
      | [(2, v)] => if X.1.2.2.1 ≤ rc ∧ X.1.2.2.2.1 ≤ rs then pz_rt (some (2, v)) X else none
      | _ => none
    | .return_ => match st with
      | [] => if X.1.2.2.1 ≤ rc ∧ X.1.2.2.2.1 ≤ rs then pz_rt none X else none
      | _ => none
    | .invokevirtual _ => match st.drop b with
      | (2, r) :: rest => if (pz_wt rest ≤ 8 ∧ b ≤ st.length) ∧ X.1.2.2.1 + c ≤ rc ∧ X.1.2.2.2.1 + d ≤ rs then pz_gf X r z.toNat 0 (fun _ => pz_cl a ((2, r) :: (st.take b).reverse) rest c d) else none
      | _ => none
    | .invokespecial _ => match st.drop b with
      | (2, r) :: rest => if ((pz_wt rest ≤ 8 ∧ b ≤ st.length) ∧ X.1.2.2.1 + c ≤ rc ∧ X.1.2.2.2.1 + d ≤ rs) ∧ 0 ≤ r ∧ r < 4096 then (if z = 1 then pz_nx ls rest X else pz_cl a ((2, r) :: (st.take b).reverse) rest c d) else none
      | _ => none
    | .invokestatic _ => if z = 1 then match st with
        | (0, n) :: (0, dp) :: (2, t) :: (0, sp) :: (2, s) :: rest => match pz_sh X s, pz_sh X t with
          | some (100, n0), some (100, n1) => if s < 4096 ∧ t < 4096 ∧ 0 ≤ n ∧ 0 ≤ dp ∧ 0 ≤ sp ∧ sp + n ≤ n0 ∧ dp + n ≤ n1 ∧ pz_wt rest ≤ 8 then pz_nx ls rest (X.1, pz_cp X.2 s.toNat t.toNat sp.toNat dp.toNat n.toNat) else none
          | _, _ => none
        | _ => none
      else if z = 2 then pz_u2 st (fun x y r => if pz_wt r ≤ 8 ∧ X.1.2.2.1 ≤ rc ∧ X.1.2.2.2.1 ≤ rs then pz_nx ls ((0, max x y) :: r) X else none)
      else if z = 3 then pz_u2 st (fun x y r => if pz_wt r ≤ 8 ∧ X.1.2.2.1 ≤ rc ∧ X.1.2.2.2.1 ≤ rs then pz_nx ls ((0, min x y) :: r) X else none)
      else if z = 4 then pz_u1 st (fun x r => if pz_wt r ≤ 8 ∧ X.1.2.2.1 ≤ rc ∧ X.1.2.2.2.1 ≤ rs then pz_nx ls ((0, if 0 ≤ x then x else pz_w32 (0 - x)) :: r) X else none)
      else if z = 5 then pz_l2 st (fun x y r => if pz_wt r ≤ 8 ∧ X.1.2.2.1 ≤ rc ∧ X.1.2.2.2.1 ≤ rs then pz_nx ls ((1, max x y) :: r) X else none)
      else if z = 6 then pz_l2 st (fun x y r => if pz_wt r ≤ 8 ∧ X.1.2.2.1 ≤ rc ∧ X.1.2.2.2.1 ≤ rs then pz_nx ls ((1, min x y) :: r) X else none)
      else if (pz_wt (st.drop b) ≤ 8 ∧ b ≤ st.length) ∧ X.1.2.2.1 + c ≤ rc ∧ X.1.2.2.2.1 + d ≤ rs then pz_cl a (st.take b).reverse (st.drop b) c d else none
    | _ => none
def pz_z (X : pz_X) : pz_X := ((X.1.1, X.1.2.1, 0, 0, X.1.2.2.2.2), X.2)
def pz_b (X Y : pz_X) (mc ms : Nat) : pz_X := ((Y.1.1, X.1.2.1, X.1.2.2.1 + mc, X.1.2.2.2.1 + ms, Y.1.2.2.2.2), Y.2)
def pz_run (tf : Nat → Nat → Nat) (C : Nat → List pz_V → pz_X → pz_A) (bk : Nat → List pz_E) (rc rs : Nat) : Nat → Nat → List pz_E → List pz_V → List pz_V → pz_X → pz_A
  | 0, _, _, _, _, _ => none
  | k + 1, pc, [], ls, st, X => pz_run tf C bk rc rs k pc (bk pc) ls st X
  | k + 1, pc, e :: r, ls, st, X => match pz_stp tf rc rs e pc ls st X with
    | none => none
    | some (.inl (ls', st', X')) => pz_run tf C bk rc rs k (pc + e.2.1) r ls' st' X'
    | some (.inr (.inl (pc', ls', st', X'))) => pz_run tf C bk rc rs k pc' [] ls' st' X'
    | some (.inr (.inr (.inl q))) => some q
    | some (.inr (.inr (.inr (y, as, rest, mc, ms)))) => match C y as (pz_z X) with
      | none => none
      | some (v, X') => pz_run tf C bk rc rs k (pc + 3) r ls (v.toList ++ rest) (pz_b X X' mc ms)
theorem pz_run_s {tf : Nat → Nat → Nat} {C : Nat → List pz_V → pz_X → pz_A} {bk : Nat → List pz_E} {rc rs : Nat} : ∀ (k pc : Nat) (su : List pz_E) (ls st : List pz_V) (X : pz_X) (q : Option pz_V × pz_X), pz_run tf C bk rc rs k pc su ls st X = some q → pz_run tf C bk rc rs (k + 1) pc su ls st X = some q
  | 0, _, _, _, _, _, _, h => by simp [pz_run] at h
  | k + 1, pc, [], ls, st, X, q, h => by
    rw [pz_run] at h ⊢
    exact pz_run_s k _ _ _ _ _ _ h
  | k + 1, pc, e :: r, ls, st, X, q, h => by
    rw [pz_run] at h ⊢
    generalize pz_stp tf rc rs e pc ls st X = o at h ⊢
    rcases o with _ | ⟨ls', st', X'⟩ | ⟨pc', ls', st', X'⟩ | q' | ⟨y, as, rest, mc, ms⟩
    · cases h
    · exact pz_run_s k _ _ _ _ _ _ h
    · exact pz_run_s k _ _ _ _ _ _ h
    · exact h
    · dsimp only at h ⊢
      generalize C y as (pz_z X) = w at h ⊢
      rcases w with _ | ⟨v, X'⟩
      · cases h
      · exact pz_run_s k _ _ _ _ _ _ h
theorem pz_run_le {tf : Nat → Nat → Nat} {C : Nat → List pz_V → pz_X → pz_A} {bk : Nat → List pz_E} {rc rs k : Nat} {pc : Nat} {su : List pz_E} {ls st : List pz_V} {X : pz_X} {q : Option pz_V × pz_X} (h : pz_run tf C bk rc rs k pc su ls st X = some q) : ∀ n : Nat, pz_run tf C bk rc rs (k + n) pc su ls st X = some q
  | 0 => h
  | n + 1 => pz_run_s _ _ _ _ _ _ _ (pz_run_le h n)
theorem pz_run_1 {tf : Nat → Nat → Nat} {C : Nat → List pz_V → pz_X → pz_A} {bk : Nat → List pz_E} {rc rs k k2 : Nat} {pc : Nat} {su : List pz_E} {ls st : List pz_V} {X : pz_X} {q q2 : Option pz_V × pz_X} (h : pz_run tf C bk rc rs k pc su ls st X = some q) (h2 : pz_run tf C bk rc rs k2 pc su ls st X = some q2) : q = q2 := by
  have a := pz_run_le h k2
  have b := pz_run_le h2 k
  rw [Nat.add_comm] at b
  exact Option.some.inj (a.symm.trans b)
/-- what comes of it, without fuel -/
noncomputable def pz_go (tf : Nat → Nat → Nat) (C : Nat → List pz_V → pz_X → pz_A) (bk : Nat → List pz_E) (rc rs : Nat) (pc : Nat) (su : List pz_E) (ls st : List pz_V) (X : pz_X) : pz_A :=
  haveI : Decidable (∃ (q : Option pz_V × pz_X) (k : Nat), pz_run tf C bk rc rs k pc su ls st X = some q) := Classical.propDecidable _
  if h : ∃ (q : Option pz_V × pz_X) (k : Nat), pz_run tf C bk rc rs k pc su ls st X = some q then some h.choose else none
section PzGo
variable {tf : Nat → Nat → Nat} {C : Nat → List pz_V → pz_X → pz_A} {bk : Nat → List pz_E} {rc rs : Nat} {pc : Nat} {su : List pz_E} {ls st : List pz_V} {X : pz_X} {q : Option pz_V × pz_X}
theorem pz_go_some : pz_go tf C bk rc rs pc su ls st X = some q ↔ ∃ k, pz_run tf C bk rc rs k pc su ls st X = some q := by
  unfold pz_go
  constructor
  · intro h
    split at h
    next hh =>
      obtain ⟨k, hk⟩ := hh.choose_spec
      rw [← Option.some.inj h]
      exact ⟨k, hk⟩
    next => cases h
  · intro ⟨k, hk⟩
    have hh : ∃ (q : Option pz_V × pz_X) (k : Nat), pz_run tf C bk rc rs k pc su ls st X = some q := ⟨q, k, hk⟩
    rw [dif_pos hh]
    obtain ⟨k2, hk2⟩ := hh.choose_spec
    rw [pz_run_1 hk2 hk]
theorem pz_ext {a b : pz_A} (h : ∀ q, a = some q ↔ b = some q) : a = b := by
  cases a with
  | none => cases b with
    | none => rfl
    | some y => exact absurd ((h y).mpr rfl) (by simp)
  | some x => exact ((h x).mp rfl).symm
theorem pz_go_nil : pz_go tf C bk rc rs pc [] ls st X = pz_go tf C bk rc rs pc (bk pc) ls st X := by
  refine pz_ext fun q => ?_
  rw [pz_go_some, pz_go_some]
  constructor
  · intro ⟨k, hk⟩
    cases k with
    | zero => simp [pz_run] at hk
    | succ k => rw [pz_run] at hk; exact ⟨k, hk⟩
  · intro ⟨k, hk⟩
    exact ⟨k + 1, by rw [pz_run]; exact hk⟩
/-- the same, by the outcome of one step -/
noncomputable def pz_af (tf : Nat → Nat → Nat) (C : Nat → List pz_V → pz_X → pz_A) (bk : Nat → List pz_E) (rc rs : Nat) (pc : Nat) (len : Nat) (r : List pz_E) (ls : List pz_V) (X : pz_X) (o : Option pz_O) : pz_A := match o with
  | none => none
  | some (.inl (ls', st', X')) => pz_go tf C bk rc rs (pc + len) r ls' st' X'
  | some (.inr (.inl (pc', ls', st', X'))) => pz_go tf C bk rc rs pc' [] ls' st' X'
  | some (.inr (.inr (.inl q))) => some q
  | some (.inr (.inr (.inr (y, as, rest, mc, ms)))) => match C y as (pz_z X) with
    | none => none
    | some (v, X') => pz_go tf C bk rc rs (pc + 3) r ls (v.toList ++ rest) (pz_b X X' mc ms)
theorem pz_go_cons {e : pz_E} {r : List pz_E} : pz_go tf C bk rc rs pc (e :: r) ls st X = pz_af tf C bk rc rs pc e.2.1 r ls X (pz_stp tf rc rs e pc ls st X) := by
  refine pz_ext fun q => ?_
  rw [pz_go_some]
  constructor
  · intro ⟨k, hk⟩
    cases k with
    | zero => simp [pz_run] at hk
    | succ k =>
      rw [pz_run] at hk
      unfold pz_af
      generalize pz_stp tf rc rs e pc ls st X = o at hk ⊢
      rcases o with _ | ⟨ls', st', X'⟩ | ⟨pc', ls', st', X'⟩ | q' | ⟨y, as, rest, mc, ms⟩
      · cases hk
      · exact pz_go_some.mpr ⟨k, hk⟩
      · exact pz_go_some.mpr ⟨k, hk⟩
      · exact hk
      · dsimp only at hk ⊢
        generalize C y as (pz_z X) = w at hk ⊢
        rcases w with _ | ⟨v, X'⟩
        · cases hk
        · exact pz_go_some.mpr ⟨k, hk⟩
  · intro h
    unfold pz_af at h
    generalize hs : pz_stp tf rc rs e pc ls st X = o at h
    rcases o with _ | ⟨ls', st', X'⟩ | ⟨pc', ls', st', X'⟩ | q' | ⟨y, as, rest, mc, ms⟩
    · cases h
    · obtain ⟨k, hk⟩ := pz_go_some.mp h
      exact ⟨k + 1, by rw [pz_run, hs]; exact hk⟩
    · obtain ⟨k, hk⟩ := pz_go_some.mp h
      exact ⟨k + 1, by rw [pz_run, hs]; exact hk⟩
    · exact ⟨1, by rw [pz_run, hs]; exact h⟩
    · dsimp only at h
      generalize hc : C y as (pz_z X) = w at h
      rcases w with _ | ⟨v, X'⟩
      · cases h
      · obtain ⟨k, hk⟩ := pz_go_some.mp h
        exact ⟨k + 1, by rw [pz_run, hs]; dsimp only; rw [hc]; exact hk⟩
end PzGo
/-- the locals with which a method begins -/
def pz_en : List pz_V → List pz_V
  | [] => []
  | v :: r => if v.1 = 1 then v :: (9, 0) :: pz_en r else v :: pz_en r
def pz_el (n : Nat) (as : List pz_V) : List pz_V := pz_en as ++ List.replicate (n - (pz_en as).length) (9, 0)
