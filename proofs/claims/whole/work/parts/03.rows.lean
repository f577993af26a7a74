/-- the tags of the fields of each class -/
def pz_tf (c j : Nat) : Nat := ((([[2], [2, 2, 0], [1], [2, 0, 2], [2, 2, 0], [2, 2, 2, 2, 2], [2, 0, 0], [2, 2, 2], [2, 2, 2, 2, 2], [2, 0, 0, 0], [2, 2, 2, 2, 0, 0, 2, 2, 2, 0, 2, 2, 0, 2, 2, 2, 2], [0, 2, 0, 0, 0, 0, 2, 2, 2, 2, 2, 2, 2, 0, 0, 2, 2, 2, 2, 2, 0, 0, 2, 2, 2, 2, 0, 0, 0, 2, 0, 2, 0, 2, 2, 2, 0, 1, 2, 0, 0, 2, 2, 2, 2, 2, 0, 2, 2, 0]] : List (List Nat))[c]?).getD [])[j]?.getD 0
/-! ONE ROW AN INSTRUCTION, over the pure machine -/
def pz_bk (bl : List (Nat × List pz_E)) (pc : Nat) : List pz_E := (bl.lookup pc).getD []
noncomputable def pz_p (bl : List (Nat × List pz_E)) (C : Nat → List pz_V → pz_X → pz_A) (rc rs pc : Nat) (su : List pz_E) (ls st : List pz_V) (X : pz_X) : pz_A := pz_go pz_tf C (pz_bk bl) rc rs pc su ls st X
def pz_lk (ls : List pz_V) (t i : Nat) (k : Int → pz_A) : pz_A := match ls[i]? with
  | some (t', z) => if t' = t then k z else none
  | none => none
def pz_alk (X : pz_X) (a i : Int) (k k2 : Nat) (g : Int → pz_A) : pz_A := match pz_sh X a with
  | some (q, n) => if (q = k ∨ q = k2) ∧ 0 ≤ i ∧ i < n then g (X.2 a.toNat i.toNat) else none
  | none => none
def pz_ask (X : pz_X) (a i v : Int) (k : Nat) (g : pz_X → pz_A) : pz_A := match pz_sh X a with
  | some (q, n) => if q = k ∧ a < 4096 ∧ 0 ≤ i ∧ i < n then g (X.1, pz_up X.2 a.toNat i.toNat v) else none
  | none => none
def pz_gfk (X : pz_X) (a : Int) (ci j : Nat) (g : Int → pz_A) : pz_A := match pz_sh X a with
  | some (q, n) => if q = ci ∧ a < 4096 ∧ j < n then g (X.2 a.toNat j) else none
  | none => none
def pz_lnk (X : pz_X) (a : Int) (g : Int → pz_A) : pz_A := match pz_sh X a with
  | some (q, n) => if 100 ≤ q then g n else none
  | none => none
/-- behind a call -/
def pz_bx (w : pz_A) (X : pz_X) (mc ms : Nat) (g : Option pz_V → pz_X → pz_A) : pz_A := match w with
  | none => none
  | some (v, Y) => g v (pz_b X Y mc ms)
section PxRows
variable {bl : List (Nat × List pz_E)} {C : Nat → List pz_V → pz_X → pz_A} {rc rs pc n a b c d : Nat} {z : Int} {r : List pz_E} {ls st : List pz_V} {X : pz_X}
theorem px_j {su : List pz_E} (h : pz_bk bl pc = su) : pz_p bl C rc rs pc [] ls st X = pz_p bl C rc rs pc su ls st X := by
  unfold pz_p
  rw [pz_go_nil, h]
theorem px_iconst {i : Int} : pz_p bl C rc rs pc (((.iconst i : Instr), n, a, b, c, d, z) :: r) ls st X = pz_p bl C rc rs (pc + n) r ls ((0, z) :: st) X := by
  unfold pz_p; rw [pz_go_cons]; rfl
theorem px_bipush {i : Int} : pz_p bl C rc rs pc (((.bipush i : Instr), n, a, b, c, d, z) :: r) ls st X = pz_p bl C rc rs (pc + n) r ls ((0, z) :: st) X := by
  unfold pz_p; rw [pz_go_cons]; rfl
theorem px_sipush {i : Int} : pz_p bl C rc rs pc (((.sipush i : Instr), n, a, b, c, d, z) :: r) ls st X = pz_p bl C rc rs (pc + n) r ls ((0, z) :: st) X := by
  unfold pz_p; rw [pz_go_cons]; rfl
theorem px_ldc {i : Nat} : pz_p bl C rc rs pc (((.ldc i : Instr), n, a, b, c, d, z) :: r) ls st X = pz_p bl C rc rs (pc + n) r ls ((0, z) :: st) X := by
  unfold pz_p; rw [pz_go_cons]; rfl
theorem px_ldc_w {i : Nat} : pz_p bl C rc rs pc (((.ldc_w i : Instr), n, a, b, c, d, z) :: r) ls st X = pz_p bl C rc rs (pc + n) r ls ((0, z) :: st) X := by
  unfold pz_p; rw [pz_go_cons]; rfl
theorem px_lconst {i : Fin 2} : pz_p bl C rc rs pc (((.lconst i : Instr), n, a, b, c, d, z) :: r) ls st X = pz_p bl C rc rs (pc + n) r ls ((1, z) :: st) X := by
  unfold pz_p; rw [pz_go_cons]; rfl
theorem px_ldc2_w {i : Nat} : pz_p bl C rc rs pc (((.ldc2_w i : Instr), n, a, b, c, d, z) :: r) ls st X = pz_p bl C rc rs (pc + n) r ls ((1, z) :: st) X := by
  unfold pz_p; rw [pz_go_cons]; rfl
theorem px_aconst_null : pz_p bl C rc rs pc (((.aconst_null : Instr), n, a, b, c, d, z) :: r) ls st X = pz_p bl C rc rs (pc + n) r ls ((2, -1) :: st) X := by
  unfold pz_p; rw [pz_go_cons]; rfl
theorem px_getstatic {i : Nat} : pz_p bl C rc rs pc (((.getstatic i : Instr), n, a, b, c, d, z) :: r) ls st X = pz_p bl C rc rs (pc + n) r ls ((2, z) :: st) X := by
  unfold pz_p; rw [pz_go_cons]; rfl
theorem px_iload_n {i : Fin 4} : pz_p bl C rc rs pc (((.iload_n i : Instr), n, a, b, c, d, z) :: r) ls st X = pz_lk ls 0 a (fun v => pz_p bl C rc rs (pc + n) r ls ((0, v) :: st) X) := by
  unfold pz_p pz_lk; rw [pz_go_cons]; show pz_af _ _ _ _ _ _ _ _ _ _ (pz_ld ls 0 a _) = _; unfold pz_ld; rcases ls[a]? with _ | ⟨t, w⟩
  · rfl
  · dsimp only; split <;> rfl
theorem px_iload {i : Nat} : pz_p bl C rc rs pc (((.iload i : Instr), n, a, b, c, d, z) :: r) ls st X = pz_lk ls 0 a (fun v => pz_p bl C rc rs (pc + n) r ls ((0, v) :: st) X) := by
  unfold pz_p pz_lk; rw [pz_go_cons]; show pz_af _ _ _ _ _ _ _ _ _ _ (pz_ld ls 0 a _) = _; unfold pz_ld; rcases ls[a]? with _ | ⟨t, w⟩
  · rfl
  · dsimp only; split <;> rfl
theorem px_lload_n {i : Fin 4} : pz_p bl C rc rs pc (((.lload_n i : Instr), n, a, b, c, d, z) :: r) ls st X = pz_lk ls 1 a (fun v => pz_p bl C rc rs (pc + n) r ls ((1, v) :: st) X) := by
  unfold pz_p pz_lk; rw [pz_go_cons]; show pz_af _ _ _ _ _ _ _ _ _ _ (pz_ld ls 1 a _) = _; unfold pz_ld; rcases ls[a]? with _ | ⟨t, w⟩
  · rfl
  · dsimp only; split <;> rfl
theorem px_lload {i : Nat} : pz_p bl C rc rs pc (((.lload i : Instr), n, a, b, c, d, z) :: r) ls st X = pz_lk ls 1 a (fun v => pz_p bl C rc rs (pc + n) r ls ((1, v) :: st) X) := by
  unfold pz_p pz_lk; rw [pz_go_cons]; show pz_af _ _ _ _ _ _ _ _ _ _ (pz_ld ls 1 a _) = _; unfold pz_ld; rcases ls[a]? with _ | ⟨t, w⟩
  · rfl
  · dsimp only; split <;> rfl
theorem px_aload_n {i : Fin 4} : pz_p bl C rc rs pc (((.aload_n i : Instr), n, a, b, c, d, z) :: r) ls st X = pz_lk ls 2 a (fun v => pz_p bl C rc rs (pc + n) r ls ((2, v) :: st) X) := by
  unfold pz_p pz_lk; rw [pz_go_cons]; show pz_af _ _ _ _ _ _ _ _ _ _ (pz_ld ls 2 a _) = _; unfold pz_ld; rcases ls[a]? with _ | ⟨t, w⟩
  · rfl
  · dsimp only; split <;> rfl
theorem px_aload {i : Nat} : pz_p bl C rc rs pc (((.aload i : Instr), n, a, b, c, d, z) :: r) ls st X = pz_lk ls 2 a (fun v => pz_p bl C rc rs (pc + n) r ls ((2, v) :: st) X) := by
  unfold pz_p pz_lk; rw [pz_go_cons]; show pz_af _ _ _ _ _ _ _ _ _ _ (pz_ld ls 2 a _) = _; unfold pz_ld; rcases ls[a]? with _ | ⟨t, w⟩
  · rfl
  · dsimp only; split <;> rfl
theorem px_istore_n {i : Fin 4} {v : Int} : pz_p bl C rc rs pc (((.istore_n i : Instr), n, a, b, c, d, z) :: r) ls ((0, v) :: st) X = if a < ls.length then pz_p bl C rc rs (pc + n) r (pz_s1 ls a (0, v)) st X else none := by
  unfold pz_p; rw [pz_go_cons]; show pz_af _ _ _ _ _ _ _ _ _ _ (if a < ls.length then _ else _) = _; split <;> rfl
theorem px_istore {i : Nat} {v : Int} : pz_p bl C rc rs pc (((.istore i : Instr), n, a, b, c, d, z) :: r) ls ((0, v) :: st) X = if a < ls.length then pz_p bl C rc rs (pc + n) r (pz_s1 ls a (0, v)) st X else none := by
  unfold pz_p; rw [pz_go_cons]; show pz_af _ _ _ _ _ _ _ _ _ _ (if a < ls.length then _ else _) = _; split <;> rfl
theorem px_astore_n {i : Fin 4} {v : Int} : pz_p bl C rc rs pc (((.astore_n i : Instr), n, a, b, c, d, z) :: r) ls ((2, v) :: st) X = if a < ls.length then pz_p bl C rc rs (pc + n) r (pz_s1 ls a (2, v)) st X else none := by
  unfold pz_p; rw [pz_go_cons]; show pz_af _ _ _ _ _ _ _ _ _ _ (if a < ls.length then _ else _) = _; split <;> rfl
theorem px_astore {i : Nat} {v : Int} : pz_p bl C rc rs pc (((.astore i : Instr), n, a, b, c, d, z) :: r) ls ((2, v) :: st) X = if a < ls.length then pz_p bl C rc rs (pc + n) r (pz_s1 ls a (2, v)) st X else none := by
  unfold pz_p; rw [pz_go_cons]; show pz_af _ _ _ _ _ _ _ _ _ _ (if a < ls.length then _ else _) = _; split <;> rfl
theorem px_lstore_n {i : Fin 4} {v : Int} : pz_p bl C rc rs pc (((.lstore_n i : Instr), n, a, b, c, d, z) :: r) ls ((1, v) :: st) X = if a + 1 < ls.length then pz_p bl C rc rs (pc + n) r (pz_s2 ls a (1, v)) st X else none := by
  unfold pz_p; rw [pz_go_cons]; show pz_af _ _ _ _ _ _ _ _ _ _ (if a + 1 < ls.length then _ else _) = _; split <;> rfl
theorem px_lstore {i : Nat} {v : Int} : pz_p bl C rc rs pc (((.lstore i : Instr), n, a, b, c, d, z) :: r) ls ((1, v) :: st) X = if a + 1 < ls.length then pz_p bl C rc rs (pc + n) r (pz_s2 ls a (1, v)) st X else none := by
  unfold pz_p; rw [pz_go_cons]; show pz_af _ _ _ _ _ _ _ _ _ _ (if a + 1 < ls.length then _ else _) = _; split <;> rfl
theorem px_iinc {i : Nat} {w : Int} : pz_p bl C rc rs pc (((.iinc i w : Instr), n, a, b, c, d, z) :: r) ls st X = pz_lk ls 0 a (fun v => pz_p bl C rc rs (pc + n) r (pz_s1 ls a (0, pz_w32 (v + z))) st X) := by
  unfold pz_p pz_lk; rw [pz_go_cons]; show pz_af _ _ _ _ _ _ _ _ _ _ (pz_ld ls 0 a _) = _; unfold pz_ld; rcases ls[a]? with _ | ⟨t, w⟩
  · rfl
  · dsimp only; split <;> rfl
theorem px_iadd {x y : Int} : pz_p bl C rc rs pc (((.iadd : Instr), n, a, b, c, d, z) :: r) ls ((0, y) :: (0, x) :: st) X = pz_p bl C rc rs (pc + n) r ls ((0, pz_w32 (x + y)) :: st) X := by
  unfold pz_p; rw [pz_go_cons]; rfl
theorem px_isub {x y : Int} : pz_p bl C rc rs pc (((.isub : Instr), n, a, b, c, d, z) :: r) ls ((0, y) :: (0, x) :: st) X = pz_p bl C rc rs (pc + n) r ls ((0, pz_w32 (x - y)) :: st) X := by
  unfold pz_p; rw [pz_go_cons]; rfl
theorem px_imul {x y : Int} : pz_p bl C rc rs pc (((.imul : Instr), n, a, b, c, d, z) :: r) ls ((0, y) :: (0, x) :: st) X = pz_p bl C rc rs (pc + n) r ls ((0, pz_w32 (x * y)) :: st) X := by
  unfold pz_p; rw [pz_go_cons]; rfl
theorem px_iand {x y : Int} : pz_p bl C rc rs pc (((.iand : Instr), n, a, b, c, d, z) :: r) ls ((0, y) :: (0, x) :: st) X = pz_p bl C rc rs (pc + n) r ls ((0, pz_and x y) :: st) X := by
  unfold pz_p; rw [pz_go_cons]; rfl
theorem px_ior {x y : Int} : pz_p bl C rc rs pc (((.ior : Instr), n, a, b, c, d, z) :: r) ls ((0, y) :: (0, x) :: st) X = pz_p bl C rc rs (pc + n) r ls ((0, pz_or x y) :: st) X := by
  unfold pz_p; rw [pz_go_cons]; rfl
theorem px_ixor {x y : Int} : pz_p bl C rc rs pc (((.ixor : Instr), n, a, b, c, d, z) :: r) ls ((0, y) :: (0, x) :: st) X = pz_p bl C rc rs (pc + n) r ls ((0, pz_xor x y) :: st) X := by
  unfold pz_p; rw [pz_go_cons]; rfl
theorem px_ishl {x y : Int} : pz_p bl C rc rs pc (((.ishl : Instr), n, a, b, c, d, z) :: r) ls ((0, y) :: (0, x) :: st) X = pz_p bl C rc rs (pc + n) r ls ((0, pz_shl x y) :: st) X := by
  unfold pz_p; rw [pz_go_cons]; rfl
theorem px_ishr {x y : Int} : pz_p bl C rc rs pc (((.ishr : Instr), n, a, b, c, d, z) :: r) ls ((0, y) :: (0, x) :: st) X = pz_p bl C rc rs (pc + n) r ls ((0, pz_shr x y) :: st) X := by
  unfold pz_p; rw [pz_go_cons]; rfl
theorem px_iushr {x y : Int} : pz_p bl C rc rs pc (((.iushr : Instr), n, a, b, c, d, z) :: r) ls ((0, y) :: (0, x) :: st) X = pz_p bl C rc rs (pc + n) r ls ((0, pz_ushr x y) :: st) X := by
  unfold pz_p; rw [pz_go_cons]; rfl
theorem px_ladd {x y : Int} : pz_p bl C rc rs pc (((.ladd : Instr), n, a, b, c, d, z) :: r) ls ((1, y) :: (1, x) :: st) X = pz_p bl C rc rs (pc + n) r ls ((1, pz_w64 (x + y)) :: st) X := by
  unfold pz_p; rw [pz_go_cons]; rfl
theorem px_lsub {x y : Int} : pz_p bl C rc rs pc (((.lsub : Instr), n, a, b, c, d, z) :: r) ls ((1, y) :: (1, x) :: st) X = pz_p bl C rc rs (pc + n) r ls ((1, pz_w64 (x - y)) :: st) X := by
  unfold pz_p; rw [pz_go_cons]; rfl
theorem px_lmul {x y : Int} : pz_p bl C rc rs pc (((.lmul : Instr), n, a, b, c, d, z) :: r) ls ((1, y) :: (1, x) :: st) X = pz_p bl C rc rs (pc + n) r ls ((1, pz_w64 (x * y)) :: st) X := by
  unfold pz_p; rw [pz_go_cons]; rfl
theorem px_land {x y : Int} : pz_p bl C rc rs pc (((.land : Instr), n, a, b, c, d, z) :: r) ls ((1, y) :: (1, x) :: st) X = pz_p bl C rc rs (pc + n) r ls ((1, pz_land x y) :: st) X := by
  unfold pz_p; rw [pz_go_cons]; rfl
theorem px_lor {x y : Int} : pz_p bl C rc rs pc (((.lor : Instr), n, a, b, c, d, z) :: r) ls ((1, y) :: (1, x) :: st) X = pz_p bl C rc rs (pc + n) r ls ((1, pz_lor x y) :: st) X := by
  unfold pz_p; rw [pz_go_cons]; rfl
theorem px_lcmp {x y : Int} : pz_p bl C rc rs pc (((.lcmp : Instr), n, a, b, c, d, z) :: r) ls ((1, y) :: (1, x) :: st) X = pz_p bl C rc rs (pc + n) r ls ((0, pz_cmp x y) :: st) X := by
  unfold pz_p; rw [pz_go_cons]; rfl
theorem px_lushr {x y : Int} : pz_p bl C rc rs pc (((.lushr : Instr), n, a, b, c, d, z) :: r) ls ((0, y) :: (1, x) :: st) X = pz_p bl C rc rs (pc + n) r ls ((1, pz_lushr x y) :: st) X := by
  unfold pz_p; rw [pz_go_cons]; rfl
theorem px_lshl {x y : Int} : pz_p bl C rc rs pc (((.lshl : Instr), n, a, b, c, d, z) :: r) ls ((0, y) :: (1, x) :: st) X = pz_p bl C rc rs (pc + n) r ls ((1, pz_lshl x y) :: st) X := by
  unfold pz_p; rw [pz_go_cons]; rfl
theorem px_ineg {x : Int} : pz_p bl C rc rs pc (((.ineg : Instr), n, a, b, c, d, z) :: r) ls ((0, x) :: st) X = pz_p bl C rc rs (pc + n) r ls ((0, pz_w32 (-x)) :: st) X := by
  unfold pz_p; rw [pz_go_cons]; rfl
theorem px_i2l {x : Int} : pz_p bl C rc rs pc (((.i2l : Instr), n, a, b, c, d, z) :: r) ls ((0, x) :: st) X = pz_p bl C rc rs (pc + n) r ls ((1, x) :: st) X := by
  unfold pz_p; rw [pz_go_cons]; rfl
theorem px_l2i {x : Int} : pz_p bl C rc rs pc (((.l2i : Instr), n, a, b, c, d, z) :: r) ls ((1, x) :: st) X = pz_p bl C rc rs (pc + n) r ls ((0, pz_w32 x) :: st) X := by
  unfold pz_p; rw [pz_go_cons]; rfl
theorem px_idiv {x y : Int} : pz_p bl C rc rs pc (((.idiv : Instr), n, a, b, c, d, z) :: r) ls ((0, y) :: (0, x) :: st) X = if y ≠ 0 then pz_p bl C rc rs (pc + n) r ls ((0, pz_div x y) :: st) X else none := by
  unfold pz_p; rw [pz_go_cons]; show pz_af _ _ _ _ _ _ _ _ _ _ (if y ≠ 0 then _ else _) = _; split <;> rfl
theorem px_irem {x y : Int} : pz_p bl C rc rs pc (((.irem : Instr), n, a, b, c, d, z) :: r) ls ((0, y) :: (0, x) :: st) X = if y ≠ 0 then pz_p bl C rc rs (pc + n) r ls ((0, pz_rem x y) :: st) X else none := by
  unfold pz_p; rw [pz_go_cons]; show pz_af _ _ _ _ _ _ _ _ _ _ (if y ≠ 0 then _ else _) = _; split <;> rfl
theorem px_ldiv {x y : Int} : pz_p bl C rc rs pc (((.ldiv : Instr), n, a, b, c, d, z) :: r) ls ((1, y) :: (1, x) :: st) X = if y ≠ 0 then pz_p bl C rc rs (pc + n) r ls ((1, pz_ldiv x y) :: st) X else none := by
  unfold pz_p; rw [pz_go_cons]; show pz_af _ _ _ _ _ _ _ _ _ _ (if y ≠ 0 then _ else _) = _; split <;> rfl
theorem px_lrem {x y : Int} : pz_p bl C rc rs pc (((.lrem : Instr), n, a, b, c, d, z) :: r) ls ((1, y) :: (1, x) :: st) X = if y ≠ 0 then pz_p bl C rc rs (pc + n) r ls ((1, pz_lrem x y) :: st) X else none := by
  unfold pz_p; rw [pz_go_cons]; show pz_af _ _ _ _ _ _ _ _ _ _ (if y ≠ 0 then _ else _) = _; split <;> rfl
theorem px_dup0 {x : Int} : pz_p bl C rc rs pc (((.dup : Instr), n, a, b, c, d, z) :: r) ls ((0, x) :: st) X = pz_p bl C rc rs (pc + n) r ls ((0, x) :: (0, x) :: st) X := by
  unfold pz_p; rw [pz_go_cons]; rfl
theorem px_pop0 {x : Int} : pz_p bl C rc rs pc (((.pop : Instr), n, a, b, c, d, z) :: r) ls ((0, x) :: st) X = pz_p bl C rc rs (pc + n) r ls st X := by
  unfold pz_p; rw [pz_go_cons]; rfl
theorem px_dup2 {x : Int} : pz_p bl C rc rs pc (((.dup : Instr), n, a, b, c, d, z) :: r) ls ((2, x) :: st) X = pz_p bl C rc rs (pc + n) r ls ((2, x) :: (2, x) :: st) X := by
  unfold pz_p; rw [pz_go_cons]; rfl
theorem px_pop2 {x : Int} : pz_p bl C rc rs pc (((.pop : Instr), n, a, b, c, d, z) :: r) ls ((2, x) :: st) X = pz_p bl C rc rs (pc + n) r ls st X := by
  unfold pz_p; rw [pz_go_cons]; rfl
theorem px_dup2x {x y : Int} : pz_p bl C rc rs pc (((.dup2 : Instr), n, a, b, c, d, z) :: r) ls ((0, x) :: (2, y) :: st) X = pz_p bl C rc rs (pc + n) r ls ((0, x) :: (2, y) :: (0, x) :: (2, y) :: st) X := by
  unfold pz_p; rw [pz_go_cons]; rfl
theorem px_goto {o : Int} : pz_p bl C rc rs pc (((.goto o : Instr), n, a, b, c, d, z) :: r) ls st X = pz_p bl C rc rs a [] ls st X := by
  unfold pz_p; rw [pz_go_cons]; rfl
theorem px_if_eq {o x : Int} : pz_p bl C rc rs pc (((.ifCond .eq o : Instr), n, a, b, c, d, z) :: r) ls ((0, x) :: st) X = if x = 0 then pz_p bl C rc rs a [] ls st X else pz_p bl C rc rs (pc + n) r ls st X := by
  unfold pz_p; rw [pz_go_cons]; show pz_af _ _ _ _ _ _ _ _ _ _ (if decide (x = 0) = true then _ else _) = _; by_cases h : x = 0
  · rw [if_pos h, if_pos (decide_eq_true h)]; rfl
  · rw [if_neg h, if_neg (by simpa using h)]; rfl
theorem px_ic_eq {o x y : Int} : pz_p bl C rc rs pc (((.if_icmp .eq o : Instr), n, a, b, c, d, z) :: r) ls ((0, y) :: (0, x) :: st) X = if x = y then pz_p bl C rc rs a [] ls st X else pz_p bl C rc rs (pc + n) r ls st X := by
  unfold pz_p; rw [pz_go_cons]; show pz_af _ _ _ _ _ _ _ _ _ _ (if decide (x = y) = true then _ else _) = _; by_cases h : x = y
  · rw [if_pos h, if_pos (decide_eq_true h)]; rfl
  · rw [if_neg h, if_neg (by simpa using h)]; rfl
theorem px_if_ne {o x : Int} : pz_p bl C rc rs pc (((.ifCond .ne o : Instr), n, a, b, c, d, z) :: r) ls ((0, x) :: st) X = if x ≠ 0 then pz_p bl C rc rs a [] ls st X else pz_p bl C rc rs (pc + n) r ls st X := by
  unfold pz_p; rw [pz_go_cons]; show pz_af _ _ _ _ _ _ _ _ _ _ (if decide (x ≠ 0) = true then _ else _) = _; by_cases h : x ≠ 0
  · rw [if_pos h, if_pos (decide_eq_true h)]; rfl
  · rw [if_neg h, if_neg (by simpa using h)]; rfl
theorem px_ic_ne {o x y : Int} : pz_p bl C rc rs pc (((.if_icmp .ne o : Instr), n, a, b, c, d, z) :: r) ls ((0, y) :: (0, x) :: st) X = if x ≠ y then pz_p bl C rc rs a [] ls st X else pz_p bl C rc rs (pc + n) r ls st X := by
  unfold pz_p; rw [pz_go_cons]; show pz_af _ _ _ _ _ _ _ _ _ _ (if decide (x ≠ y) = true then _ else _) = _; by_cases h : x ≠ y
  · rw [if_pos h, if_pos (decide_eq_true h)]; rfl
  · rw [if_neg h, if_neg (by simpa using h)]; rfl
theorem px_if_lt {o x : Int} : pz_p bl C rc rs pc (((.ifCond .lt o : Instr), n, a, b, c, d, z) :: r) ls ((0, x) :: st) X = if x < 0 then pz_p bl C rc rs a [] ls st X else pz_p bl C rc rs (pc + n) r ls st X := by
  unfold pz_p; rw [pz_go_cons]; show pz_af _ _ _ _ _ _ _ _ _ _ (if decide (x < 0) = true then _ else _) = _; by_cases h : x < 0
  · rw [if_pos h, if_pos (decide_eq_true h)]; rfl
  · rw [if_neg h, if_neg (by simpa using h)]; rfl
theorem px_ic_lt {o x y : Int} : pz_p bl C rc rs pc (((.if_icmp .lt o : Instr), n, a, b, c, d, z) :: r) ls ((0, y) :: (0, x) :: st) X = if x < y then pz_p bl C rc rs a [] ls st X else pz_p bl C rc rs (pc + n) r ls st X := by
  unfold pz_p; rw [pz_go_cons]; show pz_af _ _ _ _ _ _ _ _ _ _ (if decide (x < y) = true then _ else _) = _; by_cases h : x < y
  · rw [if_pos h, if_pos (decide_eq_true h)]; rfl
  · rw [if_neg h, if_neg (by simpa using h)]; rfl
theorem px_if_ge {o x : Int} : pz_p bl C rc rs pc (((.ifCond .ge o : Instr), n, a, b, c, d, z) :: r) ls ((0, x) :: st) X = if 0 ≤ x then pz_p bl C rc rs a [] ls st X else pz_p bl C rc rs (pc + n) r ls st X := by
  unfold pz_p; rw [pz_go_cons]; show pz_af _ _ _ _ _ _ _ _ _ _ (if decide (0 ≤ x) = true then _ else _) = _; by_cases h : 0 ≤ x
  · rw [if_pos h, if_pos (decide_eq_true h)]; rfl
  · rw [if_neg h, if_neg (by simpa using h)]; rfl
theorem px_ic_ge {o x y : Int} : pz_p bl C rc rs pc (((.if_icmp .ge o : Instr), n, a, b, c, d, z) :: r) ls ((0, y) :: (0, x) :: st) X = if y ≤ x then pz_p bl C rc rs a [] ls st X else pz_p bl C rc rs (pc + n) r ls st X := by
  unfold pz_p; rw [pz_go_cons]; show pz_af _ _ _ _ _ _ _ _ _ _ (if decide (y ≤ x) = true then _ else _) = _; by_cases h : y ≤ x
  · rw [if_pos h, if_pos (decide_eq_true h)]; rfl
  · rw [if_neg h, if_neg (by simpa using h)]; rfl
theorem px_if_gt {o x : Int} : pz_p bl C rc rs pc (((.ifCond .gt o : Instr), n, a, b, c, d, z) :: r) ls ((0, x) :: st) X = if 0 < x then pz_p bl C rc rs a [] ls st X else pz_p bl C rc rs (pc + n) r ls st X := by
  unfold pz_p; rw [pz_go_cons]; show pz_af _ _ _ _ _ _ _ _ _ _ (if decide (0 < x) = true then _ else _) = _; by_cases h : 0 < x
  · rw [if_pos h, if_pos (decide_eq_true h)]; rfl
  · rw [if_neg h, if_neg (by simpa using h)]; rfl
theorem px_ic_gt {o x y : Int} : pz_p bl C rc rs pc (((.if_icmp .gt o : Instr), n, a, b, c, d, z) :: r) ls ((0, y) :: (0, x) :: st) X = if y < x then pz_p bl C rc rs a [] ls st X else pz_p bl C rc rs (pc + n) r ls st X := by
  unfold pz_p; rw [pz_go_cons]; show pz_af _ _ _ _ _ _ _ _ _ _ (if decide (y < x) = true then _ else _) = _; by_cases h : y < x
  · rw [if_pos h, if_pos (decide_eq_true h)]; rfl
  · rw [if_neg h, if_neg (by simpa using h)]; rfl
theorem px_if_le {o x : Int} : pz_p bl C rc rs pc (((.ifCond .le o : Instr), n, a, b, c, d, z) :: r) ls ((0, x) :: st) X = if x ≤ 0 then pz_p bl C rc rs a [] ls st X else pz_p bl C rc rs (pc + n) r ls st X := by
  unfold pz_p; rw [pz_go_cons]; show pz_af _ _ _ _ _ _ _ _ _ _ (if decide (x ≤ 0) = true then _ else _) = _; by_cases h : x ≤ 0
  · rw [if_pos h, if_pos (decide_eq_true h)]; rfl
  · rw [if_neg h, if_neg (by simpa using h)]; rfl
theorem px_ic_le {o x y : Int} : pz_p bl C rc rs pc (((.if_icmp .le o : Instr), n, a, b, c, d, z) :: r) ls ((0, y) :: (0, x) :: st) X = if x ≤ y then pz_p bl C rc rs a [] ls st X else pz_p bl C rc rs (pc + n) r ls st X := by
  unfold pz_p; rw [pz_go_cons]; show pz_af _ _ _ _ _ _ _ _ _ _ (if decide (x ≤ y) = true then _ else _) = _; by_cases h : x ≤ y
  · rw [if_pos h, if_pos (decide_eq_true h)]; rfl
  · rw [if_neg h, if_neg (by simpa using h)]; rfl
theorem px_ifnull {o x : Int} : pz_p bl C rc rs pc (((.ifnull o : Instr), n, a, b, c, d, z) :: r) ls ((2, x) :: st) X = if x < 0 then pz_p bl C rc rs a [] ls st X else pz_p bl C rc rs (pc + n) r ls st X := by
  unfold pz_p; rw [pz_go_cons]; show pz_af _ _ _ _ _ _ _ _ _ _ (if x < 0 then _ else _) = _; split <;> rfl
theorem px_ifnonnull {o x : Int} : pz_p bl C rc rs pc (((.ifnonnull o : Instr), n, a, b, c, d, z) :: r) ls ((2, x) :: st) X = if x < 0 then pz_p bl C rc rs (pc + n) r ls st X else pz_p bl C rc rs a [] ls st X := by
  unfold pz_p; rw [pz_go_cons]; show pz_af _ _ _ _ _ _ _ _ _ _ (if x < 0 then _ else _) = _; split <;> rfl
theorem px_lookupswitch {df x : Int} {ps : Array (Int × Int)} : pz_p bl C rc rs pc (((.lookupswitch df ps : Instr), n, a, b, c, d, z) :: r) ls ((0, x) :: st) X = pz_p bl C rc rs ((pc : Int) + Op.lookupswitch.offset ps.toList df x).toNat [] ls st X := by
  unfold pz_p; rw [pz_go_cons]; rfl
theorem px_tableswitch {df lo hi x : Int} {ofs : Array Int} : pz_p bl C rc rs pc (((.tableswitch df lo hi ofs : Instr), n, a, b, c, d, z) :: r) ls ((0, x) :: st) X = if x < lo ∨ hi < x then pz_p bl C rc rs ((pc : Int) + df).toNat [] ls st X else (ofs[(x - lo).toNat]?).elim none (fun o => pz_p bl C rc rs ((pc : Int) + o).toNat [] ls st X) := by
  unfold pz_p; rw [pz_go_cons]; show pz_af _ _ _ _ _ _ _ _ _ _ (if x < lo ∨ hi < x then _ else _) = _; split
  · rfl
  · rcases ofs[(x - lo).toNat]? with _ | o <;> rfl
theorem px_getfield {i : Nat} {x : Int} : pz_p bl C rc rs pc (((.getfield i : Instr), n, a, b, c, d, z) :: r) ls ((2, x) :: st) X = pz_gfk X x a b (fun v => pz_p bl C rc rs (pc + n) r ls ((c, v) :: st) X) := by
  unfold pz_p pz_gfk; rw [pz_go_cons]; simp only [pz_stp, pz_r1, pz_ai, pz_av, pz_gf, pz_al, pz_as, pz_ln, if_true]; rcases pz_sh X x with _ | ⟨q, m⟩
  · rfl
  · dsimp only; split <;> rfl
theorem px_iaload {i x : Int} : pz_p bl C rc rs pc (((.iaload : Instr), n, a, b, c, d, z) :: r) ls ((0, i) :: (2, x) :: st) X = pz_alk X x i 100 110 (fun v => pz_p bl C rc rs (pc + n) r ls ((0, v) :: st) X) := by
  unfold pz_p pz_alk; rw [pz_go_cons]; simp only [pz_stp, pz_r1, pz_ai, pz_av, pz_gf, pz_al, pz_as, pz_ln, if_true]; rcases pz_sh X x with _ | ⟨q, m⟩
  · rfl
  · dsimp only; split <;> rfl
theorem px_laload {i x : Int} : pz_p bl C rc rs pc (((.laload : Instr), n, a, b, c, d, z) :: r) ls ((0, i) :: (2, x) :: st) X = pz_alk X x i 101 101 (fun v => pz_p bl C rc rs (pc + n) r ls ((1, v) :: st) X) := by
  unfold pz_p pz_alk; rw [pz_go_cons]; simp only [pz_stp, pz_r1, pz_ai, pz_av, pz_gf, pz_al, pz_as, pz_ln, if_true]; rcases pz_sh X x with _ | ⟨q, m⟩
  · rfl
  · dsimp only; split <;> rfl
theorem px_caload {i x : Int} : pz_p bl C rc rs pc (((.caload : Instr), n, a, b, c, d, z) :: r) ls ((0, i) :: (2, x) :: st) X = pz_alk X x i 112 112 (fun v => pz_p bl C rc rs (pc + n) r ls ((0, v) :: st) X) := by
  unfold pz_p pz_alk; rw [pz_go_cons]; simp only [pz_stp, pz_r1, pz_ai, pz_av, pz_gf, pz_al, pz_as, pz_ln, if_true]; rcases pz_sh X x with _ | ⟨q, m⟩
  · rfl
  · dsimp only; split <;> rfl
theorem px_aaload {i x : Int} : pz_p bl C rc rs pc (((.aaload : Instr), n, a, b, c, d, z) :: r) ls ((0, i) :: (2, x) :: st) X = pz_alk X x i a a (fun v => pz_p bl C rc rs (pc + n) r ls ((2, v) :: st) X) := by
  unfold pz_p pz_alk; rw [pz_go_cons]; simp only [pz_stp, pz_r1, pz_ai, pz_av, pz_gf, pz_al, pz_as, pz_ln, if_true]; rcases pz_sh X x with _ | ⟨q, m⟩
  · rfl
  · dsimp only; split <;> rfl
theorem px_iastore {i x v : Int} : pz_p bl C rc rs pc (((.iastore : Instr), n, a, b, c, d, z) :: r) ls ((0, v) :: (0, i) :: (2, x) :: st) X = pz_ask X x i v 100 (fun Y => pz_p bl C rc rs (pc + n) r ls st Y) := by
  unfold pz_p pz_ask; rw [pz_go_cons]; simp only [pz_stp, pz_r1, pz_ai, pz_av, pz_gf, pz_al, pz_as, pz_ln, if_true]; rcases pz_sh X x with _ | ⟨q, m⟩
  · rfl
  · dsimp only; split <;> rfl
theorem px_lastore {i x v : Int} : pz_p bl C rc rs pc (((.lastore : Instr), n, a, b, c, d, z) :: r) ls ((1, v) :: (0, i) :: (2, x) :: st) X = pz_ask X x i v 101 (fun Y => pz_p bl C rc rs (pc + n) r ls st Y) := by
  unfold pz_p pz_ask; rw [pz_go_cons]; simp only [pz_stp, pz_r1, pz_ai, pz_av, pz_gf, pz_al, pz_as, pz_ln, if_true]; rcases pz_sh X x with _ | ⟨q, m⟩
  · rfl
  · dsimp only; split <;> rfl
theorem px_arraylength {x : Int} : pz_p bl C rc rs pc (((.arraylength : Instr), n, a, b, c, d, z) :: r) ls ((2, x) :: st) X = pz_lnk X x (fun v => pz_p bl C rc rs (pc + n) r ls ((0, v) :: st) X) := by
  unfold pz_p pz_lnk; rw [pz_go_cons]; simp only [pz_stp, pz_r1, pz_ai, pz_av, pz_gf, pz_al, pz_as, pz_ln, if_true]; rcases pz_sh X x with _ | ⟨q, m⟩
  · rfl
  · dsimp only; split <;> rfl
theorem px_putfield {i : Nat} {x v : Int} : pz_p bl C rc rs pc (((.putfield i : Instr), n, a, b, c, d, z) :: r) ls ((c, v) :: (2, x) :: st) X = pz_gfk X x a b (fun _ => if d = 1 → v = 0 ∨ v = 1 then pz_p bl C rc rs (pc + n) r ls st (X.1, pz_up X.2 x.toNat b v) else none) := by
  unfold pz_p pz_gfk; rw [pz_go_cons]; simp only [pz_stp, pz_fv, pz_gf, if_true]; rcases pz_sh X x with _ | ⟨q, m⟩
  · rfl
  · dsimp only; split
    · split <;> rfl
    · rfl
theorem px_ireturn {x : Int} : pz_p bl C rc rs pc (((.ireturn : Instr), n, a, b, c, d, z) :: r) ls [(0, x)] X = if (a = 1 → x = 0 ∨ x = 1) ∧ X.1.2.2.1 ≤ rc ∧ X.1.2.2.2.1 ≤ rs then some (some (0, x), X) else none := by
  unfold pz_p; rw [pz_go_cons]; show pz_af _ _ _ _ _ _ _ _ _ _ (if (a = 1 → x = 0 ∨ x = 1) ∧ X.1.2.2.1 ≤ rc ∧ X.1.2.2.2.1 ≤ rs then _ else _) = _; split <;> rfl
theorem px_lreturn {x : Int} : pz_p bl C rc rs pc (((.lreturn : Instr), n, a, b, c, d, z) :: r) ls [(1, x)] X = if X.1.2.2.1 ≤ rc ∧ X.1.2.2.2.1 ≤ rs then some (some (1, x), X) else none := by
  unfold pz_p; rw [pz_go_cons]; show pz_af _ _ _ _ _ _ _ _ _ _ (if X.1.2.2.1 ≤ rc ∧ X.1.2.2.2.1 ≤ rs then _ else _) = _; split <;> rfl
theorem px_areturn {x : Int} : pz_p bl C rc rs pc (((.areturn : Instr), n, a, b, c, d, z) :: r) ls [(2, x)] X = if X.1.2.2.1 ≤ rc ∧ X.1.2.2.2.1 ≤ rs then some (some (2, x), X) else none := by
  unfold pz_p; rw [pz_go_cons]; show pz_af _ _ _ _ _ _ _ _ _ _ (if X.1.2.2.1 ≤ rc ∧ X.1.2.2.2.1 ≤ rs then _ else _) = _; split <;> rfl
theorem px_return : pz_p bl C rc rs pc (((.return_ : Instr), n, a, b, c, d, z) :: r) ls [] X = if X.1.2.2.1 ≤ rc ∧ X.1.2.2.2.1 ≤ rs then some (none, X) else none := by
  unfold pz_p; rw [pz_go_cons]; show pz_af _ _ _ _ _ _ _ _ _ _ (if X.1.2.2.1 ≤ rc ∧ X.1.2.2.2.1 ≤ rs then _ else _) = _; split <;> rfl
theorem px_isg {i b : Nat} {st : List pz_V} : pz_p bl C rc rs pc ((.invokestatic i, n, a, b, c, d, 0) :: r) ls st X = if (pz_wt (st.drop b) ≤ 8 ∧ b ≤ st.length) ∧ X.1.2.2.1 + c ≤ rc ∧ X.1.2.2.2.1 + d ≤ rs then pz_bx (C a (st.take b).reverse (pz_z X)) X c d (fun v Y => pz_p bl C rc rs (pc + 3) r ls (v.toList ++ st.drop b) Y) else none := by
  unfold pz_p pz_bx; rw [pz_go_cons]; simp only [pz_stp]
  rw [if_neg (by decide), if_neg (by decide), if_neg (by decide), if_neg (by decide), if_neg (by decide), if_neg (by decide)]
  split
  · simp only [pz_cl, pz_af] <;> (rcases C a _ (pz_z X) with _ | ⟨v, Y⟩ <;> rfl)
  · rfl
theorem px_iv0 {i : Nat} {x z : Int} : pz_p bl C rc rs pc ((.invokevirtual i, n, a, 0, c, d, z) :: r) ls ((2, x) :: st) X = if pz_wt st ≤ 8 ∧ X.1.2.2.1 + c ≤ rc ∧ X.1.2.2.2.1 + d ≤ rs then pz_gfk X x z.toNat 0 (fun _ => pz_bx (C a [(2, x)] (pz_z X)) X c d (fun v Y => pz_p bl C rc rs (pc + 3) r ls (v.toList ++ st) Y)) else none := by
  unfold pz_p pz_gfk pz_bx; rw [pz_go_cons]; simp only [pz_stp, List.drop, pz_gf]
  by_cases h : pz_wt st ≤ 8 ∧ X.1.2.2.1 + c ≤ rc ∧ X.1.2.2.2.1 + d ≤ rs
  · rw [if_pos h, if_pos ⟨⟨h.1, by simp⟩, h.2⟩]; rcases pz_sh X x with _ | ⟨q, m⟩
    · rfl
    · dsimp only; split
      · simp only [pz_cl, pz_af, List.take, List.reverse, List.reverseAux] <;> (rcases C a _ (pz_z X) with _ | ⟨v, Y⟩ <;> rfl)
      · rfl
  · rw [if_neg h, if_neg (fun q => h ⟨q.1.1, q.2⟩)]; rfl
theorem px_is0 {i : Nat} : pz_p bl C rc rs pc ((.invokestatic i, n, a, 0, c, d, 0) :: r) ls (st) X = if pz_wt st ≤ 8 ∧ X.1.2.2.1 + c ≤ rc ∧ X.1.2.2.2.1 + d ≤ rs then pz_bx (C a [] (pz_z X)) X c d (fun v Y => pz_p bl C rc rs (pc + 3) r ls (v.toList ++ st) Y) else none := by
  rw [px_isg]
  by_cases h : pz_wt st ≤ 8 ∧ X.1.2.2.1 + c ≤ rc ∧ X.1.2.2.2.1 + d ≤ rs
  · rw [if_pos h]; exact if_pos ⟨⟨h.1, by simp⟩, h.2⟩
  · rw [if_neg h]; exact if_neg (fun q => h ⟨q.1.1, q.2⟩)
theorem px_iv1 {t0 : Nat} {i : Nat} {v0 x z : Int} : pz_p bl C rc rs pc ((.invokevirtual i, n, a, 1, c, d, z) :: r) ls ((t0, v0) :: (2, x) :: st) X = if pz_wt st ≤ 8 ∧ X.1.2.2.1 + c ≤ rc ∧ X.1.2.2.2.1 + d ≤ rs then pz_gfk X x z.toNat 0 (fun _ => pz_bx (C a [(2, x), (t0, v0)] (pz_z X)) X c d (fun v Y => pz_p bl C rc rs (pc + 3) r ls (v.toList ++ st) Y)) else none := by
  unfold pz_p pz_gfk pz_bx; rw [pz_go_cons]; simp only [pz_stp, List.drop, pz_gf]
  by_cases h : pz_wt st ≤ 8 ∧ X.1.2.2.1 + c ≤ rc ∧ X.1.2.2.2.1 + d ≤ rs
  · rw [if_pos h, if_pos ⟨⟨h.1, by simp⟩, h.2⟩]; rcases pz_sh X x with _ | ⟨q, m⟩
    · rfl
    · dsimp only; split
      · simp only [pz_cl, pz_af, List.take, List.reverse, List.reverseAux] <;> (rcases C a _ (pz_z X) with _ | ⟨v, Y⟩ <;> rfl)
      · rfl
  · rw [if_neg h, if_neg (fun q => h ⟨q.1.1, q.2⟩)]; rfl
theorem px_is1 {t0 : Nat} {i : Nat} {v0 : Int} : pz_p bl C rc rs pc ((.invokestatic i, n, a, 1, c, d, 0) :: r) ls ((t0, v0) :: st) X = if pz_wt st ≤ 8 ∧ X.1.2.2.1 + c ≤ rc ∧ X.1.2.2.2.1 + d ≤ rs then pz_bx (C a [(t0, v0)] (pz_z X)) X c d (fun v Y => pz_p bl C rc rs (pc + 3) r ls (v.toList ++ st) Y) else none := by
  rw [px_isg]
  by_cases h : pz_wt st ≤ 8 ∧ X.1.2.2.1 + c ≤ rc ∧ X.1.2.2.2.1 + d ≤ rs
  · rw [if_pos h]; exact if_pos ⟨⟨h.1, by simp⟩, h.2⟩
  · rw [if_neg h]; exact if_neg (fun q => h ⟨q.1.1, q.2⟩)
theorem px_iv2 {t0 t1 : Nat} {i : Nat} {v0 v1 x z : Int} : pz_p bl C rc rs pc ((.invokevirtual i, n, a, 2, c, d, z) :: r) ls ((t1, v1) :: (t0, v0) :: (2, x) :: st) X = if pz_wt st ≤ 8 ∧ X.1.2.2.1 + c ≤ rc ∧ X.1.2.2.2.1 + d ≤ rs then pz_gfk X x z.toNat 0 (fun _ => pz_bx (C a [(2, x), (t0, v0), (t1, v1)] (pz_z X)) X c d (fun v Y => pz_p bl C rc rs (pc + 3) r ls (v.toList ++ st) Y)) else none := by
  unfold pz_p pz_gfk pz_bx; rw [pz_go_cons]; simp only [pz_stp, List.drop, pz_gf]
  by_cases h : pz_wt st ≤ 8 ∧ X.1.2.2.1 + c ≤ rc ∧ X.1.2.2.2.1 + d ≤ rs
  · rw [if_pos h, if_pos ⟨⟨h.1, by simp⟩, h.2⟩]; rcases pz_sh X x with _ | ⟨q, m⟩
    · rfl
    · dsimp only; split
      · simp only [pz_cl, pz_af, List.take, List.reverse, List.reverseAux] <;> (rcases C a _ (pz_z X) with _ | ⟨v, Y⟩ <;> rfl)
      · rfl
  · rw [if_neg h, if_neg (fun q => h ⟨q.1.1, q.2⟩)]; rfl
theorem px_is2 {t0 t1 : Nat} {i : Nat} {v0 v1 : Int} : pz_p bl C rc rs pc ((.invokestatic i, n, a, 2, c, d, 0) :: r) ls ((t1, v1) :: (t0, v0) :: st) X = if pz_wt st ≤ 8 ∧ X.1.2.2.1 + c ≤ rc ∧ X.1.2.2.2.1 + d ≤ rs then pz_bx (C a [(t0, v0), (t1, v1)] (pz_z X)) X c d (fun v Y => pz_p bl C rc rs (pc + 3) r ls (v.toList ++ st) Y) else none := by
  rw [px_isg]
  by_cases h : pz_wt st ≤ 8 ∧ X.1.2.2.1 + c ≤ rc ∧ X.1.2.2.2.1 + d ≤ rs
  · rw [if_pos h]; exact if_pos ⟨⟨h.1, by simp⟩, h.2⟩
  · rw [if_neg h]; exact if_neg (fun q => h ⟨q.1.1, q.2⟩)
theorem px_iv3 {t0 t1 t2 : Nat} {i : Nat} {v0 v1 v2 x z : Int} : pz_p bl C rc rs pc ((.invokevirtual i, n, a, 3, c, d, z) :: r) ls ((t2, v2) :: (t1, v1) :: (t0, v0) :: (2, x) :: st) X = if pz_wt st ≤ 8 ∧ X.1.2.2.1 + c ≤ rc ∧ X.1.2.2.2.1 + d ≤ rs then pz_gfk X x z.toNat 0 (fun _ => pz_bx (C a [(2, x), (t0, v0), (t1, v1), (t2, v2)] (pz_z X)) X c d (fun v Y => pz_p bl C rc rs (pc + 3) r ls (v.toList ++ st) Y)) else none := by
  unfold pz_p pz_gfk pz_bx; rw [pz_go_cons]; simp only [pz_stp, List.drop, pz_gf]
  by_cases h : pz_wt st ≤ 8 ∧ X.1.2.2.1 + c ≤ rc ∧ X.1.2.2.2.1 + d ≤ rs
  · rw [if_pos h, if_pos ⟨⟨h.1, by simp⟩, h.2⟩]; rcases pz_sh X x with _ | ⟨q, m⟩
    · rfl
    · dsimp only; split
      · simp only [pz_cl, pz_af, List.take, List.reverse, List.reverseAux] <;> (rcases C a _ (pz_z X) with _ | ⟨v, Y⟩ <;> rfl)
      · rfl
  · rw [if_neg h, if_neg (fun q => h ⟨q.1.1, q.2⟩)]; rfl
theorem px_is3 {t0 t1 t2 : Nat} {i : Nat} {v0 v1 v2 : Int} : pz_p bl C rc rs pc ((.invokestatic i, n, a, 3, c, d, 0) :: r) ls ((t2, v2) :: (t1, v1) :: (t0, v0) :: st) X = if pz_wt st ≤ 8 ∧ X.1.2.2.1 + c ≤ rc ∧ X.1.2.2.2.1 + d ≤ rs then pz_bx (C a [(t0, v0), (t1, v1), (t2, v2)] (pz_z X)) X c d (fun v Y => pz_p bl C rc rs (pc + 3) r ls (v.toList ++ st) Y) else none := by
  rw [px_isg]
  by_cases h : pz_wt st ≤ 8 ∧ X.1.2.2.1 + c ≤ rc ∧ X.1.2.2.2.1 + d ≤ rs
  · rw [if_pos h]; exact if_pos ⟨⟨h.1, by simp⟩, h.2⟩
  · rw [if_neg h]; exact if_neg (fun q => h ⟨q.1.1, q.2⟩)
theorem px_iv4 {t0 t1 t2 t3 : Nat} {i : Nat} {v0 v1 v2 v3 x z : Int} : pz_p bl C rc rs pc ((.invokevirtual i, n, a, 4, c, d, z) :: r) ls ((t3, v3) :: (t2, v2) :: (t1, v1) :: (t0, v0) :: (2, x) :: st) X = if pz_wt st ≤ 8 ∧ X.1.2.2.1 + c ≤ rc ∧ X.1.2.2.2.1 + d ≤ rs then pz_gfk X x z.toNat 0 (fun _ => pz_bx (C a [(2, x), (t0, v0), (t1, v1), (t2, v2), (t3, v3)] (pz_z X)) X c d (fun v Y => pz_p bl C rc rs (pc + 3) r ls (v.toList ++ st) Y)) else none := by
  unfold pz_p pz_gfk pz_bx; rw [pz_go_cons]; simp only [pz_stp, List.drop, pz_gf]
  by_cases h : pz_wt st ≤ 8 ∧ X.1.2.2.1 + c ≤ rc ∧ X.1.2.2.2.1 + d ≤ rs
  · rw [if_pos h, if_pos ⟨⟨h.1, by simp⟩, h.2⟩]; rcases pz_sh X x with _ | ⟨q, m⟩
    · rfl
    · dsimp only; split
      · simp only [pz_cl, pz_af, List.take, List.reverse, List.reverseAux] <;> (rcases C a _ (pz_z X) with _ | ⟨v, Y⟩ <;> rfl)
      · rfl
  · rw [if_neg h, if_neg (fun q => h ⟨q.1.1, q.2⟩)]; rfl
theorem px_is4 {t0 t1 t2 t3 : Nat} {i : Nat} {v0 v1 v2 v3 : Int} : pz_p bl C rc rs pc ((.invokestatic i, n, a, 4, c, d, 0) :: r) ls ((t3, v3) :: (t2, v2) :: (t1, v1) :: (t0, v0) :: st) X = if pz_wt st ≤ 8 ∧ X.1.2.2.1 + c ≤ rc ∧ X.1.2.2.2.1 + d ≤ rs then pz_bx (C a [(t0, v0), (t1, v1), (t2, v2), (t3, v3)] (pz_z X)) X c d (fun v Y => pz_p bl C rc rs (pc + 3) r ls (v.toList ++ st) Y) else none := by
  rw [px_isg]
  by_cases h : pz_wt st ≤ 8 ∧ X.1.2.2.1 + c ≤ rc ∧ X.1.2.2.2.1 + d ≤ rs
  · rw [if_pos h]; exact if_pos ⟨⟨h.1, by simp⟩, h.2⟩
  · rw [if_neg h]; exact if_neg (fun q => h ⟨q.1.1, q.2⟩)
theorem px_iv5 {t0 t1 t2 t3 t4 : Nat} {i : Nat} {v0 v1 v2 v3 v4 x z : Int} : pz_p bl C rc rs pc ((.invokevirtual i, n, a, 5, c, d, z) :: r) ls ((t4, v4) :: (t3, v3) :: (t2, v2) :: (t1, v1) :: (t0, v0) :: (2, x) :: st) X = if pz_wt st ≤ 8 ∧ X.1.2.2.1 + c ≤ rc ∧ X.1.2.2.2.1 + d ≤ rs then pz_gfk X x z.toNat 0 (fun _ => pz_bx (C a [(2, x), (t0, v0), (t1, v1), (t2, v2), (t3, v3), (t4, v4)] (pz_z X)) X c d (fun v Y => pz_p bl C rc rs (pc + 3) r ls (v.toList ++ st) Y)) else none := by
  unfold pz_p pz_gfk pz_bx; rw [pz_go_cons]; simp only [pz_stp, List.drop, pz_gf]
  by_cases h : pz_wt st ≤ 8 ∧ X.1.2.2.1 + c ≤ rc ∧ X.1.2.2.2.1 + d ≤ rs
  · rw [if_pos h, if_pos ⟨⟨h.1, by simp⟩, h.2⟩]; rcases pz_sh X x with _ | ⟨q, m⟩
    · rfl
    · dsimp only; split
      · simp only [pz_cl, pz_af, List.take, List.reverse, List.reverseAux] <;> (rcases C a _ (pz_z X) with _ | ⟨v, Y⟩ <;> rfl)
      · rfl
  · rw [if_neg h, if_neg (fun q => h ⟨q.1.1, q.2⟩)]; rfl
theorem px_is5 {t0 t1 t2 t3 t4 : Nat} {i : Nat} {v0 v1 v2 v3 v4 : Int} : pz_p bl C rc rs pc ((.invokestatic i, n, a, 5, c, d, 0) :: r) ls ((t4, v4) :: (t3, v3) :: (t2, v2) :: (t1, v1) :: (t0, v0) :: st) X = if pz_wt st ≤ 8 ∧ X.1.2.2.1 + c ≤ rc ∧ X.1.2.2.2.1 + d ≤ rs then pz_bx (C a [(t0, v0), (t1, v1), (t2, v2), (t3, v3), (t4, v4)] (pz_z X)) X c d (fun v Y => pz_p bl C rc rs (pc + 3) r ls (v.toList ++ st) Y) else none := by
  rw [px_isg]
  by_cases h : pz_wt st ≤ 8 ∧ X.1.2.2.1 + c ≤ rc ∧ X.1.2.2.2.1 + d ≤ rs
  · rw [if_pos h]; exact if_pos ⟨⟨h.1, by simp⟩, h.2⟩
  · rw [if_neg h]; exact if_neg (fun q => h ⟨q.1.1, q.2⟩)
theorem px_iv6 {t0 t1 t2 t3 t4 t5 : Nat} {i : Nat} {v0 v1 v2 v3 v4 v5 x z : Int} : pz_p bl C rc rs pc ((.invokevirtual i, n, a, 6, c, d, z) :: r) ls ((t5, v5) :: (t4, v4) :: (t3, v3) :: (t2, v2) :: (t1, v1) :: (t0, v0) :: (2, x) :: st) X = if pz_wt st ≤ 8 ∧ X.1.2.2.1 + c ≤ rc ∧ X.1.2.2.2.1 + d ≤ rs then pz_gfk X x z.toNat 0 (fun _ => pz_bx (C a [(2, x), (t0, v0), (t1, v1), (t2, v2), (t3, v3), (t4, v4), (t5, v5)] (pz_z X)) X c d (fun v Y => pz_p bl C rc rs (pc + 3) r ls (v.toList ++ st) Y)) else none := by
  unfold pz_p pz_gfk pz_bx; rw [pz_go_cons]; simp only [pz_stp, List.drop, pz_gf]
  by_cases h : pz_wt st ≤ 8 ∧ X.1.2.2.1 + c ≤ rc ∧ X.1.2.2.2.1 + d ≤ rs
  · rw [if_pos h, if_pos ⟨⟨h.1, by simp⟩, h.2⟩]; rcases pz_sh X x with _ | ⟨q, m⟩
    · rfl
    · dsimp only; split
      · simp only [pz_cl, pz_af, List.take, List.reverse, List.reverseAux] <;> (rcases C a _ (pz_z X) with _ | ⟨v, Y⟩ <;> rfl)
      · rfl
  · rw [if_neg h, if_neg (fun q => h ⟨q.1.1, q.2⟩)]; rfl
theorem px_is6 {t0 t1 t2 t3 t4 t5 : Nat} {i : Nat} {v0 v1 v2 v3 v4 v5 : Int} : pz_p bl C rc rs pc ((.invokestatic i, n, a, 6, c, d, 0) :: r) ls ((t5, v5) :: (t4, v4) :: (t3, v3) :: (t2, v2) :: (t1, v1) :: (t0, v0) :: st) X = if pz_wt st ≤ 8 ∧ X.1.2.2.1 + c ≤ rc ∧ X.1.2.2.2.1 + d ≤ rs then pz_bx (C a [(t0, v0), (t1, v1), (t2, v2), (t3, v3), (t4, v4), (t5, v5)] (pz_z X)) X c d (fun v Y => pz_p bl C rc rs (pc + 3) r ls (v.toList ++ st) Y) else none := by
  rw [px_isg]
  by_cases h : pz_wt st ≤ 8 ∧ X.1.2.2.1 + c ≤ rc ∧ X.1.2.2.2.1 + d ≤ rs
  · rw [if_pos h]; exact if_pos ⟨⟨h.1, by simp⟩, h.2⟩
  · rw [if_neg h]; exact if_neg (fun q => h ⟨q.1.1, q.2⟩)
theorem px_max {i : Nat} {x y : Int} : pz_p bl C rc rs pc ((.invokestatic i, n, a, b, c, d, 2) :: r) ls ((0, y) :: (0, x) :: st) X = if pz_wt st ≤ 8 ∧ X.1.2.2.1 ≤ rc ∧ X.1.2.2.2.1 ≤ rs then pz_p bl C rc rs (pc + n) r ls ((0, max x y) :: st) X else none := by
  unfold pz_p; rw [pz_go_cons]; simp only [pz_stp, pz_u1, pz_u2, pz_l2]
  rw [if_neg (by decide), if_pos trivial]
  split <;> rfl
theorem px_min {i : Nat} {x y : Int} : pz_p bl C rc rs pc ((.invokestatic i, n, a, b, c, d, 3) :: r) ls ((0, y) :: (0, x) :: st) X = if pz_wt st ≤ 8 ∧ X.1.2.2.1 ≤ rc ∧ X.1.2.2.2.1 ≤ rs then pz_p bl C rc rs (pc + n) r ls ((0, min x y) :: st) X else none := by
  unfold pz_p; rw [pz_go_cons]; simp only [pz_stp, pz_u1, pz_u2, pz_l2]
  rw [if_neg (by decide), if_neg (by decide), if_pos trivial]
  split <;> rfl
theorem px_abs {i : Nat} {x : Int} : pz_p bl C rc rs pc ((.invokestatic i, n, a, b, c, d, 4) :: r) ls ((0, x) :: st) X = if pz_wt st ≤ 8 ∧ X.1.2.2.1 ≤ rc ∧ X.1.2.2.2.1 ≤ rs then pz_p bl C rc rs (pc + n) r ls ((0, if 0 ≤ x then x else pz_w32 (0 - x)) :: st) X else none := by
  unfold pz_p; rw [pz_go_cons]; simp only [pz_stp, pz_u1, pz_u2, pz_l2]
  rw [if_neg (by decide), if_neg (by decide), if_neg (by decide), if_pos trivial]
  split <;> rfl
theorem px_maxJ {i : Nat} {x y : Int} : pz_p bl C rc rs pc ((.invokestatic i, n, a, b, c, d, 5) :: r) ls ((1, y) :: (1, x) :: st) X = if pz_wt st ≤ 8 ∧ X.1.2.2.1 ≤ rc ∧ X.1.2.2.2.1 ≤ rs then pz_p bl C rc rs (pc + n) r ls ((1, max x y) :: st) X else none := by
  unfold pz_p; rw [pz_go_cons]; simp only [pz_stp, pz_u1, pz_u2, pz_l2]
  rw [if_neg (by decide), if_neg (by decide), if_neg (by decide), if_neg (by decide), if_pos trivial]
  split <;> rfl
theorem px_minJ {i : Nat} {x y : Int} : pz_p bl C rc rs pc ((.invokestatic i, n, a, b, c, d, 6) :: r) ls ((1, y) :: (1, x) :: st) X = if pz_wt st ≤ 8 ∧ X.1.2.2.1 ≤ rc ∧ X.1.2.2.2.1 ≤ rs then pz_p bl C rc rs (pc + n) r ls ((1, min x y) :: st) X else none := by
  unfold pz_p; rw [pz_go_cons]; simp only [pz_stp, pz_u1, pz_u2, pz_l2]
  rw [if_neg (by decide), if_neg (by decide), if_neg (by decide), if_neg (by decide), if_neg (by decide), if_pos trivial]
  split <;> rfl
theorem px_ii0 {i : Nat} {x : Int} : pz_p bl C rc rs pc ((.invokespecial i, n, a, 0, c, d, 0) :: r) ls ((2, x) :: st) X = if (pz_wt st ≤ 8 ∧ X.1.2.2.1 + c ≤ rc ∧ X.1.2.2.2.1 + d ≤ rs) ∧ 0 ≤ x ∧ x < 4096 then pz_bx (C a [(2, x)] (pz_z X)) X c d (fun v Y => pz_p bl C rc rs (pc + 3) r ls (v.toList ++ st) Y) else none := by
  unfold pz_p pz_bx; rw [pz_go_cons]; show pz_af _ _ _ _ _ _ _ _ _ _ (if ((pz_wt st ≤ 8 ∧ 0 ≤ ((2, x) :: st : List pz_V).length) ∧ X.1.2.2.1 + c ≤ rc ∧ X.1.2.2.2.1 + d ≤ rs) ∧ 0 ≤ x ∧ x < 4096 then (if (0 : Int) = 1 then _ else _) else none) = _
  by_cases h : (pz_wt st ≤ 8 ∧ X.1.2.2.1 + c ≤ rc ∧ X.1.2.2.2.1 + d ≤ rs) ∧ 0 ≤ x ∧ x < 4096
  · rw [if_pos h, if_pos ⟨⟨⟨h.1.1, by simp⟩, h.1.2⟩, h.2⟩, if_neg (by decide)]
    simp only [pz_cl, pz_af, List.take, List.reverse, List.reverseAux] <;> (rcases C a _ (pz_z X) with _ | ⟨v, Y⟩ <;> rfl)
  · rw [if_neg h, if_neg (fun q => h ⟨⟨q.1.1.1, q.1.2⟩, q.2⟩)]; rfl
theorem px_ii1 {t0 : Nat} {i : Nat} {v0 x : Int} : pz_p bl C rc rs pc ((.invokespecial i, n, a, 1, c, d, 0) :: r) ls ((t0, v0) :: (2, x) :: st) X = if (pz_wt st ≤ 8 ∧ X.1.2.2.1 + c ≤ rc ∧ X.1.2.2.2.1 + d ≤ rs) ∧ 0 ≤ x ∧ x < 4096 then pz_bx (C a [(2, x), (t0, v0)] (pz_z X)) X c d (fun v Y => pz_p bl C rc rs (pc + 3) r ls (v.toList ++ st) Y) else none := by
  unfold pz_p pz_bx; rw [pz_go_cons]; show pz_af _ _ _ _ _ _ _ _ _ _ (if ((pz_wt st ≤ 8 ∧ 1 ≤ ((t0, v0) :: (2, x) :: st : List pz_V).length) ∧ X.1.2.2.1 + c ≤ rc ∧ X.1.2.2.2.1 + d ≤ rs) ∧ 0 ≤ x ∧ x < 4096 then (if (0 : Int) = 1 then _ else _) else none) = _
  by_cases h : (pz_wt st ≤ 8 ∧ X.1.2.2.1 + c ≤ rc ∧ X.1.2.2.2.1 + d ≤ rs) ∧ 0 ≤ x ∧ x < 4096
  · rw [if_pos h, if_pos ⟨⟨⟨h.1.1, by simp⟩, h.1.2⟩, h.2⟩, if_neg (by decide)]
    simp only [pz_cl, pz_af, List.take, List.reverse, List.reverseAux] <;> (rcases C a _ (pz_z X) with _ | ⟨v, Y⟩ <;> rfl)
  · rw [if_neg h, if_neg (fun q => h ⟨⟨q.1.1.1, q.1.2⟩, q.2⟩)]; rfl
theorem px_iio {i : Nat} {x : Int} : pz_p bl C rc rs pc ((.invokespecial i, n, a, 0, c, d, 1) :: r) ls ((2, x) :: st) X = if (pz_wt st ≤ 8 ∧ X.1.2.2.1 + c ≤ rc ∧ X.1.2.2.2.1 + d ≤ rs) ∧ 0 ≤ x ∧ x < 4096 then pz_p bl C rc rs (pc + n) r ls st X else none := by
  unfold pz_p; rw [pz_go_cons]; show pz_af _ _ _ _ _ _ _ _ _ _ (if ((pz_wt st ≤ 8 ∧ 0 ≤ ((2, x) :: st : List pz_V).length) ∧ X.1.2.2.1 + c ≤ rc ∧ X.1.2.2.2.1 + d ≤ rs) ∧ 0 ≤ x ∧ x < 4096 then (if (1 : Int) = 1 then _ else _) else none) = _
  by_cases h : (pz_wt st ≤ 8 ∧ X.1.2.2.1 + c ≤ rc ∧ X.1.2.2.2.1 + d ≤ rs) ∧ 0 ≤ x ∧ x < 4096
  · rw [if_pos h, if_pos ⟨⟨⟨h.1.1, by simp⟩, h.1.2⟩, h.2⟩, if_pos rfl]; rfl
  · rw [if_neg h, if_neg (fun q => h ⟨⟨q.1.1.1, q.1.2⟩, q.2⟩)]; rfl
end PxRows
