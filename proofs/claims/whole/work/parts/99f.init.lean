/-! HOW BOTH BEGIN: the constructors -/
section P9f
variable {bl : List (Nat × List pz_E)} {C : Nat → List pz_V → pz_X → pz_A} {rc rs pc : Nat} {r : List pz_E} {ls st : List pz_V} {ss : List (Nat × Nat)} {M : pz_M} {n a b c d : Nat} {z : Int} {k c0 s0 : Nat}
theorem SH_l : pz_SH.length = 179 := by decide +kernel
theorem tk_l (h : k ≤ 179) : (pz_SH.take k).length = k := by rw [List.length_take, SH_l]; omega
theorem SH_k {p : Nat × Nat} (h : pz_SH[k]? = some p) : k < 179 := by
  have := (List.getElem?_eq_some_iff.mp h).1
  rw [SH_l] at this; exact this
theorem tk_s {p : Nat × Nat} (h : pz_SH[k]? = some p) : pz_SH.take k ++ [p] = pz_SH.take (k + 1) := by
  rw [List.take_succ, h]; rfl
theorem tk_f : pz_SH.take 179 = pz_SH := by decide +kernel
theorem sh_t {g : Nat × Nat × Nat} {x : Int} (h0 : 0 ≤ x) (h1 : x < (k : Int)) (h2 : k ≤ 179) : pz_sh ((pz_SH.take k, ss, g), M) x = pz_SH[x.toNat]? := by
  unfold pz_sh
  rw [if_neg (by omega), if_pos (by omega)]
  exact List.getElem?_take_of_lt (by omega)
theorem n_new {i : Nat} (h : pz_SH[k]? = some (a, b)) (h1 : c0 + 1 ≤ rc) (h2 : s0 + b ≤ rs) : pz_p bl C rc rs pc (((.new i : Instr), n, a, b, c, d, z) :: r) ls st ((pz_SH.take k, ss, c0, s0, 0), M) = pz_p bl C rc rs (pc + n) r ls ((2, (k : Int)) :: st) ((pz_SH.take (k + 1), ss, c0 + 1, s0 + b, 0), pz_nw M k (fun j => pz_df (pz_tf a j))) := by
  have hk := SH_k h
  have hl := tk_l (k := k) (by omega)
  unfold pz_p; rw [pz_go_cons]; simp only [pz_stp, pz_mk, hl]
  rw [if_pos ⟨h1, h2, by omega, trivial⟩, tk_s h]; rfl
theorem n_newa {i : _} {x : Int} (h : pz_SH[k]? = some (a, x.toNat)) (h0 : 0 ≤ x ∧ x ≤ 60000) (h1 : c0 + 1 ≤ rc) (h2 : s0 + x.toNat ≤ rs) : pz_p bl C rc rs pc (((.newarray i : Instr), n, a, b, c, d, z) :: r) ls ((0, x) :: st) ((pz_SH.take k, ss, c0, s0, 0), M) = pz_p bl C rc rs (pc + n) r ls ((2, (k : Int)) :: st) ((pz_SH.take (k + 1), ss, c0 + 1, s0 + x.toNat, 0), pz_nw M k (fun _ => 0)) := by
  have hk := SH_k h
  have hl := tk_l (k := k) (by omega)
  unfold pz_p; rw [pz_go_cons]; simp only [pz_stp, pz_u1, pz_mk, hl]
  rw [if_pos h0, if_pos ⟨h1, h2, by omega, trivial⟩, tk_s h]; rfl
theorem n_anew {i : Nat} {x : Int} (h : pz_SH[k]? = some (a, x.toNat)) (h0 : 0 ≤ x ∧ x ≤ 60000) (h1 : c0 + 1 ≤ rc) (h2 : s0 + x.toNat ≤ rs) : pz_p bl C rc rs pc (((.anewarray i : Instr), n, a, b, c, d, z) :: r) ls ((0, x) :: st) ((pz_SH.take k, ss, c0, s0, 0), M) = pz_p bl C rc rs (pc + n) r ls ((2, (k : Int)) :: st) ((pz_SH.take (k + 1), ss, c0 + 1, s0 + x.toNat, 0), pz_nw M k (fun _ => -1)) := by
  have hk := SH_k h
  have hl := tk_l (k := k) (by omega)
  unfold pz_p; rw [pz_go_cons]; simp only [pz_stp, pz_u1, pz_mk, hl]
  rw [if_pos h0, if_pos ⟨h1, h2, by omega, trivial⟩, tk_s h]; rfl
/-- nine rows of seventy-three -/
def nM (M : pz_M) (k : Nat) : pz_M := fun p q => if p < k then M p q else if p = k then (k : Int) + 1 + q else if p ≤ k + 9 then 0 else M p q
theorem n_multi {i : _} {j : _} (h : pz_SH.take k ++ ((104, 9) :: List.replicate 9 (101, 73)) = pz_SH.take (k + 10)) (hk : k ≤ 160) (h1 : c0 + 10 ≤ rc) (h2 : s0 + 666 ≤ rs) : pz_p bl C rc rs pc (((.multianewarray i j : Instr), n, a, b, c, d, z) :: r) ls ((0, 73) :: (0, 9) :: st) ((pz_SH.take k, ss, c0, s0, 0), M) = pz_p bl C rc rs (pc + n) r ls ((2, (k : Int)) :: st) ((pz_SH.take (k + 10), ss, c0 + 10, s0 + 666, 0), nM M k) := by
  have hl := tk_l (k := k) (by omega)
  have e1 : (9 : Int).toNat = 9 := rfl
  have e2 : (73 : Int).toNat = 73 := rfl
  unfold pz_p; rw [pz_go_cons]; simp only [pz_stp, pz_u2, pz_mk, hl, e1, e2]
  rw [if_pos (by decide), if_pos ⟨h1, h2, by omega, trivial⟩, h]; rfl
theorem n_aast {X : pz_X} {x i v : Int} {m m2 : Nat} (h1 : pz_sh X x = some (a, m)) (h2 : x < 4096 ∧ 0 ≤ i ∧ i < (m : Int)) (h3 : pz_sh X v = some (b, m2)) (h4 : v < 4096 ∧ 0 < m2) : pz_p bl C rc rs pc (((.aastore : Instr), n, a, b, c, d, z) :: r) ls ((2, v) :: (0, i) :: (2, x) :: st) X = pz_p bl C rc rs (pc + n) r ls st (X.1, pz_up X.2 x.toNat i.toNat v) := by
  unfold pz_p; rw [pz_go_cons]; simp only [pz_stp, pz_av, pz_as, pz_gf, h1, h3, if_true]
  rw [if_pos ⟨trivial, h2.1, h2.2.1, h2.2.2⟩, if_pos ⟨trivial, h4.1, h4.2⟩]; rfl
end P9f
