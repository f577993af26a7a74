section P09r
variable {bl : List (Nat × List pz_E)} {C : Nat → List pz_V → pz_X → pz_A} {rc rs pc n a b c d : Nat} {z : Int} {r : List pz_E} {ls st : List pz_V} {X : pz_X}
def pz_cpk (X : pz_X) (s t sp dp k : Int) (st : List pz_V) (g : pz_X → pz_A) : pz_A := match pz_sh X s, pz_sh X t with
  | some (100, n0), some (100, n1) => if s < 4096 ∧ t < 4096 ∧ 0 ≤ k ∧ 0 ≤ dp ∧ 0 ≤ sp ∧ sp + k ≤ n0 ∧ dp + k ≤ n1 ∧ pz_wt st ≤ 8 then g (X.1, pz_cp X.2 s.toNat t.toNat sp.toNat dp.toNat k.toNat) else none
  | _, _ => none
theorem px_copy {i : Nat} {k dp t sp s : Int} : pz_p bl C rc rs pc ((.invokestatic i, n, a, b, c, d, 1) :: r) ls ((0, k) :: (0, dp) :: (2, t) :: (0, sp) :: (2, s) :: st) X = pz_cpk X s t sp dp k st (fun Y => pz_p bl C rc rs (pc + n) r ls st Y) := by
  unfold pz_p pz_cpk; rw [pz_go_cons]; simp only [pz_stp]
  rw [if_pos trivial]
  generalize pz_sh X s = u
  generalize pz_sh X t = w
  by_cases h : ∃ n0 n1, u = some (100, n0) ∧ w = some (100, n1)
  · obtain ⟨n0, n1, rfl, rfl⟩ := h
    show pz_af _ _ _ _ _ _ _ _ _ _ (if s < 4096 ∧ t < 4096 ∧ 0 ≤ k ∧ 0 ≤ dp ∧ 0 ≤ sp ∧ sp + k ≤ n0 ∧ dp + k ≤ n1 ∧ pz_wt st ≤ 8 then _ else none) = if s < 4096 ∧ t < 4096 ∧ 0 ≤ k ∧ 0 ≤ dp ∧ 0 ≤ sp ∧ sp + k ≤ n0 ∧ dp + k ≤ n1 ∧ pz_wt st ≤ 8 then _ else none
    split <;> rfl
  · split
    next n0 n1 => exact absurd ⟨n0, n1, rfl, rfl⟩ h
    next =>
      show none = _
      first
        | rfl
        | (split
           next => exact absurd ⟨_, _, rfl, rfl⟩ h
           next => rfl)
end P09r
