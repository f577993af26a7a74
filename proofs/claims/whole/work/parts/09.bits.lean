/-! BITS: sets of cats as numbers -/
theorem pn_or_add {a : Int} {k : Nat} (h0 : 0 ≤ a) (h1 : a < 2 ^ k) (hk : k ≤ 30) : pz_or a (2 ^ k) = a + 2 ^ k := by
  unfold pz_or
  have hp : (2 : Nat) ^ k ≤ 2 ^ 30 := Nat.pow_le_pow_right (by decide) hk
  have e0 := pn_2p k
  rw [← Int32.toInt_toBitVec, Int32.toBitVec_or, Int32.toBitVec_ofInt, Int32.toBitVec_ofInt]
  have ea : (BitVec.ofInt 32 a).toNat = a.toNat := by
    rw [BitVec.toNat_ofInt, Int.emod_eq_of_lt h0 (by norm_cast; omega)]
  have eb : (BitVec.ofInt 32 ((2 : Int) ^ k)).toNat = 2 ^ k := by
    rw [BitVec.toNat_ofInt, ← e0, Int.emod_eq_of_lt (by omega) (by norm_cast; omega)]
    omega
  have e2 : (BitVec.ofInt 32 a ||| BitVec.ofInt 32 ((2 : Int) ^ k)).toNat = a.toNat + 2 ^ k := by
    rw [BitVec.toNat_or, ea, eb]
    have h9 := Nat.two_pow_add_eq_or_of_lt (i := k) (b := a.toNat) (by omega) 1
    rw [Nat.mul_one] at h9
    rw [Nat.or_comm, ← h9]
    omega
  rw [BitVec.toInt_eq_toNat_of_lt (by rw [e2]; omega), e2]
  omega
theorem pn_1shl {k : Nat} (hk : k ≤ 30) : pz_shl 1 (k : Int) = 2 ^ k := by
  have hp : (2 : Nat) ^ k ≤ 2 ^ 30 := Nat.pow_le_pow_right (by decide) hk
  have e0 := pn_2p k
  have e := pn_shl (z := 1) (k := (k : Int)) (by decide) (by omega) (by omega) (by rw [Int.toNat_natCast, Int.one_mul]; omega)
  rw [e, Int.toNat_natCast, Int.one_mul]
/-- the cats below n that serve, by a court's row -/
def srv (row : Nat → Int) : Nat → Int
  | 0 => 0
  | n + 1 => if row (7 + 7 * n + 6) = 0 then srv row n + 2 ^ n else srv row n
theorem srv_lt (row : Nat → Int) : ∀ n, 0 ≤ srv row n ∧ srv row n < 2 ^ n
  | 0 => ⟨Int.le_refl 0, (by decide : (0 : Int) < 2 ^ 0)⟩
  | n + 1 => by
    have h := srv_lt row n
    have e := Int.pow_succ (2 : Int) n
    have := pn_2p1 n
    unfold srv
    split <;> omega
