/-! NUMBERS of the pure machine -/
theorem w32_id {z : Int} (h1 : -2147483648 ≤ z) (h2 : z < 2147483648) : pz_w32 z = z := pz_to32 ⟨h1, h2⟩
theorem w64_id {z : Int} (h1 : -9223372036854775808 ≤ z) (h2 : z < 9223372036854775808) : pz_w64 z = z := pz_to64 ⟨h1, h2⟩
theorem pn_bmod32 {z : Int} (h1 : -2147483648 ≤ z) (h2 : z < 2147483648) : z.bmod (2 ^ 32) = z := by
  have e : (Int32.ofInt z).toInt = z.bmod (2 ^ 32) := Int32.toInt_ofInt
  rw [pz_to32 ⟨h1, h2⟩] at e
  exact e.symm
theorem pn_bmod64 {z : Int} (h1 : -9223372036854775808 ≤ z) (h2 : z < 9223372036854775808) : z.bmod (2 ^ 64) = z := by
  have e : (Int64.ofInt z).toInt = z.bmod (2 ^ 64) := Int64.toInt_ofInt
  rw [pz_to64 ⟨h1, h2⟩] at e
  exact e.symm
theorem pn_div {a b : Int} (ha : 0 ≤ a) (ha2 : a < 2147483648) (hb : 0 < b) (hb2 : b < 2147483648) : pz_div a b = a / b := by
  unfold pz_div
  rw [Int32.toInt_div, pz_to32 ⟨by omega, ha2⟩, pz_to32 ⟨by omega, hb2⟩, Int.tdiv_eq_ediv_of_nonneg ha]
  have h1 : 0 ≤ a / b := Int.ediv_nonneg ha (by omega)
  have h2 : a / b ≤ a := Int.ediv_le_self b ha
  exact pn_bmod32 (by omega) (by omega)
theorem pn_ldiv {a b : Int} (ha : 0 ≤ a) (ha2 : a < 9223372036854775808) (hb : 0 < b) (hb2 : b < 9223372036854775808) : pz_ldiv a b = a / b := by
  unfold pz_ldiv
  rw [Int64.toInt_div, pz_to64 ⟨by omega, ha2⟩, pz_to64 ⟨by omega, hb2⟩, Int.tdiv_eq_ediv_of_nonneg ha]
  have h1 : 0 ≤ a / b := Int.ediv_nonneg ha (by omega)
  have h2 : a / b ≤ a := Int.ediv_le_self b ha
  exact pn_bmod64 (by omega) (by omega)
theorem pn_rem {a b : Int} (ha : 0 ≤ a) (ha2 : a < 2147483648) (hb : 0 < b) (hb2 : b < 2147483648) : pz_rem a b = a % b := by
  have hd : Int32.ofInt a / Int32.ofInt b = Int32.ofInt (a / b) := by
    rw [← pn_div ha ha2 hb hb2]
    unfold pz_div
    rw [pz_of32]
  unfold pz_rem
  rw [hd, ← Int32.ofInt_mul, ← Int32.ofInt_sub]
  have h1 : 0 ≤ a % b := Int.emod_nonneg a (by omega)
  have h2 : a % b < b := Int.emod_lt_of_pos a hb
  have h3 : a - a / b * b = a % b := by
    have := Int.emod_add_mul_ediv a b
    rw [Int.mul_comm b] at this
    omega
  rw [h3]
  exact pz_to32 ⟨by omega, by omega⟩
theorem pn_lrem {a b : Int} (ha : 0 ≤ a) (ha2 : a < 9223372036854775808) (hb : 0 < b) (hb2 : b < 9223372036854775808) : pz_lrem a b = a % b := by
  have hd : Int64.ofInt a / Int64.ofInt b = Int64.ofInt (a / b) := by
    rw [← pn_ldiv ha ha2 hb hb2]
    unfold pz_ldiv
    rw [pz_of64]
  unfold pz_lrem
  rw [hd, ← Int64.ofInt_mul, ← Int64.ofInt_sub]
  have h1 : 0 ≤ a % b := Int.emod_nonneg a (by omega)
  have h2 : a % b < b := Int.emod_lt_of_pos a hb
  have h3 : a - a / b * b = a % b := by
    have := Int.emod_add_mul_ediv a b
    rw [Int.mul_comm b] at this
    omega
  rw [h3]
  exact pz_to64 ⟨by omega, by omega⟩
theorem pn_sm : ∀ k : Nat, k < 32 → ((Int32.ofInt (k : Int) &&& 31).toBitVec.smod 32).toNat = k := by decide
theorem pn_shr {z k : Int} (h1 : -2147483648 ≤ z) (h2 : z < 2147483648) (hk : 0 ≤ k) (hk2 : k < 32) : pz_shr z k = z / 2 ^ k.toNat := by
  unfold pz_shr
  have e := pn_sm k.toNat (by omega)
  rw [show ((k.toNat : Nat) : Int) = k by omega] at e
  rw [pk_shr _ _ _ e, pz_to32 ⟨h1, h2⟩, Int.shiftRight_eq_div_pow]
  norm_cast
theorem pn_2p (j : Nat) : ((2 ^ j : Nat) : Int) = (2 : Int) ^ j := by
  rw [Int.natCast_pow]
  rfl
theorem pn_2p1 (j : Nat) : 1 ≤ (2 : Int) ^ j := by
  have := Nat.one_le_two_pow (n := j)
  have := pn_2p j
  omega
theorem pn_shl {z k : Int} (hz : 0 ≤ z) (hk : 0 ≤ k) (hk2 : k < 32) (h : z * 2 ^ k.toNat < 2147483648) : pz_shl z k = z * 2 ^ k.toNat := by
  unfold pz_shl
  have e := pn_sm k.toNat (by omega)
  rw [show ((k.toNat : Nat) : Int) = k by omega] at e
  have h9 := pk_shl (Int32.ofInt z) _ _ e
  have hz2 : z < 2147483648 := by
    have : z * 1 ≤ z * 2 ^ k.toNat := Int.mul_le_mul_of_nonneg_left (pn_2p1 _) hz
    omega
  have e2 : (Int32.ofInt z).toBitVec.toNat = z.toNat := by
    rw [Int32.toBitVec_ofInt, BitVec.toNat_ofInt]
    rw [Int.emod_eq_of_lt hz (by norm_cast; omega)]
  rw [e2] at h9
  have e3 : ((z.toNat * 2 ^ k.toNat : Nat) : Int) = z * 2 ^ k.toNat := by
    rw [Int.natCast_mul, Int.natCast_pow]
    rw [show ((z.toNat : Nat) : Int) = z by omega]
    rfl
  rw [Nat.mod_eq_of_lt (by omega)] at h9
  rw [← Int32.toInt_toBitVec, BitVec.toInt_eq_toNat_of_lt (by rw [h9]; omega), h9, e3]
theorem pn_mask {z : Int} (j : Nat) (hj : j ≤ 30) : pz_and z (2 ^ j - 1) = z % 2 ^ j := by
  unfold pz_and
  rw [← Int32.toInt_toBitVec, Int32.toBitVec_and, Int32.toBitVec_ofInt, Int32.toBitVec_ofInt]
  have hp : (2 : Nat) ^ j ≤ 2 ^ 30 := Nat.pow_le_pow_right (by decide) hj
  have e1 : (BitVec.ofInt 32 ((2 : Int) ^ j - 1)).toNat = 2 ^ j - 1 := by
    rw [BitVec.toNat_ofInt]
    have e9 : ((2 : Int) ^ j - 1) = ((2 ^ j - 1 : Nat) : Int) := by
      have := Nat.one_le_two_pow (n := j)
      have := pn_2p j
      omega
    rw [e9]
    rw [Int.emod_eq_of_lt (by omega) (by norm_cast; omega)]
    omega
  have e2 : (BitVec.ofInt 32 z &&& BitVec.ofInt 32 ((2 : Int) ^ j - 1)).toNat = (BitVec.ofInt 32 z).toNat % 2 ^ j := by
    rw [BitVec.toNat_and, e1, Nat.and_two_pow_sub_one_eq_mod]
  have h3 : (BitVec.ofInt 32 z).toNat % 2 ^ j < 2 ^ j := Nat.mod_lt _ (Nat.two_pow_pos j)
  rw [BitVec.toInt_eq_toNat_of_lt (by rw [e2]; omega), e2, BitVec.toNat_ofInt]
  rw [Int.natCast_emod]
  rw [show (((z % ((2 ^ 32 : Nat) : Int)).toNat : Nat) : Int) = z % ((2 ^ 32 : Nat) : Int) by have := Int.emod_nonneg z (b := ((2 ^ 32 : Nat) : Int)) (by decide); omega]
  have hdv : ((2 ^ j : Nat) : Int) ∣ ((2 ^ 32 : Nat) : Int) := Int.natCast_dvd_natCast.mpr (Nat.pow_dvd_pow 2 (by omega))
  rw [Int.emod_emod_of_dvd _ hdv]
  norm_cast
theorem pn_and1 {z : Int} : pz_and z 1 = z % 2 := pn_mask 1 (by decide)
theorem pn_and3 {z : Int} : pz_and z 3 = z % 4 := pn_mask 2 (by decide)
theorem pn_and255 {z : Int} : pz_and z 255 = z % 256 := pn_mask 8 (by decide)
theorem pn_and63 {z : Int} : pz_and z 63 = z % 64 := pn_mask 6 (by decide)
