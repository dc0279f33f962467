/-! floats, 1: shifts over whole numbers -/
theorem sh63 : ∀ k : Nat, k < 64 → ((i1 (k : Int)).toInt64 &&& 63) = Int64.ofNat k := by decide +kernel
theorem sh63b : ∀ k : Nat, k < 64 → ((Int64.ofNat k).toBitVec.smod 64).toNat = k := by decide +kernel
theorem twp : ∀ k : Nat, k < 63 → (BitVec.twoPow 64 k).toInt = 2 ^ k := by decide +kernel
theorem lshr_v {x : Int} {k : Nat} (h : -9223372036854775808 ≤ x ∧ x < 9223372036854775808) (hk : k < 64) : (l1 x >>> ((i1 (k : Int)).toInt64 &&& 63)).toInt = x / 2 ^ k := by
  rw [sh63 k hk]
  show ((l1 x >>> Int64.ofNat k).toBitVec).toInt = _
  rw [Int64.toBitVec_shiftRight, BitVec.sshiftRight', sh63b k hk, BitVec.toInt_sshiftRight, Int.shiftRight_eq_div_pow]
  have e : (l1 x).toBitVec.toInt = x := w64_id h
  rw [e, Int.natCast_pow]
  rfl
theorem lshl_v {x : Int} {k : Nat} (h : -9223372036854775808 ≤ x ∧ x < 9223372036854775808) (h2 : -9223372036854775808 ≤ x * 2 ^ k ∧ x * 2 ^ k < 9223372036854775808) (hk : k < 63) : (l1 x <<< ((i1 (k : Int)).toInt64 &&& 63)).toInt = x * 2 ^ k := by
  rw [sh63 k (by omega)]
  show ((l1 x <<< Int64.ofNat k).toBitVec).toInt = _
  rw [Int64.toBitVec_shiftLeft, BitVec.shiftLeft_eq', sh63b k (by omega), BitVec.shiftLeft_eq_mul_twoPow, BitVec.toInt_mul, twp k hk]
  have e : (l1 x).toBitVec.toInt = x := w64_id h
  rw [e]
  generalize x * 2 ^ k = y at h2
  exact Int.bmod_eq_of_le (by omega) (by omega)
theorem l1_nat {x : Int} (h : 0 ≤ x ∧ x < 9223372036854775808) : (l1 x).toBitVec.toNat = x.toNat := by
  have e : (l1 x).toBitVec.toInt = x := w64_id ⟨by omega, by omega⟩
  have h1 := BitVec.toInt_eq_toNat_cond (l1 x).toBitVec
  have h3 := (l1 x).toBitVec.isLt
  rw [e] at h1
  split at h1 <;> omega
theorem toInt_nat {b : Int64} {n : Nat} (h : b.toBitVec.toNat = n) (hn : n < 9223372036854775808) : b.toInt = (n : Int) := by
  have h1 := BitVec.toInt_eq_toNat_cond b.toBitVec
  rw [h, if_pos (by omega)] at h1
  exact h1
theorem land_v {x : Int} {k : Nat} (h : 0 ≤ x ∧ x < 9223372036854775808) (hk : k < 63) : (l1 x &&& l1 (2 ^ k - 1)).toInt = x % 2 ^ k := by
  have hp : (2 : Int) ^ k = ((2 ^ k : Nat) : Int) := by rw [Int.natCast_pow]; rfl
  have hle : 2 ^ k ≤ 2 ^ 62 := Nat.pow_le_pow_right (by decide) (by omega)
  have hpos : 0 < 2 ^ k := Nat.two_pow_pos k
  have e2 : ((2 : Int) ^ k - 1).toNat = 2 ^ k - 1 := by omega
  have e : (l1 x &&& l1 (2 ^ k - 1)).toBitVec.toNat = x.toNat % 2 ^ k := by
    rw [Int64.toBitVec_and, BitVec.toNat_and, l1_nat h, l1_nat ⟨by omega, by omega⟩, e2, Nat.and_two_pow_sub_one_eq_mod]
  have hlt : x.toNat % 2 ^ k < 2 ^ k := Nat.mod_lt _ hpos
  rw [toInt_nat e (by omega), hp]
  have : x = (x.toNat : Int) := by omega
  rw [this, Int.toNat_natCast, Int.natCast_emod]
theorem lor_v {a b : Int} {k : Nat} (ha : 0 ≤ a ∧ a < 2 ^ k) (hb : 0 ≤ b) (h2 : b * 2 ^ k + a < 9223372036854775808) : (l1 a ||| l1 (b * 2 ^ k)).toInt = b * 2 ^ k + a := by
  have hp : (2 : Int) ^ k = ((2 ^ k : Nat) : Int) := by rw [Int.natCast_pow]; rfl
  have hbn : b = (b.toNat : Int) := by omega
  have hm : b * 2 ^ k = ((2 ^ k * b.toNat : Nat) : Int) := by rw [hp, hbn, Int.toNat_natCast, Nat.mul_comm]; rfl
  have e : (l1 a ||| l1 (b * 2 ^ k)).toBitVec.toNat = 2 ^ k * b.toNat + a.toNat := by
    rw [Int64.toBitVec_or, BitVec.toNat_or, l1_nat ⟨by omega, by omega⟩, l1_nat ⟨by omega, by omega⟩, hm, Int.toNat_natCast, Nat.or_comm, Nat.two_pow_add_eq_or_of_lt (by omega)]
  rw [toInt_nat e (by omega), hm]
  omega
