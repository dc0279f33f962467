/-! floats, 3: the low and the high bits of an int -/
theorem i1_bi {x : Int} (h : -2147483648 ≤ x ∧ x < 2147483648) : (i1 x).toBitVec.toInt = x := w32_id h
theorem ishr23 {x : Int} (h : -2147483648 ≤ x ∧ x < 2147483648) : (i1 x >>> (i1 23 &&& 31)).toInt = x / 8388608 := by
  have e0 : (i1 23 &&& 31) = Int32.ofNat 23 := by decide +kernel
  have e1 : ((Int32.ofNat 23).toBitVec.smod 32).toNat = 23 := by decide +kernel
  rw [e0]
  show ((i1 x >>> Int32.ofNat 23).toBitVec).toInt = _
  rw [Int32.toBitVec_shiftRight, BitVec.sshiftRight', e1, BitVec.toInt_sshiftRight, Int.shiftRight_eq_div_pow, i1_bi h]
  rfl
theorem i1_nat {x : Int} (h : -2147483648 ≤ x ∧ x < 2147483648) : ((i1 x).toBitVec.toNat : Int) = x % 4294967296 := by
  have e := i1_bi h
  have h1 := BitVec.toInt_eq_toNat_cond (i1 x).toBitVec
  have h3 := (i1 x).toBitVec.isLt
  rw [e] at h1
  split at h1 <;> omega
theorem iand_v {x : Int} {k : Nat} (h : -2147483648 ≤ x ∧ x < 2147483648) (m : Int) (hm : (i1 m).toBitVec.toNat = 2 ^ k - 1) (hk : k < 31) : (i1 x &&& i1 m).toInt = x % 2 ^ k := by
  have hle : 2 ^ k ≤ 2 ^ 30 := Nat.pow_le_pow_right (by decide) (by omega)
  have hpos : 0 < 2 ^ k := Nat.two_pow_pos k
  have e : (i1 x &&& i1 m).toBitVec.toNat = (i1 x).toBitVec.toNat % 2 ^ k := by
    rw [Int32.toBitVec_and, BitVec.toNat_and, hm, Nat.and_two_pow_sub_one_eq_mod]
  have hlt : (i1 x).toBitVec.toNat % 2 ^ k < 2 ^ k := Nat.mod_lt _ hpos
  have h1 := BitVec.toInt_eq_toNat_cond (i1 x &&& i1 m).toBitVec
  rw [e, if_pos (by omega)] at h1
  have h2 : (i1 x &&& i1 m).toInt = (((i1 x).toBitVec.toNat % 2 ^ k : Nat) : Int) := h1
  have hd : ((2 ^ k : Nat) : Int) ∣ 4294967296 := by
    refine ⟨((2 ^ (32 - k) : Nat) : Int), ?_⟩
    rw [← Int.natCast_mul, ← Nat.pow_add, show k + (32 - k) = 32 by omega]
    rfl
  have hp : (2 : Int) ^ k = ((2 ^ k : Nat) : Int) := by rw [Int.natCast_pow]; rfl
  rw [h2, Int.natCast_emod, i1_nat h, Int.emod_emod_of_dvd _ hd, hp]
