/-! floats, 5: rounding, in units of the least number -/
theorem fz_ex (M B : Nat) (hB : 0 < B) : FP.Core.nearest (M * B) B = M := by
  unfold FP.Core.nearest
  rw [Nat.mul_mod_left, Nat.mul_div_cancel _ hB, if_pos (by omega)]
theorem fz_sc (A B k : Nat) (hk : 0 < k) : FP.Core.nearest (A * k) (B * k) = FP.Core.nearest A B := by
  have h1 : (2 * (A % B * k) < B * k) = (2 * (A % B) < B) := by
    rw [← Nat.mul_assoc]
    exact propext (Nat.mul_lt_mul_right hk)
  have h2 : (B * k < 2 * (A % B * k)) = (B < 2 * (A % B)) := by
    rw [← Nat.mul_assoc]
    exact propext (Nat.mul_lt_mul_right hk)
  unfold FP.Core.nearest
  simp only [Nat.mul_div_mul_right _ _ hk, Nat.mul_mod_mul_right, h1, h2]
theorem fz_ge {A B M : Nat} (hB : 0 < B) (h : M * B ≤ A) : M ≤ FP.Core.nearest A B := by
  have h1 : M ≤ A / B := (Nat.le_div_iff_mul_le hB).mpr h
  unfold FP.Core.nearest
  split
  · exact h1
  · split <;> omega
theorem fz_er (A B : Nat) (hB : 0 < B) : 2 * A ≤ 2 * (FP.Core.nearest A B * B) + B ∧ 2 * (FP.Core.nearest A B * B) ≤ 2 * A + B := by
  have hA := Nat.div_add_mod A B
  have hl := Nat.mod_lt A hB
  have e1 : (A / B + 1) * B = B * (A / B) + B := by rw [Nat.add_mul, Nat.one_mul, Nat.mul_comm]
  have e0 : A / B * B = B * (A / B) := Nat.mul_comm _ _
  unfold FP.Core.nearest
  split
  · rw [e0]
    generalize B * (A / B) = t at hA ⊢
    omega
  · split
    · rw [e1]
      generalize B * (A / B) = t at hA ⊢
      omega
    · by_cases hk : A / B % 2 = 0
      · rw [hk, Nat.add_zero, e0]
        generalize B * (A / B) = t at hA ⊢
        omega
      · rw [show A / B % 2 = 1 by omega, e1]
        generalize B * (A / B) = t at hA ⊢
        omega
theorem fz_le {A B M : Nat} (hB : 0 < B) (h : A ≤ M * B) : FP.Core.nearest A B ≤ M := by
  have h1 := (fz_er A B hB).2
  apply Nat.le_of_not_lt
  intro h2
  have h3 : (M + 1) * B ≤ FP.Core.nearest A B * B := Nat.mul_le_mul_right B h2
  rw [Nat.add_mul, Nat.one_mul] at h3
  generalize FP.Core.nearest A B * B = t at h1 h3
  generalize M * B = w at h h3
  omega
theorem fz_lg {A L : Nat} (h1 : 2 ^ L ≤ A) (h2 : A < 2 ^ (L + 1)) : A.log2 = L :=
  (Nat.log2_eq_iff (by have := Nat.two_pow_pos L; omega)).mpr ⟨h1, h2⟩
theorem fz_lgm (A L m : Nat) (h1 : 2 ^ L ≤ A) (h2 : A < 2 ^ (L + 1)) : (A * 2 ^ m).log2 = L + m := by
  apply fz_lg
  · rw [Nat.pow_add]
    exact Nat.mul_le_mul_right _ h1
  · rw [show L + m + 1 = L + 1 + m by omega, Nat.pow_add]
    exact Nat.mul_lt_mul_of_pos_right h2 (Nat.two_pow_pos m)
def mx (N : Nat) : Nat := (N.log2 - 23) * 8388608 + FP.Core.nearest N (2 ^ (N.log2 - 23))
def bX (X : Int) : Int := if X = 0 then 0 else (if X < 0 then -2147483648 else 0) + (mx X.natAbs : Int)
theorem fz_t : FP.Core.Fmt.tails FP.Core.b32 = 8388608 := by decide
theorem fz_x : FP.Core.Fmt.exps FP.Core.b32 = 256 := by decide
theorem fz_m : FP.Core.Fmt.qmin FP.Core.b32 = -149 := by decide
theorem fz_M : FP.Core.Fmt.qmax FP.Core.b32 = 104 := by decide
theorem fz_p : 2 ^ FP.Core.Fmt.p FP.Core.b32 = 16777216 := by decide
theorem fz_q (A L m : Nat) (hl : A.log2 = L) (h1 : 2 ^ L ≤ A) (hm : 23 ≤ L + m) : FP.Core.quantum FP.Core.b32 A 1 ((m : Int) - 149) = (L : Int) + m - 172 := by
  have e1 : FP.Core.leading A 1 = (L : Int) := by
    have e0 : (1 : Nat).log2 = 0 := by decide +kernel
    unfold FP.Core.leading
    rw [hl, e0]
    have a1 : ((L : Int) - ((0 : Nat) : Int)).toNat = L := by omega
    have a2 : (-((L : Int) - ((0 : Nat) : Int))).toNat = 0 := by omega
    dsimp only
    rw [a1, a2, if_pos (by rw [Nat.one_mul, Nat.pow_zero, Nat.mul_one]; exact h1)]
    omega
  have hp : ((FP.Core.Fmt.p FP.Core.b32 : Nat) : Int) = 24 := by decide
  unfold FP.Core.quantum
  rw [e1, fz_m, hp]
  omega
theorem fz_rn (A L m : Nat) (hm : 23 ≤ L + m) : FP.Core.nearest (FP.Core.unitsNum A ((m : Int) - 149) ((L : Int) + m - 172)) (FP.Core.unitsDen 1 ((m : Int) - 149) ((L : Int) + m - 172)) = FP.Core.nearest (A * 2 ^ m) (2 ^ (L + m - 23)) := by
  unfold FP.Core.unitsNum FP.Core.unitsDen
  have a1 : ((m : Int) - 149 - ((L : Int) + m - 172)).toNat = 23 - L := by omega
  have a2 : ((L : Int) + m - 172 - ((m : Int) - 149)).toNat = L - 23 := by omega
  rw [a1, a2, Nat.one_mul]
  by_cases h : 23 ≤ L
  · rw [show 23 - L = 0 by omega, Nat.pow_zero, Nat.mul_one, show L + m - 23 = L - 23 + m by omega, Nat.pow_add]
    exact (fz_sc _ _ _ (Nat.two_pow_pos m)).symm
  · have b1 := fz_ex (A * 2 ^ (23 - L)) 1 (by decide)
    rw [Nat.mul_one] at b1
    have b2 : A * 2 ^ m = A * 2 ^ (23 - L) * 2 ^ (L + m - 23) := by
      rw [Nat.mul_assoc, ← Nat.pow_add, show 23 - L + (L + m - 23) = m by omega]
    rw [show L - 23 = 0 by omega, Nat.pow_zero, b1, b2, fz_ex _ _ (Nat.two_pow_pos _)]
theorem fz_c (N : Nat) (h : 8388608 ≤ N) : ∃ g : Nat, N.log2 = g + 23 ∧ 8388608 * 2 ^ g ≤ N ∧ N < 16777216 * 2 ^ g ∧ 8388608 ≤ FP.Core.nearest N (2 ^ g) ∧ FP.Core.nearest N (2 ^ g) ≤ 16777216 := by
  have hne : N ≠ 0 := by omega
  have h1 : 2 ^ N.log2 ≤ N := Nat.log2_self_le hne
  have h2 : N < 2 ^ (N.log2 + 1) := Nat.lt_log2_self
  have h3 : 23 ≤ N.log2 := (Nat.le_log2 hne).mpr (by omega)
  refine ⟨N.log2 - 23, by omega, ?_⟩
  have e1 : 2 ^ N.log2 = 8388608 * 2 ^ (N.log2 - 23) := by
    rw [show (8388608 : Nat) = 2 ^ 23 by decide, ← Nat.pow_add, show 23 + (N.log2 - 23) = N.log2 by omega]
  have e2 : 2 ^ (N.log2 + 1) = 16777216 * 2 ^ (N.log2 - 23) := by
    rw [Nat.pow_succ, e1]
    omega
  rw [e1] at h1
  rw [e2] at h2
  exact ⟨h1, h2, fz_ge (Nat.two_pow_pos _) h1, fz_le (Nat.two_pow_pos _) (Nat.le_of_lt h2)⟩
theorem fz_g {N g : Nat} (h1 : 8388608 * 2 ^ g ≤ N) (h2 : N < 2 ^ 200) : g ≤ 176 := by
  have h3 : 2 ^ (23 + g) < 2 ^ 200 := by
    rw [Nat.pow_add]
    omega
  have h4 := (Nat.pow_lt_pow_iff_right (by decide)).mp h3
  omega
theorem mx_b {N : Nat} (h : 8388608 ≤ N) (h2 : N < 2 ^ 200) : 8388608 ≤ mx N ∧ mx N ≤ 1493172224 := by
  obtain ⟨g, g1, g2, g3, g4, g5⟩ := fz_c N h
  have g6 := fz_g g2 h2
  unfold mx
  rw [g1, show g + 23 - 23 = g by omega]
  generalize FP.Core.nearest N (2 ^ g) = c at g4 g5 ⊢
  omega
theorem fz_fin (s : Bool) (c : Nat) (k : Nat) (hc : 8388608 ≤ c) : FP.Core.encode FP.Core.b32 (.fin s c ((k : Int) - 149)) = (if s = true then 2147483648 else 0) + k * 8388608 + c := by
  have hk : ((k : Int) - 149 - (-149)).toNat = k := by omega
  simp only [FP.Core.encode, FP.Core.assemble, fz_t, fz_x, fz_m, hk]
  rw [if_neg (by omega)]
  cases s
  · simp only [Bool.toNat_false, Bool.false_eq_true, if_false]
    omega
  · simp only [Bool.toNat_true, if_true]
    omega
theorem fz_enc (s : Bool) (A m : Nat) (hne : A ≠ 0) (h1 : 8388608 ≤ A * 2 ^ m) (h2 : A * 2 ^ m < 2 ^ 200) : FP.Core.encode FP.Core.b32 (FP.Core.roundRatio FP.Core.b32 s A 1 ((m : Int) - 149)) = (if s = true then 2147483648 else 0) + mx (A * 2 ^ m) := by
  have l1 : 2 ^ A.log2 ≤ A := Nat.log2_self_le hne
  have l2 : A < 2 ^ (A.log2 + 1) := Nat.lt_log2_self
  have l3 := fz_lgm A A.log2 m l1 l2
  obtain ⟨g, g1, g2, g3, g4, g5⟩ := fz_c (A * 2 ^ m) h1
  have g6 := fz_g g2 h2
  have hr : (A.log2 : Int) + m - 172 = (g : Int) - 149 := by omega
  have hq := fz_q A A.log2 m rfl l1 (by omega)
  have hn := fz_rn A A.log2 m (by omega)
  rw [show A.log2 + m - 23 = g by omega] at hn
  rw [hr] at hq hn
  unfold FP.Core.roundRatio FP.Core.roundAt mx
  rw [if_neg hne, hq, hn, g1, show g + 23 - 23 = g by omega]
  generalize FP.Core.nearest (A * 2 ^ m) (2 ^ g) = c at g4 g5 ⊢
  unfold FP.Core.settle FP.Core.bound
  rw [fz_p, fz_M, fz_t]
  by_cases hc : c < 16777216
  · rw [if_pos hc, if_pos (by omega), fz_fin s c g g4, Nat.add_assoc]
  · rw [if_neg hc, if_pos (by omega), show (g : Int) - 149 + 1 = ((g + 1 : Nat) : Int) - 149 by omega, fz_fin s _ _ (by omega)]
    omega
theorem fz_dec (n : Nat) (s : Bool) (c k : Nat) (h1 : 8388608 ≤ c) (h2 : c < 16777216) (hk : k ≤ 200) (hn : n = (if s = true then 2147483648 else 0) + k * 8388608 + c) : FP.Core.decode FP.Core.b32 n = .fin s c ((k : Int) - 149) := by
  have a1 : 8388608 + (c - 8388608) = c := by omega
  have a2 : (-149 : Int) + (((k + 1 : Nat) : Int) - 1) = (k : Int) - 149 := by omega
  cases s
  · simp only [Bool.false_eq_true, if_false] at hn
    have e1 : n / 8388608 % 256 = k + 1 := by omega
    have e2 : n % 8388608 = c - 8388608 := by omega
    have e3 : n / 8388608 / 256 % 2 = 0 := by omega
    simp only [FP.Core.decode, FP.Core.fieldE, FP.Core.fieldT, FP.Core.fieldS, fz_t, fz_x, fz_m, e1, e2, e3]
    rw [if_neg (by omega), if_neg (by omega), a1, a2]
    rfl
  · simp only [if_true] at hn
    have e1 : n / 8388608 % 256 = k + 1 := by omega
    have e2 : n % 8388608 = c - 8388608 := by omega
    have e3 : n / 8388608 / 256 % 2 = 1 := by omega
    simp only [FP.Core.decode, FP.Core.fieldE, FP.Core.fieldT, FP.Core.fieldS, fz_t, fz_x, fz_m, e1, e2, e3]
    rw [if_neg (by omega), if_neg (by omega), a1, a2]
    rfl
theorem mx_ex (c k : Nat) (h1 : 8388608 ≤ c) (h2 : c < 16777216) : mx (c * 2 ^ k) = k * 8388608 + c := by
  have hl := fz_lgm c 23 k (by omega) (by omega)
  unfold mx
  rw [hl, show 23 + k - 23 = k by omega, fz_ex _ _ (Nat.two_pow_pos k)]
theorem mx_lo {N : Nat} (g : Nat) (h : 8388608 * 2 ^ g ≤ N) : g * 8388608 + 8388608 ≤ mx N := by
  have hp := Nat.two_pow_pos g
  obtain ⟨j, g1, g2, g3, g4, g5⟩ := fz_c N (by omega)
  have hj : 2 ^ (g + 23) < 2 ^ (j + 24) := by
    rw [Nat.pow_add, Nat.pow_add]
    omega
  have hj2 := (Nat.pow_lt_pow_iff_right (by decide)).mp hj
  unfold mx
  rw [g1, show j + 23 - 23 = j by omega]
  generalize FP.Core.nearest N (2 ^ j) = c at g4 g5 ⊢
  omega
theorem mx_hi {N : Nat} (g : Nat) (h0 : 8388608 ≤ N) (h : N ≤ 8388608 * 2 ^ g) : mx N ≤ g * 8388608 + 8388608 := by
  by_cases he : N = 8388608 * 2 ^ g
  · rw [he, mx_ex _ _ (by omega) (by omega)]
    omega
  · obtain ⟨j, g1, g2, g3, g4, g5⟩ := fz_c N h0
    have hj : 2 ^ (j + 23) < 2 ^ (g + 23) := by
      rw [Nat.pow_add, Nat.pow_add]
      omega
    have hj2 := (Nat.pow_lt_pow_iff_right (by decide)).mp hj
    unfold mx
    rw [g1, show j + 23 - 23 = j by omega]
    generalize FP.Core.nearest N (2 ^ j) = c at g4 g5 ⊢
    omega
