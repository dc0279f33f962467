/-! floats, 10: what is wanted of floats, but for the class's own reading of bits -/
theorem MVp (k : Nat) (hk : k ≤ 200) : MV ((k : Int) * 8388608 + 8388608) ((8388608 * 2 ^ k : Nat) : Int) := by
  refine .inr ⟨false, 8388608, k, by omega, by omega, hk, by rw [sg_f], ?_⟩
  simp only [Bool.false_eq_true, if_false]
  omega
theorem bits_MX {b : Int} (h : 8388608 ≤ b ∧ b ≤ 1300000000) : ∃ c k : Nat, MX b false c k := by
  refine ⟨(8388608 + b % 8388608).toNat, (b / 8388608 - 1).toNat, by omega, by omega, by omega, ?_⟩
  simp only [Bool.false_eq_true, if_false]
  omega
theorem vf_fu {z Z : Int} (h : MV z Z) : vf_n32 (fu z) := by
  have h0 := fu_nat z
  have h1 : (fu z).toNat % 2 ^ 31 ≤ 2139095040 := by
    rcases h with ⟨_, h⟩ | ⟨s, c, k, c1, c2, k1, hX, hx⟩
    · rw [h] at h0 ⊢
      omega
    · cases s
      · simp only [Bool.false_eq_true, if_false] at hx
        omega
      · simp only [if_true] at hx
        omega
  unfold vf_n32
  rw [UInt32.le_iff_toNat_le, UInt32.toNat_and, show (0x7fffffff : UInt32).toNat = 2 ^ 31 - 1 from rfl, Nat.and_two_pow_sub_one_eq_mod]
  exact h1
theorem f1_fu {b : Int} (h : 0 ≤ b ∧ b < 2147483648) : f1 b = fu b := by
  unfold fu
  rw [show b % 4294967296 = b by omega]
theorem fz_i2f0 : ∀ n : Nat, n < 80 → FP.i2f (i1 (n : Int)) = fu (bX ((n : Int) * ((2 ^ 149 : Nat) : Int))) := by decide +kernel
theorem fz_i2f {v : Int} (h : 0 ≤ v ∧ v ≤ 79) : FP.i2f (i1 v) = fu (bX (v * ((2 ^ 149 : Nat) : Int))) := by
  have h1 := fz_i2f0 v.toNat (by omega)
  rw [show (v.toNat : Int) = v by omega] at h1
  exact h1
theorem MV_ex (A m : Nat) (hA : A ≠ 0) (hA2 : A < 16777216) (hm : 23 ≤ m) (hm2 : m ≤ 170) : MV (bX ((A : Int) * ((2 ^ m : Nat) : Int))) ((A : Int) * ((2 ^ m : Nat) : Int)) := by
  have l1 : 2 ^ A.log2 ≤ A := Nat.log2_self_le hA
  have l2 : A < 2 ^ (A.log2 + 1) := Nat.lt_log2_self
  generalize A.log2 = L at l1 l2
  have hL : L < 24 := by
    have h : 2 ^ L < 2 ^ 24 := by omega
    exact (Nat.pow_lt_pow_iff_right (by decide)).mp h
  have hp := Nat.two_pow_pos (23 - L)
  have e4 : 8388608 = 2 ^ L * 2 ^ (23 - L) := by
    rw [← Nat.pow_add, show L + (23 - L) = 23 by omega]
  have e5 : 16777216 = 2 ^ (L + 1) * 2 ^ (23 - L) := by
    rw [← Nat.pow_add, show L + 1 + (23 - L) = 24 by omega]
  have c1 : 8388608 ≤ A * 2 ^ (23 - L) := by
    rw [e4]
    exact Nat.mul_le_mul_right _ l1
  have c2 : A * 2 ^ (23 - L) < 16777216 := by
    rw [e5]
    exact Nat.mul_lt_mul_of_pos_right l2 hp
  have hN : (A : Int) * ((2 ^ m : Nat) : Int) = FP.Core.signed false (A * 2 ^ (23 - L) * 2 ^ (m + L - 23)) := by
    rw [sg_f, Nat.mul_assoc, ← Nat.pow_add, show 23 - L + (m + L - 23) = m by omega, Int.natCast_mul]
  have hM : MV (((m + L - 23 : Nat) : Int) * 8388608 + ((A * 2 ^ (23 - L) : Nat) : Int)) ((A : Int) * ((2 ^ m : Nat) : Int)) := by
    refine .inr ⟨false, A * 2 ^ (23 - L), m + L - 23, c1, c2, by omega, hN, ?_⟩
    simp only [Bool.false_eq_true, if_false, Int.sub_zero]
  rw [MV_self hM]
  exact hM
theorem MV_vU {v : Int} (h : 0 ≤ v ∧ v ≤ 79) : MV (bX (v * ((2 ^ 149 : Nat) : Int))) (v * ((2 ^ 149 : Nat) : Int)) := by
  by_cases h0 : v = 0
  · rw [h0, Int.zero_mul]
    exact .inl ⟨rfl, rfl⟩
  · have h1 := MV_ex v.toNat 149 (by omega) (by omega) (by omega) (by omega)
    rw [show (v.toNat : Int) = v by omega] at h1
    exact h1
theorem MV_4 {x D : Int} (h : MV x D) (hD : D = 0 ∨ (2 ^ 124 ≤ D.natAbs)) : ∃ E, D = 4 * E ∧ MV (bX E) E := by
  rcases MV_MX h with ⟨h0, _⟩ | ⟨s, c, k, hM, hX, hne⟩
  · exact ⟨0, by omega, .inl ⟨rfl, rfl⟩⟩
  · have hD2 := hD.resolve_left hne
    have hp := Nat.two_pow_pos k
    have hk : 2 ≤ k := by
      have hn := sg_abs s (c * 2 ^ k)
      rw [← sg_mul, ← hX] at hn
      have a1 : c * 2 ^ k < 16777216 * 2 ^ k := Nat.mul_lt_mul_of_pos_right hM.2.1 hp
      have b1 : 2 ^ 124 < 2 ^ (24 + k) := by
        rw [Nat.pow_add]
        omega
      have d1 := (Nat.pow_lt_pow_iff_right (by decide)).mp b1
      omega
    refine ⟨FP.Core.signed s c * ((2 ^ (k - 2) : Nat) : Int), ?_, MX_sh hM (k - 2) (by have := hM.2.2.1; omega)⟩
    have e1 : 2 ^ k = 2 ^ (k - 2) * 4 := by
      have := Nat.pow_add 2 (k - 2) 2
      rw [show k - 2 + 2 = k by omega] at this
      exact this
    rw [e1, Int.natCast_mul, ← Int.mul_assoc] at hX
    generalize FP.Core.signed s c * ((2 ^ (k - 2) : Nat) : Int) = w at hX ⊢
    have : ((4 : Nat) : Int) = 4 := rfl
    rw [this] at hX
    omega
def RGz (X : Int) : Prop := X = 0 ∨ (8388608 ≤ X.natAbs ∧ X.natAbs < 2 ^ 200)
theorem MV_RGz {X : Int} (h : RGz X) : ∃ Y, MV (bX X) Y := by
  rcases h with h | h
  · exact ⟨0, by rw [h]; exact .inl ⟨rfl, rfl⟩⟩
  · obtain ⟨Y, hY, _⟩ := MV_bX h.1 h.2
    exact ⟨Y, hY⟩
theorem bX_nn {X : Int} (h : RGz X) (h0 : 0 ≤ X) : 0 ≤ bX X ∧ bX X < 2147483648 ∧ (X ≠ 0 → bX X = (mx X.natAbs : Int)) := by
  rcases h with h | h
  · rw [h]
    exact ⟨by decide, by decide, fun h => absurd rfl h⟩
  · have := mx_b h.1 h.2
    unfold bX
    rw [if_neg (by omega), if_neg (by omega)]
    refine ⟨by omega, by omega, fun _ => by omega⟩
theorem tw_all {b v X D E : Int} (hb : MV b X) (hb0 : 0 ≤ b ∧ b < 2147483648) (hv : 0 ≤ v ∧ v ≤ 79) (wX : X = 0 ∨ WN X) (hZ : RGz (v * ((2 ^ 149 : Nat) : Int) + -X)) (hD : MV (bX (v * ((2 ^ 149 : Nat) : Int) + -X)) D) (h4 : D = 4 * E) (hE : MV (bX E) E) (wE : E = 0 ∨ WN E) (hS : RGz (X + E)) (hS0 : 0 ≤ X + E) : twF b v = bX (X + E) ∧ TWOK b v ∧ FG b v := by
  have e1 := fz_sub (MV_vU hv) hb hZ
  have wD : D = 0 ∨ 2 ^ 122 ≤ D.natAbs := by
    rcases wE with h | h
    · left
      omega
    · right
      have := h.1
      omega
  have rE : RGz E := by
    rcases wE with h | h
    · exact .inl h
    · have := h.1
      have := h.2
      exact .inr ⟨by omega, by omega⟩
  have e2 : FP.fmul 1048576000 (fu (bX (v * ((2 ^ 149 : Nat) : Int) + -X))) = fu (bX E) := by
    refine fz_mulp (k0 := 124) (by decide +kernel) hD (by omega) wD ?_ rE
    rw [Nat.sub_self, Nat.pow_zero]
    omega
  have e3 := fz_add hb hE hS
  have nn := bX_nn hS hS0
  have ht : twF b v = bX (X + E) := by
    unfold twF
    rw [f1_fu hb0, fz_i2f hv, e1, e2, e3, fu_nat]
    omega
  refine ⟨ht, ?_, ?_⟩
  · intro tb F R hk
    rw [ht] at hk
    exact r115 hb hv wX (MV_vU hv) hD h4 wE hk
  · unfold FG
    rw [f1_fu hb0, fz_i2f hv, e1, e2, e3]
    obtain ⟨Y, hY⟩ := MV_RGz hS
    exact ⟨vf_fu hD, vf_fu hE, vf_fu hY⟩
theorem tw_D {b v X : Int} (hb : MV b X) (hb0 : 0 ≤ b ∧ b < 2147483648) (hv : 0 ≤ v ∧ v ≤ 79) (wX : X = 0 ∨ (2 ^ 133 ≤ X ∧ X ≤ 2 ^ 156)) (hz : v * ((2 ^ 149 : Nat) : Int) + -X = 0 ∨ 2 ^ 125 ≤ (v * ((2 ^ 149 : Nat) : Int) + -X).natAbs) (hne : X ≠ 0 ∨ v ≠ 0) : ∃ D E, D = 4 * E ∧ 16777216 * D ≤ 16777216 * (v * ((2 ^ 149 : Nat) : Int) + -X) + ((v * ((2 ^ 149 : Nat) : Int) + -X).natAbs : Int) ∧ 16777216 * (v * ((2 ^ 149 : Nat) : Int) + -X) ≤ 16777216 * D + ((v * ((2 ^ 149 : Nat) : Int) + -X).natAbs : Int) ∧ MV (bX (v * ((2 ^ 149 : Nat) : Int) + -X)) D ∧ twF b v = bX (X + E) ∧ TWOK b v ∧ FG b v := by
  obtain ⟨Z, hZ⟩ : ∃ Z : Int, Z = v * ((2 ^ 149 : Nat) : Int) + -X := ⟨_, rfl⟩
  have hX0 : 0 ≤ X ∧ X ≤ 2 ^ 156 := by omega
  have hZ2 : Z.natAbs < 2 ^ 158 := by omega
  rw [← hZ] at hz ⊢
  obtain ⟨D, hD, d1, d2⟩ : ∃ D, MV (bX Z) D ∧ 16777216 * D ≤ 16777216 * Z + (Z.natAbs : Int) ∧ 16777216 * Z ≤ 16777216 * D + (Z.natAbs : Int) := by
    rcases hz with h | h
    · rw [h]
      exact ⟨0, .inl ⟨rfl, rfl⟩, by decide, by decide⟩
    · exact MV_bX (by omega) (by omega)
  have hD1 : D = 0 ∨ 2 ^ 124 + 2 ^ 123 ≤ D.natAbs := by omega
  have hD2 : D.natAbs < 2 ^ 159 := by omega
  obtain ⟨E, h4, hE⟩ := MV_4 hD (by omega)
  refine ⟨D, E, h4, d1, d2, hD, ?_⟩
  apply tw_all hb hb0 hv _ _ (D := D) _ h4 hE _ _ _
  · rcases wX with h | h
    · exact .inl h
    · exact .inr ⟨by omega, by omega⟩
  · rw [← hZ]
    rcases hz with h | h
    · exact .inl h
    · exact .inr ⟨by omega, by omega⟩
  · rw [← hZ]
    exact hD
  · rcases hD1 with h | h
    · left
      omega
    · exact .inr ⟨by omega, by omega⟩
  · exact .inr ⟨by omega, by omega⟩
  · omega
