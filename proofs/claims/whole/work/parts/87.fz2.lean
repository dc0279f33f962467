/-! floats, 6: what bits stand for, sums, products, order -/
theorem sg_mul (s : Bool) (a m : Nat) : FP.Core.signed s a * ((2 ^ m : Nat) : Int) = FP.Core.signed s (a * 2 ^ m) := by
  cases s
  · simp only [FP.Core.signed, Bool.false_eq_true, if_false]
    rw [Int.natCast_mul]
  · simp only [FP.Core.signed, if_true]
    rw [Int.natCast_mul, Int.neg_mul]
theorem sg_not (s : Bool) (a : Nat) : FP.Core.signed (!s) a = - FP.Core.signed s a := by
  cases s
  · simp only [FP.Core.signed, Bool.not_false, if_true, Bool.false_eq_true, if_false]
  · simp only [FP.Core.signed, Bool.not_true, if_true, Bool.false_eq_true, if_false, Int.neg_neg]
theorem sg_f (a : Nat) : FP.Core.signed false a = (a : Int) := rfl
theorem sg_t (a : Nat) : FP.Core.signed true a = -(a : Int) := rfl
theorem sg_abs (s : Bool) (a : Nat) : (FP.Core.signed s a).natAbs = a := by
  cases s
  · rw [sg_f]
    omega
  · rw [sg_t]
    omega
def fu (x : Int) : UInt32 := UInt32.ofNat (x % 4294967296).toNat
theorem fu_nat (x : Int) : ((fu x).toNat : Int) = x % 4294967296 := by
  unfold fu
  rw [UInt32.toNat_ofNat']
  omega
theorem fu_of {n : Nat} {z : Int} (h : (n : Int) = z % 4294967296) : UInt32.ofNat n = fu z := by
  unfold fu
  rw [← h, Int.toNat_natCast]
def MV (x X : Int) : Prop := (X = 0 ∧ x = 0) ∨ ∃ (s : Bool) (c k : Nat), 8388608 ≤ c ∧ c < 16777216 ∧ k ≤ 200 ∧ X = FP.Core.signed s (c * 2 ^ k) ∧ x = (k : Int) * 8388608 + c - (if s = true then 2147483648 else 0)
theorem fz_dat {x X : Int} (h : MV x X) : ∃ (s : Bool) (c k : Nat), FP.Core.decode FP.Core.b32 (fu x).toNat = .fin s c ((k : Int) - 149) ∧ X = FP.Core.signed s (c * 2 ^ k) ∧ (s = true → X < 0) := by
  rcases h with ⟨h1, h2⟩ | ⟨s, c, k, c1, c2, k1, hX, hx⟩
  · refine ⟨false, 0, 0, ?_, ?_, ?_⟩
    · rw [h2]
      decide +kernel
    · rw [h1]
      rfl
    · intro h
      exact absurd h (by decide)
  · refine ⟨s, c, k, ?_, hX, ?_⟩
    · apply fz_dec _ _ _ _ c1 c2 k1
      have h1 := fu_nat x
      cases s
      · simp only [Bool.false_eq_true, if_false] at hx ⊢
        omega
      · simp only [if_true] at hx ⊢
        omega
    · intro h
      have hp : 0 < c * 2 ^ k := Nat.mul_pos (by omega) (Nat.two_pow_pos k)
      rw [hX, h, sg_t]
      omega
theorem fz_fo1 {M : Nat} (h : 8388608 ≤ M ∧ M ≤ 1493172224) : ((2147483648 + M : Nat) : Int) = (-2147483648 + (M : Int)) % 4294967296 := by omega
theorem fz_fo0 {M : Nat} (h : 8388608 ≤ M ∧ M ≤ 1493172224) : ((0 + M : Nat) : Int) = (0 + (M : Int)) % 4294967296 := by omega
theorem fz_sum (s t : Bool) (c k d j : Nat) (X Y : Int) (v1 : X = FP.Core.signed s (c * 2 ^ k)) (v2 : Y = FP.Core.signed t (d * 2 ^ j)) (hst : X + Y = 0 → (s && t) = false) (hz : X + Y = 0 ∨ (8388608 ≤ (X + Y).natAbs ∧ (X + Y).natAbs < 2 ^ 200)) : (FP.Core.encode FP.Core.b32 (FP.Core.round FP.Core.b32 (FP.Core.exactSum (.fin s c ((k : Int) - 149)) (.fin t d ((j : Int) - 149)))) : Int) = bX (X + Y) % 4294967296 := by
  have hm : min ((k : Int) - 149) ((j : Int) - 149) = ((min k j : Nat) : Int) - 149 := by omega
  have hS : FP.Core.sumUnits s c ((k : Int) - 149) t d ((j : Int) - 149) (((min k j : Nat) : Int) - 149) * ((2 ^ min k j : Nat) : Int) = X + Y := by
    have a1 : ((k : Int) - 149 - (((min k j : Nat) : Int) - 149)).toNat + min k j = k := by omega
    have a2 : ((j : Int) - 149 - (((min k j : Nat) : Int) - 149)).toNat + min k j = j := by omega
    unfold FP.Core.sumUnits FP.Core.inUnits
    rw [Int.add_mul, sg_mul, sg_mul, Nat.mul_assoc, Nat.mul_assoc, ← Nat.pow_add, ← Nat.pow_add, a1, a2, v1, v2]
  simp only [FP.Core.exactSum, FP.Core.round, hm]
  generalize FP.Core.sumUnits s c ((k : Int) - 149) t d ((j : Int) - 149) (((min k j : Nat) : Int) - 149) = S at hS ⊢
  generalize min k j = m at hS ⊢
  have hp := Nat.two_pow_pos m
  by_cases h0 : X + Y = 0
  · have hS0 : S = 0 := by
      rw [h0] at hS
      rcases Int.mul_eq_zero.mp hS with h | h
      · exact h
      · omega
    subst hS0
    unfold FP.Core.sumSign bX FP.Core.roundRatio
    rw [if_pos rfl, if_pos h0, hst h0, if_pos (show Int.natAbs 0 = 0 from rfl)]
    decide +kernel
  · have hS0 : S ≠ 0 := by
      intro h
      rw [h, Int.zero_mul] at hS
      exact h0 hS.symm
    have hb := hz.resolve_left h0
    have hN : S.natAbs * 2 ^ m = (X + Y).natAbs := by rw [← hS, Int.natAbs_mul, Int.natAbs_natCast]
    have hs : (S < 0) = (X + Y < 0) := by
      rw [← hS]
      apply propext
      constructor
      · intro h
        exact Int.mul_neg_of_neg_of_pos h (by omega)
      · intro h
        apply Int.lt_of_not_ge
        intro h2
        have := Int.mul_nonneg h2 (Int.natCast_nonneg (2 ^ m))
        omega
    have he := fz_enc (FP.Core.sumSign s t S) S.natAbs m (by omega) (by rw [hN]; exact hb.1) (by rw [hN]; exact hb.2)
    have hb2 := mx_b hb.1 hb.2
    rw [he, hN]
    unfold FP.Core.sumSign bX
    rw [if_neg hS0, if_neg h0]
    simp only [decide_eq_true_eq, hs]
    by_cases hlt : X + Y < 0
    · rw [if_pos hlt, if_pos hlt]
      exact fz_fo1 hb2
    · rw [if_neg hlt, if_neg hlt]
      exact fz_fo0 hb2
theorem fz_add {x y X Y : Int} (hx : MV x X) (hy : MV y Y) (hz : X + Y = 0 ∨ (8388608 ≤ (X + Y).natAbs ∧ (X + Y).natAbs < 2 ^ 200)) : FP.fadd (fu x) (fu y) = fu (bX (X + Y)) := by
  obtain ⟨s, c, k, d1, v1, n1⟩ := fz_dat hx
  obtain ⟨t, d, j, d2, v2, n2⟩ := fz_dat hy
  show UInt32.ofNat (FP.Core.encode FP.Core.b32 (FP.Core.round FP.Core.b32 (FP.Core.exactSum (FP.Core.decode FP.Core.b32 (fu x).toNat) (FP.Core.decode FP.Core.b32 (fu y).toNat)))) = _
  rw [d1, d2]
  apply fu_of
  apply fz_sum s t c k d j X Y v1 v2 _ hz
  intro h
  cases s
  · rfl
  · cases t
    · rfl
    · have := n1 rfl
      have := n2 rfl
      omega
theorem fz_sub {x y X Y : Int} (hx : MV x X) (hy : MV y Y) (hz : X + -Y = 0 ∨ (8388608 ≤ (X + -Y).natAbs ∧ (X + -Y).natAbs < 2 ^ 200)) : FP.fsub (fu x) (fu y) = fu (bX (X + -Y)) := by
  obtain ⟨s, c, k, d1, v1, n1⟩ := fz_dat hx
  obtain ⟨t, d, j, d2, v2, n2⟩ := fz_dat hy
  show UInt32.ofNat (FP.Core.encode FP.Core.b32 (FP.Core.round FP.Core.b32 (FP.Core.exactSum (FP.Core.decode FP.Core.b32 (fu x).toNat) (FP.Core.negate (FP.Core.decode FP.Core.b32 (fu y).toNat))))) = _
  rw [d1, d2]
  simp only [FP.Core.negate]
  apply fu_of
  apply fz_sum s (!t) c k d j X (-Y) v1 (by rw [sg_not, v2]) _ hz
  intro h
  cases s
  · rfl
  · cases t
    · have := n1 rfl
      rw [sg_f] at v2
      omega
    · rfl
theorem fz_mulp {u : UInt32} {k0 : Nat} {y Y Z : Int} (hu : FP.Core.decode FP.Core.b32 u.toNat = .fin false 8388608 ((k0 : Int) - 149)) (hy : MV y Y) (hk : 124 ≤ k0) (hY : Y = 0 ∨ 2 ^ 122 ≤ Y.natAbs) (hz : Z * 4 = Y * ((2 ^ (k0 - 124) : Nat) : Int)) (hb : Z = 0 ∨ (8388608 ≤ Z.natAbs ∧ Z.natAbs < 2 ^ 200)) : FP.fmul u (fu y) = fu (bX Z) := by
  show UInt32.ofNat (FP.Core.encode FP.Core.b32 (FP.Core.round FP.Core.b32 (FP.Core.exactProduct (FP.Core.decode FP.Core.b32 u.toNat) (FP.Core.decode FP.Core.b32 (fu y).toNat)))) = _
  rcases hy with ⟨h1, h2⟩ | ⟨s, c, k, c1, c2, k1, hX, hx⟩
  · have hd : FP.Core.decode FP.Core.b32 (fu y).toNat = .fin false 0 (-149) := by
      rw [h2]
      decide +kernel
    have hZ : Z = 0 := by
      rw [h1, Int.zero_mul] at hz
      omega
    rw [hu, hd, hZ]
    simp only [FP.Core.exactProduct, FP.Core.round, Nat.mul_zero, FP.Core.roundRatio, if_true]
    decide +kernel
  · have hp : 0 < c * 2 ^ k := Nat.mul_pos (by omega) (Nat.two_pow_pos k)
    have ha : Y.natAbs = c * 2 ^ k := by rw [hX, sg_abs]
    have hk2 : 99 ≤ k := by
      have h3 : 2 ^ 122 < 2 ^ (24 + k) := by
        have h4 : c * 2 ^ k < 2 ^ 24 * 2 ^ k := Nat.mul_lt_mul_of_pos_right (by omega) (Nat.two_pow_pos k)
        rw [Nat.pow_add]
        omega
      have h5 := (Nat.pow_lt_pow_iff_right (by decide)).mp h3
      omega
    have hd : FP.Core.decode FP.Core.b32 (fu y).toNat = .fin s c ((k : Int) - 149) := by
      apply fz_dec _ _ _ _ c1 c2 k1
      have h1 := fu_nat y
      cases s
      · simp only [Bool.false_eq_true, if_false] at hx ⊢
        omega
      · simp only [if_true] at hx ⊢
        omega
    rw [hX, sg_mul] at hz
    have hN : 8388608 * c * 2 ^ (k0 + k - 149) = Z.natAbs := by
      have e1 : c * 2 ^ k * 2 ^ (k0 - 124) = 8388608 * c * 2 ^ (k0 + k - 149) * 4 := by
        rw [Nat.mul_assoc c, ← Nat.pow_add, show k + (k0 - 124) = k0 + k - 149 + 25 by omega, Nat.pow_add]
        generalize 2 ^ (k0 + k - 149) = P
        have e3 : (2 : Nat) ^ 25 = 33554432 := by decide
        rw [e3, ← Nat.mul_assoc, Nat.mul_assoc 8388608 c P]
        generalize c * P = w
        omega
      have e2 := congrArg Int.natAbs hz
      rw [Int.natAbs_mul, sg_abs, e1] at e2
      have : (4 : Int).natAbs = 4 := rfl
      rw [this] at e2
      generalize 8388608 * c * 2 ^ (k0 + k - 149) = w at e2 ⊢
      omega
    have hp2 : 0 < c * 2 ^ k * 2 ^ (k0 - 124) := Nat.mul_pos hp (Nat.two_pow_pos _)
    have hZ0 : Z ≠ 0 := by
      intro h
      have e2 := congrArg Int.natAbs hz
      rw [h, sg_abs] at e2
      have : ((0 : Int) * 4).natAbs = 0 := rfl
      omega
    have hb2 := hb.resolve_left hZ0
    have hs : (Z < 0) = (s = true) := by
      generalize c * 2 ^ k * 2 ^ (k0 - 124) = w at hz hp2
      apply propext
      cases s
      · rw [sg_f] at hz
        constructor
        · intro h
          omega
        · intro h
          exact absurd h (by decide)
      · rw [sg_t] at hz
        constructor
        · intro h
          rfl
        · intro h
          omega
    rw [hu, hd]
    have he : (k0 : Int) - 149 + ((k : Int) - 149) = ((k0 + k - 149 : Nat) : Int) - 149 := by omega
    have hq : (false != s) = s := by cases s <;> rfl
    simp only [FP.Core.exactProduct, FP.Core.round, he, hq]
    have hm := mx_b hb2.1 hb2.2
    rw [fz_enc s (8388608 * c) (k0 + k - 149) (by omega) (by rw [hN]; exact hb2.1) (by rw [hN]; exact hb2.2), hN]
    apply fu_of
    unfold bX
    rw [if_neg hZ0]
    simp only [hs]
    by_cases hlt : s = true
    · rw [if_pos hlt, if_pos hlt]
      exact fz_fo1 hm
    · rw [if_neg hlt, if_neg hlt]
      exact fz_fo0 hm
theorem cmp_mul (a b : Int) (P : Nat) (hP : 0 < P) : compare (a * (P : Int)) (b * (P : Int)) = compare a b := by
  have h1 : (a * (P : Int) < b * (P : Int)) = (a < b) := propext (Int.mul_lt_mul_right (by omega))
  have h2 : (a * (P : Int) = b * (P : Int)) = (a = b) := propext (Int.mul_eq_mul_right_iff (by omega))
  simp only [compare, compareOfLessAndEq, h1, h2]
theorem fz_cmp {x y X Y : Int} (hx : MV x X) (hy : MV y Y) : FP.fcmp (fu x) (fu y) = some (compare X Y) := by
  obtain ⟨s, c, k, d1, v1, n1⟩ := fz_dat hx
  obtain ⟨t, d, j, d2, v2, n2⟩ := fz_dat hy
  show FP.Core.order (FP.Core.decode FP.Core.b32 (fu x).toNat) (FP.Core.decode FP.Core.b32 (fu y).toNat) = _
  rw [d1, d2]
  simp only [FP.Core.order]
  have hm : min ((k : Int) - 149) ((j : Int) - 149) = ((min k j : Nat) : Int) - 149 := by omega
  have a1 : ((k : Int) - 149 - (((min k j : Nat) : Int) - 149)).toNat + min k j = k := by omega
  have a2 : ((j : Int) - 149 - (((min k j : Nat) : Int) - 149)).toNat + min k j = j := by omega
  rw [hm, ← cmp_mul _ _ (2 ^ min k j) (Nat.two_pow_pos _)]
  unfold FP.Core.inUnits
  rw [sg_mul, sg_mul, Nat.mul_assoc, Nat.mul_assoc, ← Nat.pow_add, ← Nat.pow_add, a1, a2, ← v1, ← v2]
theorem MV_self {x X : Int} (h : MV x X) : bX X = x := by
  rcases h with ⟨h1, h2⟩ | ⟨s, c, k, c1, c2, k1, hX, hx⟩
  · unfold bX
    rw [if_pos h1, h2]
  · have hp : 0 < c * 2 ^ k := Nat.mul_pos (by omega) (Nat.two_pow_pos k)
    have ha : X.natAbs = c * 2 ^ k := by rw [hX, sg_abs]
    unfold bX
    rw [ha, mx_ex c k c1 c2]
    generalize c * 2 ^ k = w at ha hp hX
    rw [if_neg (by omega)]
    cases s
    · rw [sg_f] at hX
      rw [if_neg (by omega)]
      simp only [Bool.false_eq_true, if_false] at hx
      omega
    · rw [sg_t] at hX
      rw [if_pos (by omega)]
      simp only [if_true] at hx
      omega
theorem MV_bX {X : Int} (h : 8388608 ≤ X.natAbs) (h2 : X.natAbs < 2 ^ 200) : ∃ Y, MV (bX X) Y ∧ 16777216 * Y ≤ 16777216 * X + (X.natAbs : Int) ∧ 16777216 * X ≤ 16777216 * Y + (X.natAbs : Int) := by
  obtain ⟨g, g1, g2, g3, g4, g5⟩ := fz_c _ h
  have g6 := fz_g g2 h2
  have hp := Nat.two_pow_pos g
  have er := fz_er X.natAbs (2 ^ g) hp
  refine ⟨FP.Core.signed (decide (X < 0)) (FP.Core.nearest X.natAbs (2 ^ g) * 2 ^ g), ?_, ?_⟩
  · right
    unfold bX mx
    rw [if_neg (by omega), g1, show g + 23 - 23 = g by omega]
    generalize FP.Core.nearest X.natAbs (2 ^ g) = c at g4 g5 er ⊢
    by_cases hc : c < 16777216
    · refine ⟨decide (X < 0), c, g, g4, hc, by omega, rfl, ?_⟩
      simp only [decide_eq_true_eq]
      by_cases hlt : X < 0
      · rw [if_pos hlt, if_pos hlt]
        omega
      · rw [if_neg hlt, if_neg hlt]
        omega
    · refine ⟨decide (X < 0), 8388608, g + 1, by omega, by omega, by omega, ?_, ?_⟩
      · rw [show c = 16777216 by omega, Nat.pow_succ]
        congr 1
        omega
      · simp only [decide_eq_true_eq]
        by_cases hlt : X < 0
        · rw [if_pos hlt, if_pos hlt]
          omega
        · rw [if_neg hlt, if_neg hlt]
          omega
  · generalize FP.Core.nearest X.natAbs (2 ^ g) * 2 ^ g = w at er ⊢
    generalize 2 ^ g = P at er g2 hp
    by_cases hlt : X < 0
    · rw [decide_eq_true hlt, sg_t]
      omega
    · rw [decide_eq_false hlt, sg_f]
      omega
theorem fz_ord {c d k j : Nat} (h1 : c < 16777216) (h2 : 8388608 ≤ d) (h : k < j) : c * 2 ^ k < d * 2 ^ j := by
  have a1 : c * 2 ^ k < 16777216 * 2 ^ k := Nat.mul_lt_mul_of_pos_right h1 (Nat.two_pow_pos k)
  have a2 : 8388608 * 2 ^ j ≤ d * 2 ^ j := Nat.mul_le_mul_right _ h2
  have a3 : 2 ^ (k + 1) ≤ 2 ^ j := Nat.pow_le_pow_right (by decide) h
  rw [Nat.pow_succ] at a3
  omega
theorem MV_mono {x y X Y : Int} (hx : MV x X) (hy : MV y Y) (h0 : 0 ≤ x) (h1 : 0 ≤ y) : (x < y) = (X < Y) := by
  apply propext
  rcases hx with ⟨a1, a2⟩ | ⟨s, c, k, c1, c2, k1, hX, hx⟩
  · rcases hy with ⟨b1, b2⟩ | ⟨t, d, j, d1, d2, j1, hY, hy⟩
    · omega
    · have hp : 0 < d * 2 ^ j := Nat.mul_pos (by omega) (Nat.two_pow_pos j)
      cases t
      · rw [sg_f] at hY
        simp only [Bool.false_eq_true, if_false] at hy
        generalize d * 2 ^ j = w at hp hY
        omega
      · simp only [if_true] at hy
        omega
  · have hp : 0 < c * 2 ^ k := Nat.mul_pos (by omega) (Nat.two_pow_pos k)
    cases s
    · rw [sg_f] at hX
      simp only [Bool.false_eq_true, if_false] at hx
      rcases hy with ⟨b1, b2⟩ | ⟨t, d, j, d1, d2, j1, hY, hy⟩
      · generalize c * 2 ^ k = w at hp hX
        omega
      · cases t
        · rw [sg_f] at hY
          simp only [Bool.false_eq_true, if_false] at hy
          rcases Nat.lt_trichotomy k j with h | h | h
          · have := fz_ord c2 d1 h
            generalize c * 2 ^ k = w at this hX
            generalize d * 2 ^ j = z at this hY
            omega
          · subst h
            have e := Nat.mul_lt_mul_right (a := 2 ^ k) (b := c) (c := d) (Nat.two_pow_pos k)
            generalize c * 2 ^ k = w at e hX
            generalize d * 2 ^ k = z at e hY
            omega
          · have := fz_ord d2 c1 h
            generalize c * 2 ^ k = w at this hX
            generalize d * 2 ^ j = z at this hY
            omega
        · simp only [if_true] at hy
          omega
    · simp only [if_true] at hx
      omega
