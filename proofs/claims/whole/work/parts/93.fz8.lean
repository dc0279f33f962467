/-! floats, 12: the class's reading of bits, and all that is wanted of floats -/
def dbn (c j : Nat) : Nat := j * 4503599627370496 + c * 536870912
theorem dz_t : FP.Core.Fmt.tails FP.Core.b64 = 4503599627370496 := by decide
theorem dz_x : FP.Core.Fmt.exps FP.Core.b64 = 2048 := by decide
theorem dz_m : FP.Core.Fmt.qmin FP.Core.b64 = -1074 := by decide
theorem dz_M : FP.Core.Fmt.qmax FP.Core.b64 = 971 := by decide
theorem dz_p : 2 ^ FP.Core.Fmt.p FP.Core.b64 = 9007199254740992 := by decide
theorem dz_pi : ((FP.Core.Fmt.p FP.Core.b64 : Nat) : Int) = 53 := by decide
def CK (c j : Nat) : Prop := 8388608 ≤ c ∧ c < 16777216 ∧ j ≤ 1900
theorem dz_lt {c j : Nat} (h : CK c j) : dbn c j < 9218868437227405312 := by
  obtain ⟨h1, h2, h3⟩ := h
  unfold dbn
  omega
theorem dz_nat {c j : Nat} (h : CK c j) : (UInt64.ofNat (dbn c j)).toNat = dbn c j := by
  have := dz_lt h
  rw [UInt64.toNat_ofNat']
  omega
theorem dz_dec {c j : Nat} (h : CK c j) : FP.Core.decode FP.Core.b64 (dbn c j) = .fin false (c * 536870912) ((j : Int) - 1074) := by
  obtain ⟨h1, h2, h3⟩ := h
  obtain ⟨n, hn⟩ : ∃ n, n = dbn c j := ⟨_, rfl⟩
  rw [← hn]
  unfold dbn at hn
  have e1 : n / 4503599627370496 % 2048 = j + 1 := by omega
  have e2 : n % 4503599627370496 = c * 536870912 - 4503599627370496 := by omega
  have e3 : n / 4503599627370496 / 2048 % 2 = 0 := by omega
  have a1 : 4503599627370496 + (c * 536870912 - 4503599627370496) = c * 536870912 := by omega
  have a2 : (-1074 : Int) + (((j + 1 : Nat) : Int) - 1) = (j : Int) - 1074 := by omega
  simp only [FP.Core.decode, FP.Core.fieldE, FP.Core.fieldT, FP.Core.fieldS, dz_t, dz_x, dz_m, e1, e2, e3]
  rw [if_neg (by omega), if_neg (by omega), a1, a2]
  rfl
theorem dz_enc {c j : Nat} (h : CK c j) : FP.Core.encode FP.Core.b64 (.fin false (c * 536870912) ((j : Int) - 1074)) = dbn c j := by
  obtain ⟨h1, h2, h3⟩ := h
  have hk : ((j : Int) - 1074 - (-1074)).toNat = j := by omega
  simp only [FP.Core.encode, FP.Core.assemble, dz_t, dz_x, dz_m, hk]
  rw [if_neg (by omega)]
  unfold dbn
  simp only [Bool.toNat_false]
  omega
theorem dz_rr {A B c j : Nat} {e l : Int} (h : CK c j) (hl : FP.Core.leading A B = l) (hq : l + e - 52 = (j : Int) - 1074) (hA : A ≠ 0) (hn : FP.Core.nearest (FP.Core.unitsNum A e ((j : Int) - 1074)) (FP.Core.unitsDen B e ((j : Int) - 1074)) = c * 536870912) : FP.Core.roundRatio FP.Core.b64 false A B e = .fin false (c * 536870912) ((j : Int) - 1074) := by
  obtain ⟨h1, h2, h3⟩ := h
  have hQ : FP.Core.quantum FP.Core.b64 A B e = (j : Int) - 1074 := by
    unfold FP.Core.quantum
    rw [hl, dz_m, dz_pi]
    omega
  unfold FP.Core.roundRatio FP.Core.roundAt
  rw [if_neg hA, hQ, hn]
  unfold FP.Core.settle FP.Core.bound
  rw [dz_p, dz_M, if_pos (by omega), if_pos (by omega)]
theorem dz_ld1 {A L : Nat} (h1 : 2 ^ L ≤ A) (h2 : A < 2 ^ (L + 1)) : FP.Core.leading A 1 = (L : Int) := by
  have e0 : (1 : Nat).log2 = 0 := by decide +kernel
  unfold FP.Core.leading
  rw [fz_lg h1 h2, e0]
  have a1 : ((L : Int) - ((0 : Nat) : Int)).toNat = L := by omega
  have a2 : (-((L : Int) - ((0 : Nat) : Int))).toNat = 0 := by omega
  dsimp only
  rw [a1, a2, if_pos (by rw [Nat.one_mul, Nat.pow_zero, Nat.mul_one]; exact h1)]
  omega
theorem dz_f2d {b : Int} {c k : Nat} (hM : MX b false c k) : FP.f2d (fu b) = UInt64.ofNat (dbn c (k + 896)) := by
  obtain ⟨h1, h2, h3, h4⟩ := hM
  simp only [Bool.false_eq_true, if_false] at h4
  have h5 := fu_nat b
  have hd : FP.Core.decode FP.Core.b32 (fu b).toNat = .fin false c ((k : Int) - 149) := fz_dec _ false _ _ h1 h2 h3 (by
    simp only [Bool.false_eq_true, if_false]
    omega)
  have hnan : FP.Core.fIsNaN (fu b) = false := by
    unfold FP.Core.fIsNaN FP.Core.isNaN
    rw [hd]
    rfl
  have hc : CK c (k + 896) := ⟨h1, h2, by omega⟩
  unfold FP.f2d
  rw [hnan]
  show UInt64.ofNat (FP.Core.encode FP.Core.b64 (FP.Core.round FP.Core.b64 (FP.Core.decode FP.Core.b32 (fu b).toNat))) = _
  rw [hd]
  simp only [FP.Core.round]
  rw [dz_rr hc (dz_ld1 (L := 23) (by omega) (by omega)) (by omega) (by omega) ?_, dz_enc hc]
  unfold FP.Core.unitsNum FP.Core.unitsDen
  rw [show ((k : Int) - 149 - (((k + 896 : Nat) : Int) - 1074)).toNat = 29 by omega, show (((k + 896 : Nat) : Int) - 1074 - ((k : Int) - 149)).toNat = 0 by omega]
  have h := fz_ex (c * 536870912) 1 (by decide)
  rw [Nat.mul_one] at h
  rw [show c * 2 ^ 29 = c * 536870912 by omega, Nat.pow_zero, Nat.mul_one]
  exact h
theorem dz_div {c j : Nat} {u : UInt64} (hc : CK c j) (hj : 1 ≤ j) (hu : FP.Core.decode FP.Core.b64 u.toNat = .fin false 4503599627370496 (-51)) : FP.ddiv (UInt64.ofNat (dbn c j)) u = UInt64.ofNat (dbn c (j - 1)) := by
  have hc2 : CK c (j - 1) := ⟨hc.1, hc.2.1, by have := hc.2.2; omega⟩
  have h1 := hc.1
  have h2 := hc.2.1
  show UInt64.ofNat (FP.Core.encode FP.Core.b64 (FP.Core.quotient FP.Core.b64 (FP.Core.decode FP.Core.b64 (UInt64.ofNat (dbn c j)).toNat) (FP.Core.decode FP.Core.b64 u.toNat))) = _
  rw [dz_nat hc, dz_dec hc, hu]
  simp only [FP.Core.quotient]
  rw [if_neg (by omega)]
  have hb : (false != false) = false := rfl
  rw [hb]
  have hl : FP.Core.leading (c * 536870912) 4503599627370496 = 0 := by
    have l1 : (c * 536870912).log2 = 52 := fz_lg (by omega) (by omega)
    have l2 : (4503599627370496 : Nat).log2 = 52 := by decide +kernel
    unfold FP.Core.leading
    rw [l1, l2]
    dsimp only
    have a1 : (((52 : Nat) : Int) - ((52 : Nat) : Int)).toNat = 0 := by decide
    have a2 : (-(((52 : Nat) : Int) - ((52 : Nat) : Int))).toNat = 0 := by decide
    rw [a1, a2, if_pos (by omega)]
    rfl
  rw [dz_rr hc2 hl (by omega) (by omega) ?_, dz_enc hc2]
  unfold FP.Core.unitsNum FP.Core.unitsDen
  rw [show ((j : Int) - 1074 - -51 - (((j - 1 : Nat) : Int) - 1074)).toNat = 52 by omega, show (((j - 1 : Nat) : Int) - 1074 - ((j : Int) - 1074 - -51)).toNat = 0 by omega]
  exact fz_ex (c * 536870912) 4503599627370496 (by decide)
theorem dz_mul {c j p : Nat} {u : UInt64} (hc : CK c j) (hj : j ≤ 1200) (hp : 1022 ≤ p ∧ p ≤ 1100) (hu : FP.Core.decode FP.Core.b64 u.toNat = .fin false 4503599627370496 ((p : Int) - 1074)) : FP.dmul (UInt64.ofNat (dbn c j)) u = UInt64.ofNat (dbn c (j + (p - 1022))) := by
  have hc2 : CK c (j + (p - 1022)) := ⟨hc.1, hc.2.1, by omega⟩
  have h1 := hc.1
  have h2 := hc.2.1
  show UInt64.ofNat (FP.Core.encode FP.Core.b64 (FP.Core.round FP.Core.b64 (FP.Core.exactProduct (FP.Core.decode FP.Core.b64 (UInt64.ofNat (dbn c j)).toNat) (FP.Core.decode FP.Core.b64 u.toNat)))) = _
  rw [dz_nat hc, dz_dec hc, hu]
  have hb : (false != false) = false := rfl
  simp only [FP.Core.exactProduct, FP.Core.round, hb]
  rw [dz_rr hc2 (dz_ld1 (L := 104) (by omega) (by omega)) (by omega) (by omega) ?_, dz_enc hc2]
  unfold FP.Core.unitsNum FP.Core.unitsDen
  rw [show ((j : Int) - 1074 + ((p : Int) - 1074) - (((j + (p - 1022) : Nat) : Int) - 1074)).toNat = 0 by omega, show (((j + (p - 1022) : Nat) : Int) - 1074 - ((j : Int) - 1074 + ((p : Int) - 1074))).toNat = 52 by omega]
  rw [Nat.pow_zero, Nat.mul_one, show 1 * 2 ^ 52 = 4503599627370496 by decide]
  exact fz_ex (c * 536870912) 4503599627370496 (by decide)
theorem cv_p (a b : Int) (op : CmpOp) : (0 < (Op.cmpValue (some (compare a b)) op).toInt) = (b < a) ∧ ((Op.cmpValue (some (compare a b)) op).toInt < 0) = (a < b) := by
  have x1 : (Op.cmpValue (some .lt) op).toInt = -1 := rfl
  have x2 : (Op.cmpValue (some .eq) op).toInt = 0 := rfl
  have x3 : (Op.cmpValue (some .gt) op).toInt = 1 := rfl
  rcases Int.lt_trichotomy a b with h | h | h
  · have e : compare a b = .lt := by simp only [compare, compareOfLessAndEq, if_pos h]
    rw [e, x1]
    exact ⟨propext (by omega), propext (by omega)⟩
  · have e : compare a b = .eq := by
      simp only [compare, compareOfLessAndEq]
      rw [if_neg (by omega), if_pos h]
    rw [e, x2]
    exact ⟨propext (by omega), propext (by omega)⟩
  · have e : compare a b = .gt := by
      simp only [compare, compareOfLessAndEq]
      rw [if_neg (by omega), if_neg (by omega)]
    rw [e, x3]
    exact ⟨propext (by omega), propext (by omega)⟩
theorem dz_cmp {c j p : Nat} {u : UInt64} (op : CmpOp) (hc : CK c j) (hu : FP.Core.decode FP.Core.b64 u.toNat = .fin false 4503599627370496 ((p : Int) - 1074)) : ((Op.cmpValue (FP.dcmp (UInt64.ofNat (dbn c j)) u) op).toInt < 0) = (j < p) := by
  have h1 := hc.1
  have h2 := hc.2.1
  have e : FP.dcmp (UInt64.ofNat (dbn c j)) u = FP.Core.order (FP.Core.decode FP.Core.b64 (UInt64.ofNat (dbn c j)).toNat) (FP.Core.decode FP.Core.b64 u.toNat) := rfl
  rw [e, dz_nat hc, dz_dec hc, hu]
  simp only [FP.Core.order]
  rw [(cv_p _ _ op).2, sg_f, sg_f]
  unfold FP.Core.inUnits
  apply propext
  by_cases hj : j < p
  · rw [show ((j : Int) - 1074 - min ((j : Int) - 1074) ((p : Int) - 1074)).toNat = 0 by omega, show ((p : Int) - 1074 - min ((j : Int) - 1074) ((p : Int) - 1074)).toNat = 1 + (p - j - 1) by omega, Nat.pow_add]
    have hp := Nat.two_pow_pos (p - j - 1)
    generalize 2 ^ (p - j - 1) = P at hp
    refine ⟨fun _ => hj, fun _ => ?_⟩
    omega
  · rw [show ((j : Int) - 1074 - min ((j : Int) - 1074) ((p : Int) - 1074)).toNat = j - p by omega, show ((p : Int) - 1074 - min ((j : Int) - 1074) ((p : Int) - 1074)).toNat = 0 by omega]
    have hp := Nat.two_pow_pos (j - p)
    generalize 2 ^ (j - p) = P at hp
    refine ⟨fun h => ?_, fun h => absurd h hj⟩
    exfalso
    have : c * 536870912 ≤ c * 536870912 * P := Nat.le_mul_of_pos_right _ hp
    omega
theorem dz_v {c j : Nat} (h : CK c j) : vf_n64 (UInt64.ofNat (dbn c j)) := by
  have h1 := dz_lt h
  unfold vf_n64
  rw [UInt64.le_iff_toNat_le, UInt64.toNat_and, dz_nat h, show (0x7fffffffffffffff : UInt64).toNat = 2 ^ 63 - 1 from rfl, Nat.and_two_pow_sub_one_eq_mod, Nat.mod_eq_of_lt (by omega)]
  exact Nat.le_of_lt h1
theorem d1_n (n : Nat) : d1 (n : Int) = UInt64.ofNat n := rfl
theorem dz_2 : FP.Core.decode FP.Core.b64 (d1 4611686018427387904).toNat = .fin false 4503599627370496 (((1023 : Nat) : Int) - 1074) := by decide +kernel
theorem dz_1 : FP.Core.decode FP.Core.b64 (d1 4607182418800017408).toNat = .fin false 4503599627370496 (((1022 : Nat) : Int) - 1074) := by decide +kernel
theorem dz_23 : FP.Core.decode FP.Core.b64 (d1 4710765210229538816).toNat = .fin false 4503599627370496 (((1045 : Nat) : Int) - 1074) := by decide +kernel
theorem dz_d2i {c : Nat} (h : CK c 1045) : (FP.d2i (UInt64.ofNat (dbn c 1045))).toInt = (c : Int) := by
  have h1 := h.1
  have h2 := h.2.1
  have e : FP.d2i (UInt64.ofNat (dbn c 1045)) = FP.Core.toI (FP.Core.decode FP.Core.b64 (UInt64.ofNat (dbn c 1045)).toNat) := rfl
  rw [e, dz_nat h, dz_dec h]
  unfold FP.Core.toI
  simp only [FP.Core.toInt, FP.Core.truncate]
  rw [show (((1045 : Nat) : Int) - 1074).toNat = 0 by decide, show (-(((1045 : Nat) : Int) - 1074)).toNat = 29 by decide, sg_f, Nat.pow_zero, Nat.mul_one, show c * 536870912 = c * 2 ^ 29 by omega, Nat.mul_div_cancel _ (by decide)]
  rw [show max (-2 ^ 31 : Int) (min (2 ^ 31 - 1) (c : Int)) = c by omega]
  exact w32_id ⟨by omega, by omega⟩
theorem ishl23 : ∀ n : Nat, n < 256 → (i1 (n : Int) <<< (i1 23 &&& 31)).toInt = (n : Int) * 8388608 := by decide +kernel
theorem qcat_2z : qcat 2 = 1 := rfl
theorem g101_18 (tb : qTb) (lim : Nat × Nat) (R : Option qV → qM → Prop) (ls st : List qV) (M : qM) : qW tb 101 lim 18 ls st M R = qy tb 101 lim R (18, .sipush 128, 3, 0, 0, 0) ls st M := qW_at (qcdB_spec (e := (18, .sipush 128, 3, 0, 0, 0)) (by decide +kernel))
theorem g101_21 (tb : qTb) (lim : Nat × Nat) (R : Option qV → qM → Prop) (ls st : List qV) (M : qM) : qW tb 101 lim 21 ls st M R = qy tb 101 lim R (21, .if_icmp .ge 26, 3, 0, 0, 0) ls st M := qW_at (qcdB_spec (e := (21, .if_icmp .ge 26, 3, 0, 0, 0)) (by decide +kernel))
theorem g101_24 (tb : qTb) (lim : Nat × Nat) (R : Option qV → qM → Prop) (ls st : List qV) (M : qM) : qW tb 101 lim 24 ls st M R = qy tb 101 lim R (24, .dload_n 1, 1, 0, 0, 0) ls st M := qW_at (qcdB_spec (e := (24, .dload_n 1, 1, 0, 0, 0)) (by decide +kernel))
theorem g101_25 (tb : qTb) (lim : Nat × Nat) (R : Option qV → qM → Prop) (ls st : List qV) (M : qM) : qW tb 101 lim 25 ls st M R = qy tb 101 lim R (25, .ldc2_w 236, 3, 3, 0, 4611686018427387904) ls st M := qW_at (qcdB_spec (e := (25, .ldc2_w 236, 3, 3, 0, 4611686018427387904)) (by decide +kernel))
theorem g101_28 (tb : qTb) (lim : Nat × Nat) (R : Option qV → qM → Prop) (ls st : List qV) (M : qM) : qW tb 101 lim 28 ls st M R = qy tb 101 lim R (28, .dcmp .l, 1, 0, 0, 0) ls st M := qW_at (qcdB_spec (e := (28, .dcmp .l, 1, 0, 0, 0)) (by decide +kernel))
theorem g101_29 (tb : qTb) (lim : Nat × Nat) (R : Option qV → qM → Prop) (ls st : List qV) (M : qM) : qW tb 101 lim 29 ls st M R = qy tb 101 lim R (29, .ifCond .lt 18, 3, 0, 0, 0) ls st M := qW_at (qcdB_spec (e := (29, .ifCond .lt 18, 3, 0, 0, 0)) (by decide +kernel))
theorem g101_32 (tb : qTb) (lim : Nat × Nat) (R : Option qV → qM → Prop) (ls st : List qV) (M : qM) : qW tb 101 lim 32 ls st M R = qy tb 101 lim R (32, .dload_n 1, 1, 0, 0, 0) ls st M := qW_at (qcdB_spec (e := (32, .dload_n 1, 1, 0, 0, 0)) (by decide +kernel))
theorem g101_33 (tb : qTb) (lim : Nat × Nat) (R : Option qV → qM → Prop) (ls st : List qV) (M : qM) : qW tb 101 lim 33 ls st M R = qy tb 101 lim R (33, .ldc2_w 236, 3, 3, 0, 4611686018427387904) ls st M := qW_at (qcdB_spec (e := (33, .ldc2_w 236, 3, 3, 0, 4611686018427387904)) (by decide +kernel))
theorem g101_36 (tb : qTb) (lim : Nat × Nat) (R : Option qV → qM → Prop) (ls st : List qV) (M : qM) : qW tb 101 lim 36 ls st M R = qy tb 101 lim R (36, .ddiv, 1, 0, 0, 0) ls st M := qW_at (qcdB_spec (e := (36, .ddiv, 1, 0, 0, 0)) (by decide +kernel))
theorem g101_37 (tb : qTb) (lim : Nat × Nat) (R : Option qV → qM → Prop) (ls st : List qV) (M : qM) : qW tb 101 lim 37 ls st M R = qy tb 101 lim R (37, .dstore_n 1, 1, 0, 0, 0) ls st M := qW_at (qcdB_spec (e := (37, .dstore_n 1, 1, 0, 0, 0)) (by decide +kernel))
theorem g101_38 (tb : qTb) (lim : Nat × Nat) (R : Option qV → qM → Prop) (ls st : List qV) (M : qM) : qW tb 101 lim 38 ls st M R = qy tb 101 lim R (38, .iinc 3 1, 3, 0, 0, 0) ls st M := qW_at (qcdB_spec (e := (38, .iinc 3 1, 3, 0, 0, 0)) (by decide +kernel))
theorem g101_41 (tb : qTb) (lim : Nat × Nat) (R : Option qV → qM → Prop) (ls st : List qV) (M : qM) : qW tb 101 lim 41 ls st M R = qy tb 101 lim R (41, .iinc 4 1, 3, 0, 0, 0) ls st M := qW_at (qcdB_spec (e := (41, .iinc 4 1, 3, 0, 0, 0)) (by decide +kernel))
theorem g101_44 (tb : qTb) (lim : Nat × Nat) (R : Option qV → qM → Prop) (ls st : List qV) (M : qM) : qW tb 101 lim 44 ls st M R = qy tb 101 lim R (44, .goto (-28), 3, 0, 0, 0) ls st M := qW_at (qcdB_spec (e := (44, .goto (-28), 3, 0, 0, 0)) (by decide +kernel))
theorem g101_52 (tb : qTb) (lim : Nat × Nat) (R : Option qV → qM → Prop) (ls st : List qV) (M : qM) : qW tb 101 lim 52 ls st M R = qy tb 101 lim R (52, .bipush 126, 2, 0, 0, 0) ls st M := qW_at (qcdB_spec (e := (52, .bipush 126, 2, 0, 0, 0)) (by decide +kernel))
theorem g101_54 (tb : qTb) (lim : Nat × Nat) (R : Option qV → qM → Prop) (ls st : List qV) (M : qM) : qW tb 101 lim 54 ls st M R = qy tb 101 lim R (54, .if_icmp .ge 24, 3, 0, 0, 0) ls st M := qW_at (qcdB_spec (e := (54, .if_icmp .ge 24, 3, 0, 0, 0)) (by decide +kernel))
theorem g101_57 (tb : qTb) (lim : Nat × Nat) (R : Option qV → qM → Prop) (ls st : List qV) (M : qM) : qW tb 101 lim 57 ls st M R = qy tb 101 lim R (57, .dload_n 1, 1, 0, 0, 0) ls st M := qW_at (qcdB_spec (e := (57, .dload_n 1, 1, 0, 0, 0)) (by decide +kernel))
theorem g101_58 (tb : qTb) (lim : Nat × Nat) (R : Option qV → qM → Prop) (ls st : List qV) (M : qM) : qW tb 101 lim 58 ls st M R = qy tb 101 lim R (58, .dconst 1, 1, 0, 0, 0) ls st M := qW_at (qcdB_spec (e := (58, .dconst 1, 1, 0, 0, 0)) (by decide +kernel))
theorem g101_59 (tb : qTb) (lim : Nat × Nat) (R : Option qV → qM → Prop) (ls st : List qV) (M : qM) : qW tb 101 lim 59 ls st M R = qy tb 101 lim R (59, .dcmp .g, 1, 0, 0, 0) ls st M := qW_at (qcdB_spec (e := (59, .dcmp .g, 1, 0, 0, 0)) (by decide +kernel))
theorem g101_60 (tb : qTb) (lim : Nat × Nat) (R : Option qV → qM → Prop) (ls st : List qV) (M : qM) : qW tb 101 lim 60 ls st M R = qy tb 101 lim R (60, .ifCond .ge 18, 3, 0, 0, 0) ls st M := qW_at (qcdB_spec (e := (60, .ifCond .ge 18, 3, 0, 0, 0)) (by decide +kernel))
theorem g101_63 (tb : qTb) (lim : Nat × Nat) (R : Option qV → qM → Prop) (ls st : List qV) (M : qM) : qW tb 101 lim 63 ls st M R = qy tb 101 lim R (63, .dload_n 1, 1, 0, 0, 0) ls st M := qW_at (qcdB_spec (e := (63, .dload_n 1, 1, 0, 0, 0)) (by decide +kernel))
theorem g101_64 (tb : qTb) (lim : Nat × Nat) (R : Option qV → qM → Prop) (ls st : List qV) (M : qM) : qW tb 101 lim 64 ls st M R = qy tb 101 lim R (64, .ldc2_w 236, 3, 3, 0, 4611686018427387904) ls st M := qW_at (qcdB_spec (e := (64, .ldc2_w 236, 3, 3, 0, 4611686018427387904)) (by decide +kernel))
theorem g101_67 (tb : qTb) (lim : Nat × Nat) (R : Option qV → qM → Prop) (ls st : List qV) (M : qM) : qW tb 101 lim 67 ls st M R = qy tb 101 lim R (67, .dmul, 1, 0, 0, 0) ls st M := qW_at (qcdB_spec (e := (67, .dmul, 1, 0, 0, 0)) (by decide +kernel))
theorem g101_68 (tb : qTb) (lim : Nat × Nat) (R : Option qV → qM → Prop) (ls st : List qV) (M : qM) : qW tb 101 lim 68 ls st M R = qy tb 101 lim R (68, .dstore_n 1, 1, 0, 0, 0) ls st M := qW_at (qcdB_spec (e := (68, .dstore_n 1, 1, 0, 0, 0)) (by decide +kernel))
theorem g101_69 (tb : qTb) (lim : Nat × Nat) (R : Option qV → qM → Prop) (ls st : List qV) (M : qM) : qW tb 101 lim 69 ls st M R = qy tb 101 lim R (69, .iinc 3 (-1), 3, 0, 0, 0) ls st M := qW_at (qcdB_spec (e := (69, .iinc 3 (-1), 3, 0, 0, 0)) (by decide +kernel))
theorem g101_72 (tb : qTb) (lim : Nat × Nat) (R : Option qV → qM → Prop) (ls st : List qV) (M : qM) : qW tb 101 lim 72 ls st M R = qy tb 101 lim R (72, .iinc 4 1, 3, 0, 0, 0) ls st M := qW_at (qcdB_spec (e := (72, .iinc 4 1, 3, 0, 0, 0)) (by decide +kernel))
theorem g101_75 (tb : qTb) (lim : Nat × Nat) (R : Option qV → qM → Prop) (ls st : List qV) (M : qM) : qW tb 101 lim 75 ls st M R = qy tb 101 lim R (75, .goto (-25), 3, 0, 0, 0) ls st M := qW_at (qcdB_spec (e := (75, .goto (-25), 3, 0, 0, 0)) (by decide +kernel))
theorem r101a {tb : qTb} {F : XT} {R : Option qV → qM → Prop} (b : Int) (c : Nat) (hc1 : 8388608 ≤ c) (hc2 : c < 16777216) : ∀ (n j : Nat) (p i : Int), j ≤ 1022 + n → (n = 0 ∨ j = 1022 + n) → 0 ≤ i → i + n ≤ 127 → 0 ≤ p → p + n ≤ 127 → (∀ x : Int, qW tb 101 (119, 1262) 47 [(2, b), (4, (dbn c (j - n) : Int)), (9, 0), (0, p + n), (0, x)] [] (LAY, F) R) → qW tb 101 (119, 1262) 16 [(2, b), (4, (dbn c j : Int)), (9, 0), (0, p), (0, i)] [] (LAY, F) R := by
  intro n
  induction n with
  | zero =>
    intro j p i h1 h2 h3 h4 h5 h6 hk
    have hk1 := hk i
    rw [Nat.sub_zero, show p + ((0 : Nat) : Int) = p by omega] at hk1
    have fi : (i < 128) = True := eq_true (by omega)
    have fc : ((Op.cmpValue (FP.dcmp (d1 (dbn c j : Int)) (d1 4611686018427387904)) .l).toInt < 0) = True := by
      rw [d1_n, dz_cmp .l ⟨hc1, hc2, by omega⟩ dz_2]
      exact eq_true (by omega)
    obtain ⟨D, hD⟩ : ∃ D : Int, D = (dbn c j : Int) := ⟨_, rfl⟩
    rw [← hD] at fc hk1 ⊢
    rw [h101_16]
    simp only [YK, g101_18, g101_21, g101_24, g101_25, g101_28, g101_29, g101_32, g101_33, g101_36, g101_37, g101_38, g101_41, g101_44, t101, qcat_2z, tgK, lyK, rkK, wK, rfK, qRes_eq, qNon_eq, qup_ap, vup_ap, vcpy_ap, kc8_0, kc8_1, kc8_2, lc_lt, lc_gt, lc_eq, Option.toList_some, Option.toList_none, List.cons_append, List.nil_append, lay_len, lay_sz, Nat.reduceAdd, Nat.reduceSub, Nat.reduceMul, Int.reduceToNat, Int.reduceLE, Int.reduceLT, Int.reduceEq, Int.reduceAdd, Int.reduceSub, Int.reduceMul, Int.reduceNeg, Nat.reduceLeDiff, Nat.reduceLT, true_and, and_true, false_and, and_false, qcat_0, qcat_1, qcat_3, qcat_9, Nat.reduceEqDiff, if_true, if_false, ite_self, or_true, true_or, or_false, false_or, forall_const, not_true_eq_false, not_false_eq_true, false_implies, implies_true, qtK0, qtK1, qtK2, qtK3, qtK4, List.getD_cons_zero, List.getD_cons_succ, Int.toNat_natCast, ne_eq, qcK, hbF, bsetF, bclrF, fi, fc]
    exact hk1
  | succ n ih =>
    intro j p i h1 h2 h3 h4 h5 h6 hk
    have hj := h2.resolve_left (by omega)
    have hC : CK c j := ⟨hc1, hc2, by omega⟩
    have hC2 : CK c (j - 1) := ⟨hc1, hc2, by omega⟩
    have fi : (i < 128) = True := eq_true (by omega)
    have fc : ((Op.cmpValue (FP.dcmp (d1 (dbn c j : Int)) (d1 4611686018427387904)) .l).toInt < 0) = False := by
      rw [d1_n, dz_cmp .l hC dz_2]
      exact eq_false (by omega)
    have e0 : FP.ddiv (d1 (dbn c j : Int)) (d1 4611686018427387904) = UInt64.ofNat (dbn c (j - 1)) := by
      rw [d1_n]
      exact dz_div hC (by omega) dz_2
    have e1 : ((FP.ddiv (d1 (dbn c j : Int)) (d1 4611686018427387904)).toNat : Int) = (dbn c (j - 1) : Int) := by rw [e0, dz_nat hC2]
    have e2 : vf_n64 (FP.ddiv (d1 (dbn c j : Int)) (d1 4611686018427387904)) = True := by
      rw [e0]
      exact eq_true (dz_v hC2)
    have w1 : w32 (p + 1) = p + 1 := w32_id ⟨by omega, by omega⟩
    have w2 : w32 (i + 1) = i + 1 := w32_id ⟨by omega, by omega⟩
    have go := ih (j - 1) (p + 1) (i + 1) (by omega) (by omega) (by omega) (by omega) (by omega) (by omega) (by
      intro x
      rw [show j - 1 - n = j - (n + 1) by omega, show p + 1 + (n : Int) = p + ((n + 1 : Nat) : Int) by omega]
      exact hk x)
    obtain ⟨D, hD⟩ : ∃ D : Int, D = (dbn c j : Int) := ⟨_, rfl⟩
    obtain ⟨D2, hD2⟩ : ∃ D2 : Int, D2 = (dbn c (j - 1) : Int) := ⟨_, rfl⟩
    rw [← hD2] at e1 go
    rw [← hD] at fc e1 e2 ⊢
    rw [h101_16]
    simp only [YK, g101_18, g101_21, g101_24, g101_25, g101_28, g101_29, g101_32, g101_33, g101_36, g101_37, g101_38, g101_41, g101_44, t101, qcat_2z, tgK, lyK, rkK, wK, rfK, qRes_eq, qNon_eq, qup_ap, vup_ap, vcpy_ap, kc8_0, kc8_1, kc8_2, lc_lt, lc_gt, lc_eq, Option.toList_some, Option.toList_none, List.cons_append, List.nil_append, lay_len, lay_sz, Nat.reduceAdd, Nat.reduceSub, Nat.reduceMul, Int.reduceToNat, Int.reduceLE, Int.reduceLT, Int.reduceEq, Int.reduceAdd, Int.reduceSub, Int.reduceMul, Int.reduceNeg, Nat.reduceLeDiff, Nat.reduceLT, true_and, and_true, false_and, and_false, qcat_0, qcat_1, qcat_3, qcat_9, Nat.reduceEqDiff, if_true, if_false, ite_self, or_true, true_or, or_false, false_or, forall_const, not_true_eq_false, not_false_eq_true, false_implies, implies_true, qtK0, qtK1, qtK2, qtK3, qtK4, List.getD_cons_zero, List.getD_cons_succ, Int.toNat_natCast, ne_eq, qcK, hbF, bsetF, bclrF, fi, fc, e1, e2, w1, w2]
    exact go
theorem r101b {tb : qTb} {F : XT} {R : Option qV → qM → Prop} (b : Int) (c : Nat) (hc1 : 8388608 ≤ c) (hc2 : c < 16777216) : ∀ (n j : Nat) (p i : Int), j + n = 1022 → 0 ≤ i → i + n ≤ 125 → p ≤ 127 → -127 ≤ p - n → (∀ x : Int, qW tb 101 (119, 1262) 78 [(2, b), (4, (dbn c 1022 : Int)), (9, 0), (0, p - n), (0, x)] [] (LAY, F) R) → qW tb 101 (119, 1262) 50 [(2, b), (4, (dbn c j : Int)), (9, 0), (0, p), (0, i)] [] (LAY, F) R := by
  intro n
  induction n with
  | zero =>
    intro j p i h1 h3 h4 h5 h6 hk
    have hk1 := hk i
    rw [show 1022 = j by omega, show p - ((0 : Nat) : Int) = p by omega] at hk1
    have fi : (i < 126) = True := eq_true (by omega)
    have fc : ((Op.cmpValue (FP.dcmp (d1 (dbn c j : Int)) (d1 4607182418800017408)) .g).toInt < 0) = False := by
      rw [d1_n, dz_cmp .g ⟨hc1, hc2, by omega⟩ dz_1]
      exact eq_false (by omega)
    obtain ⟨D, hD⟩ : ∃ D : Int, D = (dbn c j : Int) := ⟨_, rfl⟩
    rw [← hD] at fc hk1 ⊢
    rw [h101_50]
    simp only [YK, g101_52, g101_54, g101_57, g101_58, g101_59, g101_60, g101_63, g101_64, g101_67, g101_68, g101_69, g101_72, g101_75, t101, qcat_2z, tgK, lyK, rkK, wK, rfK, qRes_eq, qNon_eq, qup_ap, vup_ap, vcpy_ap, kc8_0, kc8_1, kc8_2, lc_lt, lc_gt, lc_eq, Option.toList_some, Option.toList_none, List.cons_append, List.nil_append, lay_len, lay_sz, Nat.reduceAdd, Nat.reduceSub, Nat.reduceMul, Int.reduceToNat, Int.reduceLE, Int.reduceLT, Int.reduceEq, Int.reduceAdd, Int.reduceSub, Int.reduceMul, Int.reduceNeg, Nat.reduceLeDiff, Nat.reduceLT, true_and, and_true, false_and, and_false, qcat_0, qcat_1, qcat_3, qcat_9, Nat.reduceEqDiff, if_true, if_false, ite_self, or_true, true_or, or_false, false_or, forall_const, not_true_eq_false, not_false_eq_true, false_implies, implies_true, qtK0, qtK1, qtK2, qtK3, qtK4, List.getD_cons_zero, List.getD_cons_succ, Int.toNat_natCast, ne_eq, qcK, hbF, bsetF, bclrF, fi, fc]
    exact hk1
  | succ n ih =>
    intro j p i h1 h3 h4 h5 h6 hk
    have hC : CK c j := ⟨hc1, hc2, by omega⟩
    have hC2 : CK c (j + 1) := ⟨hc1, hc2, by omega⟩
    have fi : (i < 126) = True := eq_true (by omega)
    have fc : ((Op.cmpValue (FP.dcmp (d1 (dbn c j : Int)) (d1 4607182418800017408)) .g).toInt < 0) = True := by
      rw [d1_n, dz_cmp .g hC dz_1]
      exact eq_true (by omega)
    have e0 : FP.dmul (d1 (dbn c j : Int)) (d1 4611686018427387904) = UInt64.ofNat (dbn c (j + 1)) := by
      rw [d1_n]
      exact dz_mul (p := 1023) hC (by omega) (by omega) dz_2
    have e1 : ((FP.dmul (d1 (dbn c j : Int)) (d1 4611686018427387904)).toNat : Int) = (dbn c (j + 1) : Int) := by rw [e0, dz_nat hC2]
    have e2 : vf_n64 (FP.dmul (d1 (dbn c j : Int)) (d1 4611686018427387904)) = True := by
      rw [e0]
      exact eq_true (dz_v hC2)
    have w1 : w32 (p + -1) = p - 1 := by
      rw [show p + -1 = p - 1 by omega]
      exact w32_id ⟨by omega, by omega⟩
    have w2 : w32 (i + 1) = i + 1 := w32_id ⟨by omega, by omega⟩
    have go := ih (j + 1) (p - 1) (i + 1) (by omega) (by omega) (by omega) (by omega) (by omega) (by
      intro x
      rw [show p - 1 - (n : Int) = p - ((n + 1 : Nat) : Int) by omega]
      exact hk x)
    obtain ⟨D, hD⟩ : ∃ D : Int, D = (dbn c j : Int) := ⟨_, rfl⟩
    obtain ⟨D2, hD2⟩ : ∃ D2 : Int, D2 = (dbn c (j + 1) : Int) := ⟨_, rfl⟩
    rw [← hD2] at e1 go
    rw [← hD] at fc e1 e2 ⊢
    rw [h101_50]
    simp only [YK, g101_52, g101_54, g101_57, g101_58, g101_59, g101_60, g101_63, g101_64, g101_67, g101_68, g101_69, g101_72, g101_75, t101, qcat_2z, tgK, lyK, rkK, wK, rfK, qRes_eq, qNon_eq, qup_ap, vup_ap, vcpy_ap, kc8_0, kc8_1, kc8_2, lc_lt, lc_gt, lc_eq, Option.toList_some, Option.toList_none, List.cons_append, List.nil_append, lay_len, lay_sz, Nat.reduceAdd, Nat.reduceSub, Nat.reduceMul, Int.reduceToNat, Int.reduceLE, Int.reduceLT, Int.reduceEq, Int.reduceAdd, Int.reduceSub, Int.reduceMul, Int.reduceNeg, Nat.reduceLeDiff, Nat.reduceLT, true_and, and_true, false_and, and_false, qcat_0, qcat_1, qcat_3, qcat_9, Nat.reduceEqDiff, if_true, if_false, ite_self, or_true, true_or, or_false, false_or, forall_const, not_true_eq_false, not_false_eq_true, false_implies, implies_true, qtK0, qtK1, qtK2, qtK3, qtK4, List.getD_cons_zero, List.getD_cons_succ, Int.toNat_natCast, ne_eq, qcK, hbF, bsetF, bclrF, fi, fc, e1, e2, w1, w2]
    exact go
theorem r101e {tb : qTb} {F : XT} {R : Option qV → qM → Prop} (b p x : Int) (c : Nat) (k : Nat) (hc1 : 8388608 ≤ c) (hc2 : c < 16777216) (hk1 : k ≤ 200) (hp : p = (k : Int) - 126) (hb : b = (k : Int) * 8388608 + c) (hk : R (some (0, b)) (LAY, F)) : qW tb 101 (119, 1262) 78 [(2, b), (4, (dbn c 1022 : Int)), (9, 0), (0, p), (0, x)] [] (LAY, F) R := by
  have hC : CK c 1022 := ⟨hc1, hc2, by omega⟩
  have hC2 : CK c 1045 := ⟨hc1, hc2, by omega⟩
  have w1 : w32 (p + 127) = ((k + 1 : Nat) : Int) := by
    rw [show p + 127 = ((k + 1 : Nat) : Int) by omega]
    exact w32_id ⟨by omega, by omega⟩
  have s1 := ishl23 (k + 1) (by omega)
  have e0 : FP.dmul (d1 (dbn c 1022 : Int)) (d1 4710765210229538816) = UInt64.ofNat (dbn c 1045) := by
    rw [d1_n]
    exact dz_mul (p := 1045) hC (by omega) (by omega) dz_23
  have e1 : ((FP.dmul (d1 (dbn c 1022 : Int)) (d1 4710765210229538816)).toNat : Int) = (dbn c 1045 : Int) := by rw [e0, dz_nat hC2]
  have e2 : vf_n64 (FP.dmul (d1 (dbn c 1022 : Int)) (d1 4710765210229538816)) = True := by
    rw [e0]
    exact eq_true (dz_v hC2)
  have e3 : (FP.d2i (d1 (dbn c 1045 : Int))).toInt = (c : Int) := by
    rw [d1_n]
    exact dz_d2i hC2
  obtain ⟨K, hK⟩ : ∃ K : Int, K = ((k + 1 : Nat) : Int) := ⟨_, rfl⟩
  rw [← hK] at w1 s1
  obtain ⟨S, hS⟩ : ∃ S : Int, S = K * 8388608 := ⟨_, rfl⟩
  rw [← hS] at s1
  have w2 : w32 (S + (c : Int)) = S + (c : Int) := w32_id ⟨by omega, by omega⟩
  have w3 : w32 (S + (c : Int) - 8388608) = b := by
    rw [show S + (c : Int) - 8388608 = b by omega]
    exact w32_id ⟨by omega, by omega⟩
  obtain ⟨D, hD⟩ : ∃ D : Int, D = (dbn c 1022 : Int) := ⟨_, rfl⟩
  obtain ⟨D2, hD2⟩ : ∃ D2 : Int, D2 = (dbn c 1045 : Int) := ⟨_, rfl⟩
  rw [← hD2] at e1 e3
  rw [← hD] at e1 e2 ⊢
  simp only [YK, c101, t101, tgK, lyK, rkK, wK, rfK, qRes_eq, qNon_eq, qup_ap, vup_ap, vcpy_ap, kc8_0, kc8_1, kc8_2, lc_lt, lc_gt, lc_eq, Option.toList_some, Option.toList_none, List.cons_append, List.nil_append, lay_len, lay_sz, Nat.reduceAdd, Nat.reduceSub, Nat.reduceMul, Int.reduceToNat, Int.reduceLE, Int.reduceLT, Int.reduceEq, Int.reduceAdd, Int.reduceSub, Int.reduceMul, Int.reduceNeg, Nat.reduceLeDiff, Nat.reduceLT, true_and, and_true, false_and, and_false, qcat_0, qcat_1, qcat_3, qcat_9, Nat.reduceEqDiff, if_true, if_false, ite_self, or_true, true_or, or_false, false_or, forall_const, not_true_eq_false, not_false_eq_true, false_implies, implies_true, qtK0, qtK1, qtK2, qtK3, qtK4, List.getD_cons_zero, List.getD_cons_succ, Int.toNat_natCast, ne_eq, qcK, hbF, bsetF, bclrF, qcat_2z, w1, s1, e1, e2, e3, w2, w3]
  exact hk
theorem CBO_k {b : Int} {c k : Nat} (hM : MX b false c k) (hk1 : 99 ≤ k ∧ k ≤ 133) : CBO b := by
  intro tb F R hk
  have hV : MV b ((c * 2 ^ k : Nat) : Int) := MX_MV hM (by rw [sg_mul, sg_f])
  have hc1 := hM.1
  have hc2 := hM.2.1
  have hb := hM.2.2.2
  simp only [Bool.false_eq_true, if_false] at hb
  have hC : CK c (k + 896) := ⟨hc1, hc2, by omega⟩
  have hp : 0 < c * 2 ^ k := Nat.mul_pos (by omega) (Nat.two_pow_pos k)
  have f0 : (0 < (Op.cmpValue (FP.fcmp (f1 b) (f1 0)) .g).toInt) = True := by
    rw [f1_fu ⟨by omega, by omega⟩, f1_fu (b := 0) ⟨by omega, by omega⟩, fz_cmp hV (.inl ⟨rfl, rfl⟩), (cv_p _ _ .g).1]
    exact eq_true (by omega)
  have e0 : FP.f2d (f1 b) = UInt64.ofNat (dbn c (k + 896)) := by
    rw [f1_fu ⟨by omega, by omega⟩]
    exact dz_f2d hM
  have e1 : ((FP.f2d (f1 b)).toNat : Int) = (dbn c (k + 896) : Int) := by rw [e0, dz_nat hC]
  have e2 : vf_n64 (FP.f2d (f1 b)) = True := by
    rw [e0]
    exact eq_true (dz_v hC)
  have go : ∀ (n : Nat), k + 896 ≤ 1022 + n → (n = 0 ∨ k + 896 = 1022 + n) → n ≤ 100 → qW tb 101 (119, 1262) 16 [(2, b), (4, (dbn c (k + 896) : Int)), (9, 0), (0, 0), (0, 0)] [] (LAY, F) R := by
    intro n h1 h2 h3
    refine r101a b c hc1 hc2 n (k + 896) 0 0 h1 h2 (by omega) (by omega) (by omega) (by omega) ?_
    intro x
    have g2 : qW tb 101 (119, 1262) 50 [(2, b), (4, (dbn c (k + 896 - n) : Int)), (9, 0), (0, 0 + (n : Int)), (0, 0)] [] (LAY, F) R := by
      refine r101b b c hc1 hc2 (1022 - (k + 896 - n)) (k + 896 - n) (0 + (n : Int)) 0 (by omega) (by omega) (by omega) (by omega) (by omega) ?_
      intro x2
      exact r101e b _ x2 c k hc1 hc2 (by omega) (by omega) (by omega) hk
    obtain ⟨D, hD⟩ : ∃ D : Int, D = (dbn c (k + 896 - n) : Int) := ⟨_, rfl⟩
    obtain ⟨P, hP⟩ : ∃ P : Int, P = 0 + (n : Int) := ⟨_, rfl⟩
    rw [← hD, ← hP] at g2 ⊢
    simp only [YK, c101, t101, tgK, lyK, rkK, wK, rfK, qRes_eq, qNon_eq, qup_ap, vup_ap, vcpy_ap, kc8_0, kc8_1, kc8_2, lc_lt, lc_gt, lc_eq, Option.toList_some, Option.toList_none, List.cons_append, List.nil_append, lay_len, lay_sz, Nat.reduceAdd, Nat.reduceSub, Nat.reduceMul, Int.reduceToNat, Int.reduceLE, Int.reduceLT, Int.reduceEq, Int.reduceAdd, Int.reduceSub, Int.reduceMul, Int.reduceNeg, Nat.reduceLeDiff, Nat.reduceLT, true_and, and_true, false_and, and_false, qcat_0, qcat_1, qcat_3, qcat_9, Nat.reduceEqDiff, if_true, if_false, ite_self, or_true, true_or, or_false, false_or, forall_const, not_true_eq_false, not_false_eq_true, false_implies, implies_true, qtK0, qtK1, qtK2, qtK3, qtK4, List.getD_cons_zero, List.getD_cons_succ, Int.toNat_natCast, ne_eq, qcK, hbF, bsetF, bclrF, qcat_2z]
    exact g2
  have g1 : qW tb 101 (119, 1262) 16 [(2, b), (4, (dbn c (k + 896) : Int)), (9, 0), (0, 0), (0, 0)] [] (LAY, F) R := by
    by_cases h : 126 ≤ k
    · exact go (k - 126) (by omega) (by omega) (by omega)
    · exact go 0 (by omega) (.inl rfl) (by omega)
  obtain ⟨D, hD⟩ : ∃ D : Int, D = (dbn c (k + 896) : Int) := ⟨_, rfl⟩
  rw [← hD] at g1 e1
  simp only [YK, c101, t101, tgK, lyK, rkK, wK, rfK, qRes_eq, qNon_eq, qup_ap, vup_ap, vcpy_ap, kc8_0, kc8_1, kc8_2, lc_lt, lc_gt, lc_eq, Option.toList_some, Option.toList_none, List.cons_append, List.nil_append, lay_len, lay_sz, Nat.reduceAdd, Nat.reduceSub, Nat.reduceMul, Int.reduceToNat, Int.reduceLE, Int.reduceLT, Int.reduceEq, Int.reduceAdd, Int.reduceSub, Int.reduceMul, Int.reduceNeg, Nat.reduceLeDiff, Nat.reduceLT, true_and, and_true, false_and, and_false, qcat_0, qcat_1, qcat_3, qcat_9, Nat.reduceEqDiff, if_true, if_false, ite_self, or_true, true_or, or_false, false_or, forall_const, not_true_eq_false, not_false_eq_true, false_implies, implies_true, qtK0, qtK1, qtK2, qtK3, qtK4, List.getD_cons_zero, List.getD_cons_succ, Int.toNat_natCast, ne_eq, qcK, hbF, bsetF, bclrF, qcat_2z, f0, e1, e2]
  exact g1
theorem CBO_0 : CBO 0 := by
  intro tb F R hk
  have f0 : (0 < (Op.cmpValue (FP.fcmp (f1 0) (f1 0)) .g).toInt) = False := by
    rw [f1_fu (b := 0) ⟨by omega, by omega⟩, fz_cmp (.inl ⟨rfl, rfl⟩) (.inl ⟨rfl, rfl⟩), (cv_p _ _ .g).1]
    exact eq_false (by omega)
  simp only [YK, c101, t101, tgK, lyK, rkK, wK, rfK, qRes_eq, qNon_eq, qup_ap, vup_ap, vcpy_ap, kc8_0, kc8_1, kc8_2, lc_lt, lc_gt, lc_eq, Option.toList_some, Option.toList_none, List.cons_append, List.nil_append, lay_len, lay_sz, Nat.reduceAdd, Nat.reduceSub, Nat.reduceMul, Int.reduceToNat, Int.reduceLE, Int.reduceLT, Int.reduceEq, Int.reduceAdd, Int.reduceSub, Int.reduceMul, Int.reduceNeg, Nat.reduceLeDiff, Nat.reduceLT, true_and, and_true, false_and, and_false, qcat_0, qcat_1, qcat_3, qcat_9, Nat.reduceEqDiff, if_true, if_false, ite_self, or_true, true_or, or_false, false_or, forall_const, not_true_eq_false, not_false_eq_true, false_implies, implies_true, qtK0, qtK1, qtK2, qtK3, qtK4, List.getD_cons_zero, List.getD_cons_succ, Int.toNat_natCast, ne_eq, qcK, hbF, bsetF, bclrF, qcat_2z, f0]
  exact hk
theorem FA_ok : FA := by
  refine ⟨FLT_ok, FLT2_ok, BO4_ok, ?_, ?_⟩
  · intro b h
    obtain ⟨c, k, X, hM, hX, hV, r1, r2⟩ := Ln_X h
    exact CBO_k hM (Rt_k hM.1 hM.2.1 hX (by omega) r2)
  · intro m b h h1 h2
    by_cases hb : b = 0
    · rw [hb]
      exact CBO_0
    · obtain ⟨c, k, X, hM, hX, hV, r1, r2⟩ := Rt_X h (by omega) hb
      exact CBO_k hM (Rt_k hM.1 hM.2.1 hX r1 (by omega))
