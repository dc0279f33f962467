/-! floats, 8: sum, step and test -/
theorem nz0 (a : Int) : ((if 0 < a then (1 : Int) else -1) = 0) = False := by
  apply eq_false
  split <;> decide
def WN (X : Int) : Prop := 2 ^ 122 ≤ X.natAbs ∧ X.natAbs < 2 ^ 157
theorem r111z {tb : qTb} {F : XT} {R : Option qV → qM → Prop} (hk : R (some (1, 0)) (LAY, F)) : qW tb 111 (119, 1262) 0 [(0, 0), (9, 0), (9, 0)] [] (LAY, F) R := r111 0 ⟨by omega, by omega⟩ hk
theorem r112z {tb : qTb} {F : XT} {R : Option qV → qM → Prop} (hk : R (some (0, -150)) (LAY, F)) : qW tb 112 (119, 1262) 0 [(0, 0)] [] (LAY, F) R := r112 0 ⟨by omega, by omega⟩ hk
theorem r113z {tb : qTb} {F : XT} {R : Option qV → qM → Prop} (e : Int) (hk : R (some (0, 0)) (LAY, F)) : qW tb 113 (119, 1262) 0 [(1, 0), (9, 0), (0, e), (9, 0), (9, 0), (9, 0), (9, 0), (9, 0), (9, 0), (9, 0), (9, 0)] [] (LAY, F) R := by
  simp only [YK, c113, t113, tgK, lyK, rkK, wK, rfK, qRes_eq, qNon_eq, qup_ap, vup_ap, vcpy_ap, kc8_0, kc8_1, kc8_2, lc_lt, lc_gt, lc_eq, Option.toList_some, Option.toList_none, List.cons_append, List.nil_append, lay_len, lay_sz, Nat.reduceAdd, Nat.reduceSub, Nat.reduceMul, Int.reduceToNat, Int.reduceLE, Int.reduceLT, Int.reduceEq, Int.reduceAdd, Int.reduceSub, Int.reduceMul, Int.reduceNeg, Nat.reduceLeDiff, Nat.reduceLT, true_and, and_true, false_and, and_false, qcat_0, qcat_1, qcat_3, qcat_9, Nat.reduceEqDiff, if_true, if_false, ite_self, or_true, true_or, or_false, false_or, forall_const, not_true_eq_false, not_false_eq_true, false_implies, implies_true, qtK0, qtK1, qtK2, qtK3, qtK4, List.getD_cons_zero, List.getD_cons_succ, Int.toNat_natCast, ne_eq, qcK, hbF, bsetF, bclrF]
  exact hk
def MX (x : Int) (s : Bool) (c k : Nat) : Prop := 8388608 ≤ c ∧ c < 16777216 ∧ k ≤ 200 ∧ x = (k : Int) * 8388608 + c - (if s = true then 2147483648 else 0)
theorem MX_e {x : Int} {s : Bool} {c k : Nat} (h : MX x s c k) : (-2147483648 ≤ x ∧ x < 2147483648) ∧ x / 8388608 % 256 = k + 1 ∧ x % 8388608 = c - 8388608 ∧ (x < 0 ↔ s = true) := by
  obtain ⟨c1, c2, k1, hx⟩ := h
  cases s
  · simp only [Bool.false_eq_true, if_false] at hx
    simp only [Bool.false_eq_true, iff_false]
    omega
  · simp only [if_true] at hx
    simp only [iff_true]
    omega
theorem r111x {tb : qTb} {F : XT} {R : Option qV → qM → Prop} {x : Int} {s : Bool} {c k : Nat} (h : MX x s c k) (hk : R (some (1, FP.Core.signed s c)) (LAY, F)) : qW tb 111 (119, 1262) 0 [(0, x), (9, 0), (9, 0)] [] (LAY, F) R := by
  obtain ⟨h1, h2, h3, h4⟩ := MX_e h
  apply r111 x h1
  rw [if_neg (by omega), h3]
  have h5 := h.1
  cases s
  · rw [if_neg (by simp only [h4]; decide), show 8388608 + ((c : Int) - 8388608) = c by omega]
    exact hk
  · rw [if_pos (h4.mpr rfl), show 8388608 + ((c : Int) - 8388608) = c by omega]
    exact hk
theorem r112x {tb : qTb} {F : XT} {R : Option qV → qM → Prop} {x : Int} {s : Bool} {c k : Nat} (h : MX x s c k) (hk : R (some (0, (k : Int) - 149)) (LAY, F)) : qW tb 112 (119, 1262) 0 [(0, x)] [] (LAY, F) R := by
  obtain ⟨h1, h2, h3, h4⟩ := MX_e h
  apply r112 x h1
  rw [h2, show (k : Int) + 1 - 150 = k - 149 by omega]
  exact hk
theorem MX_w {s : Bool} {c k : Nat} {X : Int} (c1 : 8388608 ≤ c) (c2 : c < 16777216) (hX : X = FP.Core.signed s (c * 2 ^ k)) (hw : WN X) : 99 ≤ k ∧ k ≤ 133 := by
  have ha : X.natAbs = c * 2 ^ k := by rw [hX, sg_abs]
  obtain ⟨w1, w2⟩ := hw
  have hp := Nat.two_pow_pos k
  have a1 : c * 2 ^ k < 16777216 * 2 ^ k := Nat.mul_lt_mul_of_pos_right c2 hp
  have a2 : 8388608 * 2 ^ k ≤ c * 2 ^ k := Nat.mul_le_mul_right _ c1
  have b1 : 2 ^ 122 < 2 ^ (24 + k) := by
    rw [Nat.pow_add]
    omega
  have b2 : 2 ^ (23 + k) < 2 ^ 157 := by
    rw [Nat.pow_add]
    omega
  have d1 := (Nat.pow_lt_pow_iff_right (by decide)).mp b1
  have d2 := (Nat.pow_lt_pow_iff_right (by decide)).mp b2
  omega
theorem sg_r {s : Bool} {c : Nat} (h : c < 16777216) : -16777216 < FP.Core.signed s c ∧ FP.Core.signed s c < 16777216 := by
  cases s
  · rw [sg_f]
    omega
  · rw [sg_t]
    omega
theorem sg_0 {s : Bool} {c : Nat} (h : 8388608 ≤ c) : ¬ FP.Core.signed s c = 0 := by
  cases s
  · rw [sg_f]
    omega
  · rw [sg_t]
    omega
theorem sh0 (a : Int) (h : -9223372036854775808 ≤ a ∧ a < 9223372036854775808) : (l1 a <<< ((i1 0).toInt64 &&& 63)).toInt = a := by
  have h1 := lshl_v (x := a) (k := 0) h (by rw [Int.pow_zero, Int.mul_one]; exact h) (by decide)
  rw [Int.pow_zero, Int.mul_one] at h1
  exact h1
theorem shn (a : Int) (n : Nat) (h : -16777216 < a ∧ a < 16777216) (hn : n ≤ 35) (N : Int) (hN : N = n) : (l1 a <<< ((i1 N).toInt64 &&& 63)).toInt = a * ((2 ^ n : Nat) : Int) ∧ -576460752303423488 ≤ a * ((2 ^ n : Nat) : Int) ∧ a * ((2 ^ n : Nat) : Int) ≤ 576460752303423488 := by
  have hp : 2 ^ n ≤ 2 ^ 35 := Nat.pow_le_pow_right (by decide) hn
  have b1 : a * ((2 ^ n : Nat) : Int) ≤ 16777216 * ((2 ^ n : Nat) : Int) := Int.mul_le_mul_of_nonneg_right (by omega) (Int.natCast_nonneg _)
  have b2 : -16777216 * ((2 ^ n : Nat) : Int) ≤ a * ((2 ^ n : Nat) : Int) := Int.mul_le_mul_of_nonneg_right (by omega) (Int.natCast_nonneg _)
  have hb : -576460752303423488 ≤ a * ((2 ^ n : Nat) : Int) ∧ a * ((2 ^ n : Nat) : Int) ≤ 576460752303423488 := by
    generalize a * ((2 ^ n : Nat) : Int) = w at b1 b2 ⊢
    omega
  refine ⟨?_, hb⟩
  rw [hN, lshl_v (x := a) (k := n) ⟨by omega, by omega⟩ (by rw [p2n]; omega) (by omega), p2n]
theorem g114_0 (tb : qTb) (lim : Nat × Nat) (R : Option qV → qM → Prop) (ls st : List qV) (M : qM) : qW tb 114 lim 0 ls st M R = qy tb 114 lim R (0, .iload_n 0, 1, 0, 0, 0) ls st M := qW_at (qcdB_spec (e := (0, .iload_n 0, 1, 0, 0, 0)) (by decide +kernel))
theorem g114_1 (tb : qTb) (lim : Nat × Nat) (R : Option qV → qM → Prop) (ls st : List qV) (M : qM) : qW tb 114 lim 1 ls st M R = qy tb 114 lim R (1, .invokestatic 175, 3, 111, 1, 1) ls st M := qW_at (qcdB_spec (e := (1, .invokestatic 175, 3, 111, 1, 1)) (by decide +kernel))
theorem g114_4 (tb : qTb) (lim : Nat × Nat) (R : Option qV → qM → Prop) (ls st : List qV) (M : qM) : qW tb 114 lim 4 ls st M R = qy tb 114 lim R (4, .lstore_n 3, 1, 0, 0, 0) ls st M := qW_at (qcdB_spec (e := (4, .lstore_n 3, 1, 0, 0, 0)) (by decide +kernel))
theorem g114_5 (tb : qTb) (lim : Nat × Nat) (R : Option qV → qM → Prop) (ls st : List qV) (M : qM) : qW tb 114 lim 5 ls st M R = qy tb 114 lim R (5, .iload_n 2, 1, 0, 0, 0) ls st M := qW_at (qcdB_spec (e := (5, .iload_n 2, 1, 0, 0, 0)) (by decide +kernel))
theorem g114_6 (tb : qTb) (lim : Nat × Nat) (R : Option qV → qM → Prop) (ls st : List qV) (M : qM) : qW tb 114 lim 6 ls st M R = qy tb 114 lim R (6, .ifCond .eq 11, 3, 0, 0, 0) ls st M := qW_at (qcdB_spec (e := (6, .ifCond .eq 11, 3, 0, 0, 0)) (by decide +kernel))
theorem g114_9 (tb : qTb) (lim : Nat × Nat) (R : Option qV → qM → Prop) (ls st : List qV) (M : qM) : qW tb 114 lim 9 ls st M R = qy tb 114 lim R (9, .iload_n 1, 1, 0, 0, 0) ls st M := qW_at (qcdB_spec (e := (9, .iload_n 1, 1, 0, 0, 0)) (by decide +kernel))
theorem g114_10 (tb : qTb) (lim : Nat × Nat) (R : Option qV → qM → Prop) (ls st : List qV) (M : qM) : qW tb 114 lim 10 ls st M R = qy tb 114 lim R (10, .invokestatic 175, 3, 111, 1, 1) ls st M := qW_at (qcdB_spec (e := (10, .invokestatic 175, 3, 111, 1, 1)) (by decide +kernel))
theorem g114_13 (tb : qTb) (lim : Nat × Nat) (R : Option qV → qM → Prop) (ls st : List qV) (M : qM) : qW tb 114 lim 13 ls st M R = qy tb 114 lim R (13, .lneg, 1, 0, 0, 0) ls st M := qW_at (qcdB_spec (e := (13, .lneg, 1, 0, 0, 0)) (by decide +kernel))
theorem g114_14 (tb : qTb) (lim : Nat × Nat) (R : Option qV → qM → Prop) (ls st : List qV) (M : qM) : qW tb 114 lim 14 ls st M R = qy tb 114 lim R (14, .goto 7, 3, 0, 0, 0) ls st M := qW_at (qcdB_spec (e := (14, .goto 7, 3, 0, 0, 0)) (by decide +kernel))
theorem g114_17 (tb : qTb) (lim : Nat × Nat) (R : Option qV → qM → Prop) (ls st : List qV) (M : qM) : qW tb 114 lim 17 ls st M R = qy tb 114 lim R (17, .iload_n 1, 1, 0, 0, 0) ls st M := qW_at (qcdB_spec (e := (17, .iload_n 1, 1, 0, 0, 0)) (by decide +kernel))
theorem g114_18 (tb : qTb) (lim : Nat × Nat) (R : Option qV → qM → Prop) (ls st : List qV) (M : qM) : qW tb 114 lim 18 ls st M R = qy tb 114 lim R (18, .invokestatic 175, 3, 111, 1, 1) ls st M := qW_at (qcdB_spec (e := (18, .invokestatic 175, 3, 111, 1, 1)) (by decide +kernel))
theorem g114_21 (tb : qTb) (lim : Nat × Nat) (R : Option qV → qM → Prop) (ls st : List qV) (M : qM) : qW tb 114 lim 21 ls st M R = qy tb 114 lim R (21, .lstore 5, 2, 0, 0, 0) ls st M := qW_at (qcdB_spec (e := (21, .lstore 5, 2, 0, 0, 0)) (by decide +kernel))
theorem r114P {tb : qTb} {F : XT} {R : Option qV → qM → Prop} {x y ls a d b : Int} (x1 : ∀ (R1 : Option qV → qM → Prop), R1 (some (1, a)) (LAY, F) → qW tb 111 (119, 1262) 0 [(0, x), (9, 0), (9, 0)] [] (LAY, F) R1) (y1 : ∀ (R1 : Option qV → qM → Prop), R1 (some (1, d)) (LAY, F) → qW tb 111 (119, 1262) 0 [(0, y), (9, 0), (9, 0)] [] (LAY, F) R1) (hd : -16777216 < d ∧ d < 16777216) (hl : (ls = 0 ∧ b = d) ∨ (ls = 1 ∧ b = -d)) (go : qW tb 114 (119, 1262) 23 [(0, x), (0, y), (0, ls), (1, a), (9, 0), (1, b), (9, 0), (9, 0)] [] (LAY, F) R) : qW tb 114 (119, 1262) 0 [(0, x), (0, y), (0, ls), (9, 0), (9, 0), (9, 0), (9, 0), (9, 0)] [] (LAY, F) R := by
  rcases hl with ⟨l0, hb⟩ | ⟨l0, hb⟩
  · subst l0
    rw [hb] at go
    simp only [YK, g114_0, g114_1, g114_4, g114_5, g114_6, g114_9, g114_10, g114_13, g114_14, g114_17, g114_18, g114_21, t114, cl111, tgK, lyK, rkK, wK, rfK, qRes_eq, qNon_eq, qup_ap, vup_ap, vcpy_ap, kc8_0, kc8_1, kc8_2, lc_lt, lc_gt, lc_eq, Option.toList_some, Option.toList_none, List.cons_append, List.nil_append, lay_len, lay_sz, Nat.reduceAdd, Nat.reduceSub, Nat.reduceMul, Int.reduceToNat, Int.reduceLE, Int.reduceLT, Int.reduceEq, Int.reduceAdd, Int.reduceSub, Int.reduceMul, Int.reduceNeg, Nat.reduceLeDiff, Nat.reduceLT, true_and, and_true, false_and, and_false, qcat_0, qcat_1, qcat_3, qcat_9, Nat.reduceEqDiff, if_true, if_false, ite_self, or_true, true_or, or_false, false_or, forall_const, not_true_eq_false, not_false_eq_true, false_implies, implies_true, qtK0, qtK1, qtK2, qtK3, qtK4, List.getD_cons_zero, List.getD_cons_succ, Int.toNat_natCast, ne_eq, qcK, hbF, bsetF, bclrF]
    apply x1
    simp only [YK, g114_0, g114_1, g114_4, g114_5, g114_6, g114_9, g114_10, g114_13, g114_14, g114_17, g114_18, g114_21, t114, cl111, tgK, lyK, rkK, wK, rfK, qRes_eq, qNon_eq, qup_ap, vup_ap, vcpy_ap, kc8_0, kc8_1, kc8_2, lc_lt, lc_gt, lc_eq, Option.toList_some, Option.toList_none, List.cons_append, List.nil_append, lay_len, lay_sz, Nat.reduceAdd, Nat.reduceSub, Nat.reduceMul, Int.reduceToNat, Int.reduceLE, Int.reduceLT, Int.reduceEq, Int.reduceAdd, Int.reduceSub, Int.reduceMul, Int.reduceNeg, Nat.reduceLeDiff, Nat.reduceLT, true_and, and_true, false_and, and_false, qcat_0, qcat_1, qcat_3, qcat_9, Nat.reduceEqDiff, if_true, if_false, ite_self, or_true, true_or, or_false, false_or, forall_const, not_true_eq_false, not_false_eq_true, false_implies, implies_true, qtK0, qtK1, qtK2, qtK3, qtK4, List.getD_cons_zero, List.getD_cons_succ, Int.toNat_natCast, ne_eq, qcK, hbF, bsetF, bclrF]
    apply y1
    simp only [YK, g114_0, g114_1, g114_4, g114_5, g114_6, g114_9, g114_10, g114_13, g114_14, g114_17, g114_18, g114_21, t114, cl111, tgK, lyK, rkK, wK, rfK, qRes_eq, qNon_eq, qup_ap, vup_ap, vcpy_ap, kc8_0, kc8_1, kc8_2, lc_lt, lc_gt, lc_eq, Option.toList_some, Option.toList_none, List.cons_append, List.nil_append, lay_len, lay_sz, Nat.reduceAdd, Nat.reduceSub, Nat.reduceMul, Int.reduceToNat, Int.reduceLE, Int.reduceLT, Int.reduceEq, Int.reduceAdd, Int.reduceSub, Int.reduceMul, Int.reduceNeg, Nat.reduceLeDiff, Nat.reduceLT, true_and, and_true, false_and, and_false, qcat_0, qcat_1, qcat_3, qcat_9, Nat.reduceEqDiff, if_true, if_false, ite_self, or_true, true_or, or_false, false_or, forall_const, not_true_eq_false, not_false_eq_true, false_implies, implies_true, qtK0, qtK1, qtK2, qtK3, qtK4, List.getD_cons_zero, List.getD_cons_succ, Int.toNat_natCast, ne_eq, qcK, hbF, bsetF, bclrF]
    exact go
  · subst l0
    have w0 : w64 (-d) = b := by
      rw [hb]
      exact w64_id ⟨by omega, by omega⟩
    simp only [YK, g114_0, g114_1, g114_4, g114_5, g114_6, g114_9, g114_10, g114_13, g114_14, g114_17, g114_18, g114_21, t114, cl111, tgK, lyK, rkK, wK, rfK, qRes_eq, qNon_eq, qup_ap, vup_ap, vcpy_ap, kc8_0, kc8_1, kc8_2, lc_lt, lc_gt, lc_eq, Option.toList_some, Option.toList_none, List.cons_append, List.nil_append, lay_len, lay_sz, Nat.reduceAdd, Nat.reduceSub, Nat.reduceMul, Int.reduceToNat, Int.reduceLE, Int.reduceLT, Int.reduceEq, Int.reduceAdd, Int.reduceSub, Int.reduceMul, Int.reduceNeg, Nat.reduceLeDiff, Nat.reduceLT, true_and, and_true, false_and, and_false, qcat_0, qcat_1, qcat_3, qcat_9, Nat.reduceEqDiff, if_true, if_false, ite_self, or_true, true_or, or_false, false_or, forall_const, not_true_eq_false, not_false_eq_true, false_implies, implies_true, qtK0, qtK1, qtK2, qtK3, qtK4, List.getD_cons_zero, List.getD_cons_succ, Int.toNat_natCast, ne_eq, qcK, hbF, bsetF, bclrF]
    apply x1
    simp only [YK, g114_0, g114_1, g114_4, g114_5, g114_6, g114_9, g114_10, g114_13, g114_14, g114_17, g114_18, g114_21, t114, cl111, tgK, lyK, rkK, wK, rfK, qRes_eq, qNon_eq, qup_ap, vup_ap, vcpy_ap, kc8_0, kc8_1, kc8_2, lc_lt, lc_gt, lc_eq, Option.toList_some, Option.toList_none, List.cons_append, List.nil_append, lay_len, lay_sz, Nat.reduceAdd, Nat.reduceSub, Nat.reduceMul, Int.reduceToNat, Int.reduceLE, Int.reduceLT, Int.reduceEq, Int.reduceAdd, Int.reduceSub, Int.reduceMul, Int.reduceNeg, Nat.reduceLeDiff, Nat.reduceLT, true_and, and_true, false_and, and_false, qcat_0, qcat_1, qcat_3, qcat_9, Nat.reduceEqDiff, if_true, if_false, ite_self, or_true, true_or, or_false, false_or, forall_const, not_true_eq_false, not_false_eq_true, false_implies, implies_true, qtK0, qtK1, qtK2, qtK3, qtK4, List.getD_cons_zero, List.getD_cons_succ, Int.toNat_natCast, ne_eq, qcK, hbF, bsetF, bclrF]
    apply y1
    simp only [YK, g114_0, g114_1, g114_4, g114_5, g114_6, g114_9, g114_10, g114_13, g114_14, g114_17, g114_18, g114_21, t114, cl111, tgK, lyK, rkK, wK, rfK, qRes_eq, qNon_eq, qup_ap, vup_ap, vcpy_ap, kc8_0, kc8_1, kc8_2, lc_lt, lc_gt, lc_eq, Option.toList_some, Option.toList_none, List.cons_append, List.nil_append, lay_len, lay_sz, Nat.reduceAdd, Nat.reduceSub, Nat.reduceMul, Int.reduceToNat, Int.reduceLE, Int.reduceLT, Int.reduceEq, Int.reduceAdd, Int.reduceSub, Int.reduceMul, Int.reduceNeg, Nat.reduceLeDiff, Nat.reduceLT, true_and, and_true, false_and, and_false, qcat_0, qcat_1, qcat_3, qcat_9, Nat.reduceEqDiff, if_true, if_false, ite_self, or_true, true_or, or_false, false_or, forall_const, not_true_eq_false, not_false_eq_true, false_implies, implies_true, qtK0, qtK1, qtK2, qtK3, qtK4, List.getD_cons_zero, List.getD_cons_succ, Int.toNat_natCast, ne_eq, qcK, hbF, bsetF, bclrF, w0]
    exact go
theorem r114N {tb : qTb} {F : XT} {R : Option qV → qM → Prop} {x y : Int} {s t : Bool} {c d k j : Nat} (hx : MX x s c k) (hy : MX y t d j) (hk1 : 99 ≤ k ∧ k ≤ 133) (hj1 : 99 ≤ j ∧ j ≤ 133) (ls : Int) (b : Int) (hl : (ls = 0 ∧ b = FP.Core.signed t d) ∨ (ls = 1 ∧ b = -FP.Core.signed t d)) (hk : R (some (0, bX (FP.Core.signed s c * ((2 ^ k : Nat) : Int) + b * ((2 ^ j : Nat) : Int)))) (LAY, F)) : qW tb 114 (119, 1262) 0 [(0, x), (0, y), (0, ls), (9, 0), (9, 0), (9, 0), (9, 0), (9, 0)] [] (LAY, F) R := by
  have ra := sg_r (s := s) hx.2.1
  have rd := sg_r (s := t) hy.2.1
  have za := sg_0 (s := s) hx.1
  have zd := sg_0 (s := t) hy.1
  obtain ⟨a, ha⟩ : ∃ a : Int, a = FP.Core.signed s c := ⟨_, rfl⟩
  obtain ⟨d0, hd0⟩ : ∃ d0 : Int, d0 = FP.Core.signed t d := ⟨_, rfl⟩
  obtain ⟨px, hpx⟩ : ∃ px : Int, px = (k : Int) - 149 := ⟨_, rfl⟩
  obtain ⟨py, hpy⟩ : ∃ py : Int, py = (j : Int) - 149 := ⟨_, rfl⟩
  rw [← ha] at ra za hk
  rw [← hd0] at rd zd hl
  have rb : -16777216 < b ∧ b < 16777216 := by omega
  have zb : ¬ b = 0 := by omega
  have f1 : (a = 0) = False := eq_false za
  have f2 : (b = 0) = False := eq_false zb
  have x1 : ∀ (R' : Option qV → qM → Prop), R' (some (1, a)) (LAY, F) → qW tb 111 (119, 1262) 0 [(0, x), (9, 0), (9, 0)] [] (LAY, F) R' := fun R' h => r111x hx (by rw [← ha]; exact h)
  have y1 : ∀ (R' : Option qV → qM → Prop), R' (some (1, d0)) (LAY, F) → qW tb 111 (119, 1262) 0 [(0, y), (9, 0), (9, 0)] [] (LAY, F) R' := fun R' h => r111x hy (by rw [← hd0]; exact h)
  have x2 : ∀ (R' : Option qV → qM → Prop), R' (some (0, px)) (LAY, F) → qW tb 112 (119, 1262) 0 [(0, x)] [] (LAY, F) R' := fun R' h => r112x hx (by rw [← hpx]; exact h)
  have y2 : ∀ (R' : Option qV → qM → Prop), R' (some (0, py)) (LAY, F) → qW tb 112 (119, 1262) 0 [(0, y)] [] (LAY, F) R' := fun R' h => r112x hy (by rw [← hpy]; exact h)
  have e0 : w32 0 = 0 := rfl
  have ex : px - px = 0 := Int.sub_self _
  have ey : py - py = 0 := Int.sub_self _
  have go : qW tb 114 (119, 1262) 23 [(0, x), (0, y), (0, ls), (1, a), (9, 0), (1, b), (9, 0), (9, 0)] [] (LAY, F) R := by
    by_cases hc : k < j
    · have fc : (px < py) = True := eq_true (by omega)
      obtain ⟨N, hN⟩ : ∃ N : Int, N = ((j - k : Nat) : Int) := ⟨_, rfl⟩
      have w1 : w32 (py - px) = N := by
        rw [hN, show py - px = ((j - k : Nat) : Int) by omega]
        exact w32_id ⟨by omega, by omega⟩
      obtain ⟨s2, b1, b2⟩ := shn b (j - k) rb (by omega) N hN
      have s1 := sh0 a ⟨by omega, by omega⟩
      obtain ⟨B, hB⟩ : ∃ B : Int, B = b * ((2 ^ (j - k) : Nat) : Int) := ⟨_, rfl⟩
      rw [← hB] at s2 b1 b2
      have w2 : w64 (a + B) = a + B := w64_id ⟨by omega, by omega⟩
      have hS : (a + B) * ((2 ^ k : Nat) : Int) = a * ((2 ^ k : Nat) : Int) + b * ((2 ^ j : Nat) : Int) := by
        rw [hB, Int.add_mul, Int.mul_assoc b, ← Int.natCast_mul, ← Nat.pow_add, show j - k + k = j by omega]
      rw [← hS] at hk
      simp only [YK, c114, t114, cl111, cl112, cl113, tgK, lyK, rkK, wK, rfK, qRes_eq, qNon_eq, qup_ap, vup_ap, vcpy_ap, kc8_0, kc8_1, kc8_2, lc_lt, lc_gt, lc_eq, Option.toList_some, Option.toList_none, List.cons_append, List.nil_append, lay_len, lay_sz, Nat.reduceAdd, Nat.reduceSub, Nat.reduceMul, Int.reduceToNat, Int.reduceLE, Int.reduceLT, Int.reduceEq, Int.reduceAdd, Int.reduceSub, Int.reduceMul, Int.reduceNeg, Nat.reduceLeDiff, Nat.reduceLT, true_and, and_true, false_and, and_false, qcat_0, qcat_1, qcat_3, qcat_9, Nat.reduceEqDiff, if_true, if_false, ite_self, or_true, true_or, or_false, false_or, forall_const, not_true_eq_false, not_false_eq_true, false_implies, implies_true, qtK0, qtK1, qtK2, qtK3, qtK4, List.getD_cons_zero, List.getD_cons_succ, Int.toNat_natCast, ne_eq, qcK, hbF, bsetF, bclrF, f1, f2, nz0, fc, w1, w2, s1, s2, e0, ex, ey]
      apply x2
      simp only [YK, c114, t114, cl111, cl112, cl113, tgK, lyK, rkK, wK, rfK, qRes_eq, qNon_eq, qup_ap, vup_ap, vcpy_ap, kc8_0, kc8_1, kc8_2, lc_lt, lc_gt, lc_eq, Option.toList_some, Option.toList_none, List.cons_append, List.nil_append, lay_len, lay_sz, Nat.reduceAdd, Nat.reduceSub, Nat.reduceMul, Int.reduceToNat, Int.reduceLE, Int.reduceLT, Int.reduceEq, Int.reduceAdd, Int.reduceSub, Int.reduceMul, Int.reduceNeg, Nat.reduceLeDiff, Nat.reduceLT, true_and, and_true, false_and, and_false, qcat_0, qcat_1, qcat_3, qcat_9, Nat.reduceEqDiff, if_true, if_false, ite_self, or_true, true_or, or_false, false_or, forall_const, not_true_eq_false, not_false_eq_true, false_implies, implies_true, qtK0, qtK1, qtK2, qtK3, qtK4, List.getD_cons_zero, List.getD_cons_succ, Int.toNat_natCast, ne_eq, qcK, hbF, bsetF, bclrF, f1, f2, nz0, fc, w1, w2, s1, s2, e0, ex, ey]
      apply y2
      simp only [YK, c114, t114, cl111, cl112, cl113, tgK, lyK, rkK, wK, rfK, qRes_eq, qNon_eq, qup_ap, vup_ap, vcpy_ap, kc8_0, kc8_1, kc8_2, lc_lt, lc_gt, lc_eq, Option.toList_some, Option.toList_none, List.cons_append, List.nil_append, lay_len, lay_sz, Nat.reduceAdd, Nat.reduceSub, Nat.reduceMul, Int.reduceToNat, Int.reduceLE, Int.reduceLT, Int.reduceEq, Int.reduceAdd, Int.reduceSub, Int.reduceMul, Int.reduceNeg, Nat.reduceLeDiff, Nat.reduceLT, true_and, and_true, false_and, and_false, qcat_0, qcat_1, qcat_3, qcat_9, Nat.reduceEqDiff, if_true, if_false, ite_self, or_true, true_or, or_false, false_or, forall_const, not_true_eq_false, not_false_eq_true, false_implies, implies_true, qtK0, qtK1, qtK2, qtK3, qtK4, List.getD_cons_zero, List.getD_cons_succ, Int.toNat_natCast, ne_eq, qcK, hbF, bsetF, bclrF, f1, f2, nz0, fc, w1, w2, s1, s2, e0, ex, ey]
      apply x2
      simp only [YK, c114, t114, cl111, cl112, cl113, tgK, lyK, rkK, wK, rfK, qRes_eq, qNon_eq, qup_ap, vup_ap, vcpy_ap, kc8_0, kc8_1, kc8_2, lc_lt, lc_gt, lc_eq, Option.toList_some, Option.toList_none, List.cons_append, List.nil_append, lay_len, lay_sz, Nat.reduceAdd, Nat.reduceSub, Nat.reduceMul, Int.reduceToNat, Int.reduceLE, Int.reduceLT, Int.reduceEq, Int.reduceAdd, Int.reduceSub, Int.reduceMul, Int.reduceNeg, Nat.reduceLeDiff, Nat.reduceLT, true_and, and_true, false_and, and_false, qcat_0, qcat_1, qcat_3, qcat_9, Nat.reduceEqDiff, if_true, if_false, ite_self, or_true, true_or, or_false, false_or, forall_const, not_true_eq_false, not_false_eq_true, false_implies, implies_true, qtK0, qtK1, qtK2, qtK3, qtK4, List.getD_cons_zero, List.getD_cons_succ, Int.toNat_natCast, ne_eq, qcK, hbF, bsetF, bclrF, f1, f2, nz0, fc, w1, w2, s1, s2, e0, ex, ey]
      apply x2
      simp only [YK, c114, t114, cl111, cl112, cl113, tgK, lyK, rkK, wK, rfK, qRes_eq, qNon_eq, qup_ap, vup_ap, vcpy_ap, kc8_0, kc8_1, kc8_2, lc_lt, lc_gt, lc_eq, Option.toList_some, Option.toList_none, List.cons_append, List.nil_append, lay_len, lay_sz, Nat.reduceAdd, Nat.reduceSub, Nat.reduceMul, Int.reduceToNat, Int.reduceLE, Int.reduceLT, Int.reduceEq, Int.reduceAdd, Int.reduceSub, Int.reduceMul, Int.reduceNeg, Nat.reduceLeDiff, Nat.reduceLT, true_and, and_true, false_and, and_false, qcat_0, qcat_1, qcat_3, qcat_9, Nat.reduceEqDiff, if_true, if_false, ite_self, or_true, true_or, or_false, false_or, forall_const, not_true_eq_false, not_false_eq_true, false_implies, implies_true, qtK0, qtK1, qtK2, qtK3, qtK4, List.getD_cons_zero, List.getD_cons_succ, Int.toNat_natCast, ne_eq, qcK, hbF, bsetF, bclrF, f1, f2, nz0, fc, w1, w2, s1, s2, e0, ex, ey]
      apply y2
      simp only [YK, c114, t114, cl111, cl112, cl113, tgK, lyK, rkK, wK, rfK, qRes_eq, qNon_eq, qup_ap, vup_ap, vcpy_ap, kc8_0, kc8_1, kc8_2, lc_lt, lc_gt, lc_eq, Option.toList_some, Option.toList_none, List.cons_append, List.nil_append, lay_len, lay_sz, Nat.reduceAdd, Nat.reduceSub, Nat.reduceMul, Int.reduceToNat, Int.reduceLE, Int.reduceLT, Int.reduceEq, Int.reduceAdd, Int.reduceSub, Int.reduceMul, Int.reduceNeg, Nat.reduceLeDiff, Nat.reduceLT, true_and, and_true, false_and, and_false, qcat_0, qcat_1, qcat_3, qcat_9, Nat.reduceEqDiff, if_true, if_false, ite_self, or_true, true_or, or_false, false_or, forall_const, not_true_eq_false, not_false_eq_true, false_implies, implies_true, qtK0, qtK1, qtK2, qtK3, qtK4, List.getD_cons_zero, List.getD_cons_succ, Int.toNat_natCast, ne_eq, qcK, hbF, bsetF, bclrF, f1, f2, nz0, fc, w1, w2, s1, s2, e0, ex, ey]
      apply r113 (a + B) px k (by omega) (by omega) (by omega) _ _
      · by_cases h0 : a + B = 0
        · exact .inl h0
        · right
          have hq : 2 ^ 23 ≤ 2 ^ k := Nat.pow_le_pow_right (by decide) (by omega)
          exact Nat.le_trans hq (Nat.le_mul_of_pos_left _ (by omega))
      · simp only [YK, c114, t114, cl111, cl112, cl113, tgK, lyK, rkK, wK, rfK, qRes_eq, qNon_eq, qup_ap, vup_ap, vcpy_ap, kc8_0, kc8_1, kc8_2, lc_lt, lc_gt, lc_eq, Option.toList_some, Option.toList_none, List.cons_append, List.nil_append, lay_len, lay_sz, Nat.reduceAdd, Nat.reduceSub, Nat.reduceMul, Int.reduceToNat, Int.reduceLE, Int.reduceLT, Int.reduceEq, Int.reduceAdd, Int.reduceSub, Int.reduceMul, Int.reduceNeg, Nat.reduceLeDiff, Nat.reduceLT, true_and, and_true, false_and, and_false, qcat_0, qcat_1, qcat_3, qcat_9, Nat.reduceEqDiff, if_true, if_false, ite_self, or_true, true_or, or_false, false_or, forall_const, not_true_eq_false, not_false_eq_true, false_implies, implies_true, qtK0, qtK1, qtK2, qtK3, qtK4, List.getD_cons_zero, List.getD_cons_succ, Int.toNat_natCast, ne_eq, qcK, hbF, bsetF, bclrF, f1, f2, nz0, fc, w1, w2, s1, s2, e0, ex, ey]
        exact hk
    · have fc : (px < py) = False := eq_false (by omega)
      obtain ⟨N, hN⟩ : ∃ N : Int, N = ((k - j : Nat) : Int) := ⟨_, rfl⟩
      have w1 : w32 (px - py) = N := by
        rw [hN, show px - py = ((k - j : Nat) : Int) by omega]
        exact w32_id ⟨by omega, by omega⟩
      obtain ⟨s2, b1, b2⟩ := shn a (k - j) ra (by omega) N hN
      have s1 := sh0 b ⟨by omega, by omega⟩
      obtain ⟨B, hB⟩ : ∃ B : Int, B = a * ((2 ^ (k - j) : Nat) : Int) := ⟨_, rfl⟩
      rw [← hB] at s2 b1 b2
      have w2 : w64 (B + b) = B + b := w64_id ⟨by omega, by omega⟩
      have hS : (B + b) * ((2 ^ j : Nat) : Int) = a * ((2 ^ k : Nat) : Int) + b * ((2 ^ j : Nat) : Int) := by
        rw [hB, Int.add_mul, Int.mul_assoc a, ← Int.natCast_mul, ← Nat.pow_add, show k - j + j = k by omega]
      rw [← hS] at hk
      simp only [YK, c114, t114, cl111, cl112, cl113, tgK, lyK, rkK, wK, rfK, qRes_eq, qNon_eq, qup_ap, vup_ap, vcpy_ap, kc8_0, kc8_1, kc8_2, lc_lt, lc_gt, lc_eq, Option.toList_some, Option.toList_none, List.cons_append, List.nil_append, lay_len, lay_sz, Nat.reduceAdd, Nat.reduceSub, Nat.reduceMul, Int.reduceToNat, Int.reduceLE, Int.reduceLT, Int.reduceEq, Int.reduceAdd, Int.reduceSub, Int.reduceMul, Int.reduceNeg, Nat.reduceLeDiff, Nat.reduceLT, true_and, and_true, false_and, and_false, qcat_0, qcat_1, qcat_3, qcat_9, Nat.reduceEqDiff, if_true, if_false, ite_self, or_true, true_or, or_false, false_or, forall_const, not_true_eq_false, not_false_eq_true, false_implies, implies_true, qtK0, qtK1, qtK2, qtK3, qtK4, List.getD_cons_zero, List.getD_cons_succ, Int.toNat_natCast, ne_eq, qcK, hbF, bsetF, bclrF, f1, f2, nz0, fc, w1, w2, s1, s2, e0, ex, ey]
      apply x2
      simp only [YK, c114, t114, cl111, cl112, cl113, tgK, lyK, rkK, wK, rfK, qRes_eq, qNon_eq, qup_ap, vup_ap, vcpy_ap, kc8_0, kc8_1, kc8_2, lc_lt, lc_gt, lc_eq, Option.toList_some, Option.toList_none, List.cons_append, List.nil_append, lay_len, lay_sz, Nat.reduceAdd, Nat.reduceSub, Nat.reduceMul, Int.reduceToNat, Int.reduceLE, Int.reduceLT, Int.reduceEq, Int.reduceAdd, Int.reduceSub, Int.reduceMul, Int.reduceNeg, Nat.reduceLeDiff, Nat.reduceLT, true_and, and_true, false_and, and_false, qcat_0, qcat_1, qcat_3, qcat_9, Nat.reduceEqDiff, if_true, if_false, ite_self, or_true, true_or, or_false, false_or, forall_const, not_true_eq_false, not_false_eq_true, false_implies, implies_true, qtK0, qtK1, qtK2, qtK3, qtK4, List.getD_cons_zero, List.getD_cons_succ, Int.toNat_natCast, ne_eq, qcK, hbF, bsetF, bclrF, f1, f2, nz0, fc, w1, w2, s1, s2, e0, ex, ey]
      apply y2
      simp only [YK, c114, t114, cl111, cl112, cl113, tgK, lyK, rkK, wK, rfK, qRes_eq, qNon_eq, qup_ap, vup_ap, vcpy_ap, kc8_0, kc8_1, kc8_2, lc_lt, lc_gt, lc_eq, Option.toList_some, Option.toList_none, List.cons_append, List.nil_append, lay_len, lay_sz, Nat.reduceAdd, Nat.reduceSub, Nat.reduceMul, Int.reduceToNat, Int.reduceLE, Int.reduceLT, Int.reduceEq, Int.reduceAdd, Int.reduceSub, Int.reduceMul, Int.reduceNeg, Nat.reduceLeDiff, Nat.reduceLT, true_and, and_true, false_and, and_false, qcat_0, qcat_1, qcat_3, qcat_9, Nat.reduceEqDiff, if_true, if_false, ite_self, or_true, true_or, or_false, false_or, forall_const, not_true_eq_false, not_false_eq_true, false_implies, implies_true, qtK0, qtK1, qtK2, qtK3, qtK4, List.getD_cons_zero, List.getD_cons_succ, Int.toNat_natCast, ne_eq, qcK, hbF, bsetF, bclrF, f1, f2, nz0, fc, w1, w2, s1, s2, e0, ex, ey]
      apply y2
      simp only [YK, c114, t114, cl111, cl112, cl113, tgK, lyK, rkK, wK, rfK, qRes_eq, qNon_eq, qup_ap, vup_ap, vcpy_ap, kc8_0, kc8_1, kc8_2, lc_lt, lc_gt, lc_eq, Option.toList_some, Option.toList_none, List.cons_append, List.nil_append, lay_len, lay_sz, Nat.reduceAdd, Nat.reduceSub, Nat.reduceMul, Int.reduceToNat, Int.reduceLE, Int.reduceLT, Int.reduceEq, Int.reduceAdd, Int.reduceSub, Int.reduceMul, Int.reduceNeg, Nat.reduceLeDiff, Nat.reduceLT, true_and, and_true, false_and, and_false, qcat_0, qcat_1, qcat_3, qcat_9, Nat.reduceEqDiff, if_true, if_false, ite_self, or_true, true_or, or_false, false_or, forall_const, not_true_eq_false, not_false_eq_true, false_implies, implies_true, qtK0, qtK1, qtK2, qtK3, qtK4, List.getD_cons_zero, List.getD_cons_succ, Int.toNat_natCast, ne_eq, qcK, hbF, bsetF, bclrF, f1, f2, nz0, fc, w1, w2, s1, s2, e0, ex, ey]
      apply x2
      simp only [YK, c114, t114, cl111, cl112, cl113, tgK, lyK, rkK, wK, rfK, qRes_eq, qNon_eq, qup_ap, vup_ap, vcpy_ap, kc8_0, kc8_1, kc8_2, lc_lt, lc_gt, lc_eq, Option.toList_some, Option.toList_none, List.cons_append, List.nil_append, lay_len, lay_sz, Nat.reduceAdd, Nat.reduceSub, Nat.reduceMul, Int.reduceToNat, Int.reduceLE, Int.reduceLT, Int.reduceEq, Int.reduceAdd, Int.reduceSub, Int.reduceMul, Int.reduceNeg, Nat.reduceLeDiff, Nat.reduceLT, true_and, and_true, false_and, and_false, qcat_0, qcat_1, qcat_3, qcat_9, Nat.reduceEqDiff, if_true, if_false, ite_self, or_true, true_or, or_false, false_or, forall_const, not_true_eq_false, not_false_eq_true, false_implies, implies_true, qtK0, qtK1, qtK2, qtK3, qtK4, List.getD_cons_zero, List.getD_cons_succ, Int.toNat_natCast, ne_eq, qcK, hbF, bsetF, bclrF, f1, f2, nz0, fc, w1, w2, s1, s2, e0, ex, ey]
      apply y2
      simp only [YK, c114, t114, cl111, cl112, cl113, tgK, lyK, rkK, wK, rfK, qRes_eq, qNon_eq, qup_ap, vup_ap, vcpy_ap, kc8_0, kc8_1, kc8_2, lc_lt, lc_gt, lc_eq, Option.toList_some, Option.toList_none, List.cons_append, List.nil_append, lay_len, lay_sz, Nat.reduceAdd, Nat.reduceSub, Nat.reduceMul, Int.reduceToNat, Int.reduceLE, Int.reduceLT, Int.reduceEq, Int.reduceAdd, Int.reduceSub, Int.reduceMul, Int.reduceNeg, Nat.reduceLeDiff, Nat.reduceLT, true_and, and_true, false_and, and_false, qcat_0, qcat_1, qcat_3, qcat_9, Nat.reduceEqDiff, if_true, if_false, ite_self, or_true, true_or, or_false, false_or, forall_const, not_true_eq_false, not_false_eq_true, false_implies, implies_true, qtK0, qtK1, qtK2, qtK3, qtK4, List.getD_cons_zero, List.getD_cons_succ, Int.toNat_natCast, ne_eq, qcK, hbF, bsetF, bclrF, f1, f2, nz0, fc, w1, w2, s1, s2, e0, ex, ey]
      apply r113 (B + b) py j (by omega) (by omega) (by omega) _ _
      · by_cases h0 : B + b = 0
        · exact .inl h0
        · right
          have hq : 2 ^ 23 ≤ 2 ^ j := Nat.pow_le_pow_right (by decide) (by omega)
          exact Nat.le_trans hq (Nat.le_mul_of_pos_left _ (by omega))
      · simp only [YK, c114, t114, cl111, cl112, cl113, tgK, lyK, rkK, wK, rfK, qRes_eq, qNon_eq, qup_ap, vup_ap, vcpy_ap, kc8_0, kc8_1, kc8_2, lc_lt, lc_gt, lc_eq, Option.toList_some, Option.toList_none, List.cons_append, List.nil_append, lay_len, lay_sz, Nat.reduceAdd, Nat.reduceSub, Nat.reduceMul, Int.reduceToNat, Int.reduceLE, Int.reduceLT, Int.reduceEq, Int.reduceAdd, Int.reduceSub, Int.reduceMul, Int.reduceNeg, Nat.reduceLeDiff, Nat.reduceLT, true_and, and_true, false_and, and_false, qcat_0, qcat_1, qcat_3, qcat_9, Nat.reduceEqDiff, if_true, if_false, ite_self, or_true, true_or, or_false, false_or, forall_const, not_true_eq_false, not_false_eq_true, false_implies, implies_true, qtK0, qtK1, qtK2, qtK3, qtK4, List.getD_cons_zero, List.getD_cons_succ, Int.toNat_natCast, ne_eq, qcK, hbF, bsetF, bclrF, f1, f2, nz0, fc, w1, w2, s1, s2, e0, ex, ey]
        exact hk
  exact r114P x1 y1 rd hl go
theorem r114 {tb : qTb} {F : XT} {R : Option qV → qM → Prop} {x y X Y : Int} (hx : MV x X) (hy : MV y Y) (wx : X = 0 ∨ WN X) (wy : Y = 0 ∨ WN Y) (ls : Int) (hl : ls = 0 ∨ ls = 1) (hk : R (some (0, bX (X + if ls = 0 then Y else -Y))) (LAY, F)) : qW tb 114 (119, 1262) 0 [(0, x), (0, y), (0, ls), (9, 0), (9, 0), (9, 0), (9, 0), (9, 0)] [] (LAY, F) R := by
  have hxs := MV_self hx
  rcases hx with ⟨hX, hx⟩ | ⟨s, c, k, c1, c2, k1, hX, hx⟩
  · subst hX
    subst hx
    rw [Int.zero_add] at hk
    rcases hy with ⟨hY, hy⟩ | ⟨t, d, j, d1, d2, j1, hY, hy⟩
    · subst hY
      subst hy
      have hz : bX (if ls = 0 then (0 : Int) else -0) = 0 := by
        rw [Int.neg_zero, ite_self]
        rfl
      rw [hz] at hk
      refine r114P (a := 0) (d := 0) (b := 0) (fun R1 h => r111z h) (fun R1 h => r111z h) (by omega) (by omega) ?_
      simp only [YK, c114, t114, cl111, cl112, cl113, tgK, lyK, rkK, wK, rfK, qRes_eq, qNon_eq, qup_ap, vup_ap, vcpy_ap, kc8_0, kc8_1, kc8_2, lc_lt, lc_gt, lc_eq, Option.toList_some, Option.toList_none, List.cons_append, List.nil_append, lay_len, lay_sz, Nat.reduceAdd, Nat.reduceSub, Nat.reduceMul, Int.reduceToNat, Int.reduceLE, Int.reduceLT, Int.reduceEq, Int.reduceAdd, Int.reduceSub, Int.reduceMul, Int.reduceNeg, Nat.reduceLeDiff, Nat.reduceLT, true_and, and_true, false_and, and_false, qcat_0, qcat_1, qcat_3, qcat_9, Nat.reduceEqDiff, if_true, if_false, ite_self, or_true, true_or, or_false, false_or, forall_const, not_true_eq_false, not_false_eq_true, false_implies, implies_true, qtK0, qtK1, qtK2, qtK3, qtK4, List.getD_cons_zero, List.getD_cons_succ, Int.toNat_natCast, ne_eq, qcK, hbF, bsetF, bclrF]
      apply r112z
      simp only [YK, c114, t114, cl111, cl112, cl113, tgK, lyK, rkK, wK, rfK, qRes_eq, qNon_eq, qup_ap, vup_ap, vcpy_ap, kc8_0, kc8_1, kc8_2, lc_lt, lc_gt, lc_eq, Option.toList_some, Option.toList_none, List.cons_append, List.nil_append, lay_len, lay_sz, Nat.reduceAdd, Nat.reduceSub, Nat.reduceMul, Int.reduceToNat, Int.reduceLE, Int.reduceLT, Int.reduceEq, Int.reduceAdd, Int.reduceSub, Int.reduceMul, Int.reduceNeg, Nat.reduceLeDiff, Nat.reduceLT, true_and, and_true, false_and, and_false, qcat_0, qcat_1, qcat_3, qcat_9, Nat.reduceEqDiff, if_true, if_false, ite_self, or_true, true_or, or_false, false_or, forall_const, not_true_eq_false, not_false_eq_true, false_implies, implies_true, qtK0, qtK1, qtK2, qtK3, qtK4, List.getD_cons_zero, List.getD_cons_succ, Int.toNat_natCast, ne_eq, qcK, hbF, bsetF, bclrF]
      apply r113z
      simp only [YK, c114, t114, cl111, cl112, cl113, tgK, lyK, rkK, wK, rfK, qRes_eq, qNon_eq, qup_ap, vup_ap, vcpy_ap, kc8_0, kc8_1, kc8_2, lc_lt, lc_gt, lc_eq, Option.toList_some, Option.toList_none, List.cons_append, List.nil_append, lay_len, lay_sz, Nat.reduceAdd, Nat.reduceSub, Nat.reduceMul, Int.reduceToNat, Int.reduceLE, Int.reduceLT, Int.reduceEq, Int.reduceAdd, Int.reduceSub, Int.reduceMul, Int.reduceNeg, Nat.reduceLeDiff, Nat.reduceLT, true_and, and_true, false_and, and_false, qcat_0, qcat_1, qcat_3, qcat_9, Nat.reduceEqDiff, if_true, if_false, ite_self, or_true, true_or, or_false, false_or, forall_const, not_true_eq_false, not_false_eq_true, false_implies, implies_true, qtK0, qtK1, qtK2, qtK3, qtK4, List.getD_cons_zero, List.getD_cons_succ, Int.toNat_natCast, ne_eq, qcK, hbF, bsetF, bclrF]
      exact hk
    · have hy2 : MX y t d j := ⟨d1, d2, j1, hy⟩
      have hw := MX_w d1 d2 hY (wy.resolve_left (by
        intro h
        have := sg_abs t (d * 2 ^ j)
        rw [← hY, h] at this
        have := Nat.mul_pos (show 0 < d by omega) (Nat.two_pow_pos j)
        omega))
      have rd := sg_r (s := t) d2
      have zd := sg_0 (s := t) d1
      have hY2 : Y = FP.Core.signed t d * ((2 ^ j : Nat) : Int) := by rw [sg_mul, hY]
      obtain ⟨e, he⟩ : ∃ e : Int, e = FP.Core.signed t d := ⟨_, rfl⟩
      rw [← he] at rd zd hY2
      have y1 : ∀ (R1 : Option qV → qM → Prop), R1 (some (1, e)) (LAY, F) → qW tb 111 (119, 1262) 0 [(0, y), (9, 0), (9, 0)] [] (LAY, F) R1 := fun R1 h => r111x hy2 (by rw [← he]; exact h)
      obtain ⟨b, hb⟩ : ∃ b : Int, b = if ls = 0 then e else -e := ⟨_, rfl⟩
      have hb1 : b * ((2 ^ j : Nat) : Int) = if ls = 0 then Y else -Y := by
        rw [hb, hY2]
        by_cases h : ls = 0
        · rw [if_pos h, if_pos h]
        · rw [if_neg h, if_neg h, Int.neg_mul]
      have hb2 : (ls = 0 ∧ b = e) ∨ (ls = 1 ∧ b = -e) := by
        rcases hl with h | h
        · rw [if_pos h] at hb
          exact .inl ⟨h, hb⟩
        · rw [if_neg (by omega)] at hb
          exact .inr ⟨h, hb⟩
      rw [← hb1] at hk
      refine r114P (a := 0) (fun R1 h => r111z h) y1 rd hb2 ?_
      simp only [YK, c114, t114, cl111, cl112, cl113, tgK, lyK, rkK, wK, rfK, qRes_eq, qNon_eq, qup_ap, vup_ap, vcpy_ap, kc8_0, kc8_1, kc8_2, lc_lt, lc_gt, lc_eq, Option.toList_some, Option.toList_none, List.cons_append, List.nil_append, lay_len, lay_sz, Nat.reduceAdd, Nat.reduceSub, Nat.reduceMul, Int.reduceToNat, Int.reduceLE, Int.reduceLT, Int.reduceEq, Int.reduceAdd, Int.reduceSub, Int.reduceMul, Int.reduceNeg, Nat.reduceLeDiff, Nat.reduceLT, true_and, and_true, false_and, and_false, qcat_0, qcat_1, qcat_3, qcat_9, Nat.reduceEqDiff, if_true, if_false, ite_self, or_true, true_or, or_false, false_or, forall_const, not_true_eq_false, not_false_eq_true, false_implies, implies_true, qtK0, qtK1, qtK2, qtK3, qtK4, List.getD_cons_zero, List.getD_cons_succ, Int.toNat_natCast, ne_eq, qcK, hbF, bsetF, bclrF]
      apply r112x hy2
      simp only [YK, c114, t114, cl111, cl112, cl113, tgK, lyK, rkK, wK, rfK, qRes_eq, qNon_eq, qup_ap, vup_ap, vcpy_ap, kc8_0, kc8_1, kc8_2, lc_lt, lc_gt, lc_eq, Option.toList_some, Option.toList_none, List.cons_append, List.nil_append, lay_len, lay_sz, Nat.reduceAdd, Nat.reduceSub, Nat.reduceMul, Int.reduceToNat, Int.reduceLE, Int.reduceLT, Int.reduceEq, Int.reduceAdd, Int.reduceSub, Int.reduceMul, Int.reduceNeg, Nat.reduceLeDiff, Nat.reduceLT, true_and, and_true, false_and, and_false, qcat_0, qcat_1, qcat_3, qcat_9, Nat.reduceEqDiff, if_true, if_false, ite_self, or_true, true_or, or_false, false_or, forall_const, not_true_eq_false, not_false_eq_true, false_implies, implies_true, qtK0, qtK1, qtK2, qtK3, qtK4, List.getD_cons_zero, List.getD_cons_succ, Int.toNat_natCast, ne_eq, qcK, hbF, bsetF, bclrF]
      apply r113 b _ j (by omega) (by omega) (by omega) _ _
      · right
        have hq : 2 ^ 23 ≤ 2 ^ j := Nat.pow_le_pow_right (by decide) (by omega)
        exact Nat.le_trans hq (Nat.le_mul_of_pos_left _ (by omega))
      · simp only [YK, c114, t114, cl111, cl112, cl113, tgK, lyK, rkK, wK, rfK, qRes_eq, qNon_eq, qup_ap, vup_ap, vcpy_ap, kc8_0, kc8_1, kc8_2, lc_lt, lc_gt, lc_eq, Option.toList_some, Option.toList_none, List.cons_append, List.nil_append, lay_len, lay_sz, Nat.reduceAdd, Nat.reduceSub, Nat.reduceMul, Int.reduceToNat, Int.reduceLE, Int.reduceLT, Int.reduceEq, Int.reduceAdd, Int.reduceSub, Int.reduceMul, Int.reduceNeg, Nat.reduceLeDiff, Nat.reduceLT, true_and, and_true, false_and, and_false, qcat_0, qcat_1, qcat_3, qcat_9, Nat.reduceEqDiff, if_true, if_false, ite_self, or_true, true_or, or_false, false_or, forall_const, not_true_eq_false, not_false_eq_true, false_implies, implies_true, qtK0, qtK1, qtK2, qtK3, qtK4, List.getD_cons_zero, List.getD_cons_succ, Int.toNat_natCast, ne_eq, qcK, hbF, bsetF, bclrF]
        exact hk
  · have hx2 : MX x s c k := ⟨c1, c2, k1, hx⟩
    have hp := Nat.mul_pos (show 0 < c by omega) (Nat.two_pow_pos k)
    have hw := MX_w c1 c2 hX (wx.resolve_left (by
      intro h
      have := sg_abs s (c * 2 ^ k)
      rw [← hX, h] at this
      omega))
    have zs := sg_0 (s := s) c1
    rcases hy with ⟨hY, hy⟩ | ⟨t, d, j, d1, d2, j1, hY, hy⟩
    · subst hY
      subst hy
      rw [Int.neg_zero, ite_self, Int.add_zero, hxs] at hk
      obtain ⟨a, ha⟩ : ∃ a : Int, a = FP.Core.signed s c := ⟨_, rfl⟩
      rw [← ha] at zs
      have f1 : (a = 0) = False := eq_false zs
      refine r114P (d := 0) (b := 0) (fun R1 h => r111x hx2 (by rw [← ha]; exact h)) (fun R1 h => r111z h) (by omega) (by omega) ?_
      simp only [YK, c114, t114, cl111, cl112, cl113, tgK, lyK, rkK, wK, rfK, qRes_eq, qNon_eq, qup_ap, vup_ap, vcpy_ap, kc8_0, kc8_1, kc8_2, lc_lt, lc_gt, lc_eq, Option.toList_some, Option.toList_none, List.cons_append, List.nil_append, lay_len, lay_sz, Nat.reduceAdd, Nat.reduceSub, Nat.reduceMul, Int.reduceToNat, Int.reduceLE, Int.reduceLT, Int.reduceEq, Int.reduceAdd, Int.reduceSub, Int.reduceMul, Int.reduceNeg, Nat.reduceLeDiff, Nat.reduceLT, true_and, and_true, false_and, and_false, qcat_0, qcat_1, qcat_3, qcat_9, Nat.reduceEqDiff, if_true, if_false, ite_self, or_true, true_or, or_false, false_or, forall_const, not_true_eq_false, not_false_eq_true, false_implies, implies_true, qtK0, qtK1, qtK2, qtK3, qtK4, List.getD_cons_zero, List.getD_cons_succ, Int.toNat_natCast, ne_eq, qcK, hbF, bsetF, bclrF, f1, nz0]
      exact hk
    · have hy2 : MX y t d j := ⟨d1, d2, j1, hy⟩
      have hw2 := MX_w d1 d2 hY (wy.resolve_left (by
        intro h
        have := sg_abs t (d * 2 ^ j)
        rw [← hY, h] at this
        have := Nat.mul_pos (show 0 < d by omega) (Nat.two_pow_pos j)
        omega))
      have hX2 : X = FP.Core.signed s c * ((2 ^ k : Nat) : Int) := by rw [sg_mul, hX]
      have hY2 : Y = FP.Core.signed t d * ((2 ^ j : Nat) : Int) := by rw [sg_mul, hY]
      rcases hl with h | h
      · rw [if_pos h, hX2, hY2] at hk
        exact r114N hx2 hy2 hw hw2 ls _ (.inl ⟨h, rfl⟩) hk
      · rw [if_neg (by omega), hX2, hY2, ← Int.neg_mul] at hk
        exact r114N hx2 hy2 hw hw2 ls _ (.inr ⟨h, rfl⟩) hk
