/-! floats, 4: the whole and the power of bits -/
theorem ior_v {a : Int} (ha : 0 ≤ a ∧ a < 8388608) : (i1 a ||| i1 8388608).toInt = 8388608 + a := by
  have e1 : (i1 a).toBitVec.toNat = a.toNat := by have := i1_nat (x := a) ⟨by omega, by omega⟩; omega
  have e2 : (i1 8388608).toBitVec.toNat = 2 ^ 23 * 1 := by decide +kernel
  have e : (i1 a ||| i1 8388608).toBitVec.toNat = 2 ^ 23 * 1 + a.toNat := by
    rw [Int32.toBitVec_or, BitVec.toNat_or, e1, e2, Nat.or_comm, Nat.two_pow_add_eq_or_of_lt (by omega)]
  have h1 := BitVec.toInt_eq_toNat_cond (i1 a ||| i1 8388608).toBitVec
  rw [e, if_pos (by omega)] at h1
  have h2 : (i1 a ||| i1 8388608).toInt = ((2 ^ 23 * 1 + a.toNat : Nat) : Int) := h1
  rw [h2]
  omega
theorem r112 {tb : qTb} {F : XT} {R : Option qV → qM → Prop} (b : Int) (hb : -2147483648 ≤ b ∧ b < 2147483648) (hk : R (some (0, b / 8388608 % 256 - 150)) (LAY, F)) : qW tb 112 (119, 1262) 0 [(0, b)] [] (LAY, F) R := by
  have e1 := ishr23 hb
  have e2 : (i1 (b / 8388608) &&& i1 255).toInt = b / 8388608 % 256 := iand_v (k := 8) ⟨by omega, by omega⟩ 255 (by decide +kernel) (by decide)
  have w1 : w32 (b / 8388608 % 256 - 150) = b / 8388608 % 256 - 150 := w32_id ⟨by omega, by omega⟩
  simp only [YK, c112, t112, tgK, lyK, rkK, wK, rfK, qRes_eq, qNon_eq, qup_ap, vup_ap, vcpy_ap, kc8_0, kc8_1, kc8_2, lc_lt, lc_gt, lc_eq, Option.toList_some, Option.toList_none, List.cons_append, List.nil_append, lay_len, lay_sz, Nat.reduceAdd, Nat.reduceSub, Nat.reduceMul, Int.reduceToNat, Int.reduceLE, Int.reduceLT, Int.reduceEq, Int.reduceAdd, Int.reduceSub, Int.reduceMul, Int.reduceNeg, Nat.reduceLeDiff, Nat.reduceLT, true_and, and_true, false_and, and_false, qcat_0, qcat_1, qcat_3, qcat_9, Nat.reduceEqDiff, if_true, if_false, ite_self, or_true, true_or, or_false, false_or, forall_const, not_true_eq_false, not_false_eq_true, false_implies, implies_true, qtK0, qtK1, qtK2, qtK3, qtK4, List.getD_cons_zero, List.getD_cons_succ, Int.toNat_natCast, ne_eq, qcK, hbF, bsetF, bclrF, e1, e2, w1]
  exact hk
theorem r111 {tb : qTb} {F : XT} {R : Option qV → qM → Prop} (b : Int) (hb : -2147483648 ≤ b ∧ b < 2147483648) (hk : R (some (1, if b / 8388608 % 256 = 0 then (if b < 0 then -(b % 8388608) else b % 8388608) else (if b < 0 then -(8388608 + b % 8388608) else 8388608 + b % 8388608))) (LAY, F)) : qW tb 111 (119, 1262) 0 [(0, b), (9, 0), (9, 0)] [] (LAY, F) R := by
  have e1 := ishr23 hb
  have e2 : (i1 (b / 8388608) &&& i1 255).toInt = b / 8388608 % 256 := iand_v (k := 8) ⟨by omega, by omega⟩ 255 (by decide +kernel) (by decide)
  have e3 : (i1 b &&& i1 8388607).toInt = b % 8388608 := iand_v (k := 23) hb 8388607 (by decide +kernel) (by decide)
  have e4 : (i1 (b % 8388608) ||| i1 8388608).toInt = 8388608 + b % 8388608 := ior_v ⟨by omega, by omega⟩
  have e5 : (i1 (b % 8388608) ||| i1 0).toInt = b % 8388608 := by
    have z : i1 (b % 8388608) ||| i1 0 = i1 (b % 8388608) := Int32.or_zero
    rw [z]
    exact w32_id ⟨by omega, by omega⟩
  have w1 : w64 (-(b % 8388608)) = -(b % 8388608) := w64_id ⟨by omega, by omega⟩
  have w2 : w64 (-(8388608 + b % 8388608)) = -(8388608 + b % 8388608) := w64_id ⟨by omega, by omega⟩
  by_cases c1 : b / 8388608 % 256 = 0
  · rw [if_pos c1] at hk
    by_cases c2 : b < 0
    · rw [if_pos c2] at hk
      have f2 : (b < 0) = True := eq_true c2
      simp only [YK, c111, t111, tgK, lyK, rkK, wK, rfK, qRes_eq, qNon_eq, qup_ap, vup_ap, vcpy_ap, kc8_0, kc8_1, kc8_2, lc_lt, lc_gt, lc_eq, Option.toList_some, Option.toList_none, List.cons_append, List.nil_append, lay_len, lay_sz, Nat.reduceAdd, Nat.reduceSub, Nat.reduceMul, Int.reduceToNat, Int.reduceLE, Int.reduceLT, Int.reduceEq, Int.reduceAdd, Int.reduceSub, Int.reduceMul, Int.reduceNeg, Nat.reduceLeDiff, Nat.reduceLT, true_and, and_true, false_and, and_false, qcat_0, qcat_1, qcat_3, qcat_9, Nat.reduceEqDiff, if_true, if_false, ite_self, or_true, true_or, or_false, false_or, forall_const, not_true_eq_false, not_false_eq_true, false_implies, implies_true, qtK0, qtK1, qtK2, qtK3, qtK4, List.getD_cons_zero, List.getD_cons_succ, Int.toNat_natCast, ne_eq, qcK, hbF, bsetF, bclrF, e1, e2, e3, e4, e5, w1, w2, c1, f2]
      exact hk
    · rw [if_neg c2] at hk
      have f2 : (b < 0) = False := eq_false c2
      simp only [YK, c111, t111, tgK, lyK, rkK, wK, rfK, qRes_eq, qNon_eq, qup_ap, vup_ap, vcpy_ap, kc8_0, kc8_1, kc8_2, lc_lt, lc_gt, lc_eq, Option.toList_some, Option.toList_none, List.cons_append, List.nil_append, lay_len, lay_sz, Nat.reduceAdd, Nat.reduceSub, Nat.reduceMul, Int.reduceToNat, Int.reduceLE, Int.reduceLT, Int.reduceEq, Int.reduceAdd, Int.reduceSub, Int.reduceMul, Int.reduceNeg, Nat.reduceLeDiff, Nat.reduceLT, true_and, and_true, false_and, and_false, qcat_0, qcat_1, qcat_3, qcat_9, Nat.reduceEqDiff, if_true, if_false, ite_self, or_true, true_or, or_false, false_or, forall_const, not_true_eq_false, not_false_eq_true, false_implies, implies_true, qtK0, qtK1, qtK2, qtK3, qtK4, List.getD_cons_zero, List.getD_cons_succ, Int.toNat_natCast, ne_eq, qcK, hbF, bsetF, bclrF, e1, e2, e3, e4, e5, w1, w2, c1, f2]
      exact hk
  · rw [if_neg c1] at hk
    have f1 : (b / 8388608 % 256 = 0) = False := eq_false c1
    by_cases c2 : b < 0
    · rw [if_pos c2] at hk
      have f2 : (b < 0) = True := eq_true c2
      simp only [YK, c111, t111, tgK, lyK, rkK, wK, rfK, qRes_eq, qNon_eq, qup_ap, vup_ap, vcpy_ap, kc8_0, kc8_1, kc8_2, lc_lt, lc_gt, lc_eq, Option.toList_some, Option.toList_none, List.cons_append, List.nil_append, lay_len, lay_sz, Nat.reduceAdd, Nat.reduceSub, Nat.reduceMul, Int.reduceToNat, Int.reduceLE, Int.reduceLT, Int.reduceEq, Int.reduceAdd, Int.reduceSub, Int.reduceMul, Int.reduceNeg, Nat.reduceLeDiff, Nat.reduceLT, true_and, and_true, false_and, and_false, qcat_0, qcat_1, qcat_3, qcat_9, Nat.reduceEqDiff, if_true, if_false, ite_self, or_true, true_or, or_false, false_or, forall_const, not_true_eq_false, not_false_eq_true, false_implies, implies_true, qtK0, qtK1, qtK2, qtK3, qtK4, List.getD_cons_zero, List.getD_cons_succ, Int.toNat_natCast, ne_eq, qcK, hbF, bsetF, bclrF, e1, e2, e3, e4, e5, w1, w2, f1, f2]
      exact hk
    · rw [if_neg c2] at hk
      have f2 : (b < 0) = False := eq_false c2
      simp only [YK, c111, t111, tgK, lyK, rkK, wK, rfK, qRes_eq, qNon_eq, qup_ap, vup_ap, vcpy_ap, kc8_0, kc8_1, kc8_2, lc_lt, lc_gt, lc_eq, Option.toList_some, Option.toList_none, List.cons_append, List.nil_append, lay_len, lay_sz, Nat.reduceAdd, Nat.reduceSub, Nat.reduceMul, Int.reduceToNat, Int.reduceLE, Int.reduceLT, Int.reduceEq, Int.reduceAdd, Int.reduceSub, Int.reduceMul, Int.reduceNeg, Nat.reduceLeDiff, Nat.reduceLT, true_and, and_true, false_and, and_false, qcat_0, qcat_1, qcat_3, qcat_9, Nat.reduceEqDiff, if_true, if_false, ite_self, or_true, true_or, or_false, false_or, forall_const, not_true_eq_false, not_false_eq_true, false_implies, implies_true, qtK0, qtK1, qtK2, qtK3, qtK4, List.getD_cons_zero, List.getD_cons_succ, Int.toNat_natCast, ne_eq, qcK, hbF, bsetF, bclrF, e1, e2, e3, e4, e5, w1, w2, f1, f2]
      exact hk
