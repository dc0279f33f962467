/-! the reference, method by method -/
theorem r126 {tb : qTb} {C X F : XT} {L : LT} {R : Option qV → qM → Prop} (hR : RR C X L F) (h : Nat) (hh : h < 4) (hk : R (some (0, w32 ((L 0 h).length + (L 1 h).length))) (LAY, F)) : qW tb 126 (119, 1262) 0 [(3, 69), (0, (h : Int))] [] (LAY, F) R := by
  have hr := Rf_k hR.rf
  have hx := hR.k
  have q := hR.2.2.2 h hh
  have b1 : (0 ≤ (h : Int) ∧ (h : Int) < 4) = True := eq_true (by omega)
  have e1 := q.2.1
  have e2 := q.2.2.2.2.1
  simp only [YK, c126, t126, tgK, lyK, rkK, wK, rfK, hr, qRes_eq, qNon_eq, qup_ap, vup_ap, vcpy_ap, kc8_0, kc8_1, kc8_2, lc_lt, lc_gt, lc_eq, Option.toList_some, Option.toList_none, List.cons_append, List.nil_append, lay_len, lay_sz, Nat.reduceAdd, Nat.reduceSub, Nat.reduceMul, Int.reduceToNat, Int.reduceLE, Int.reduceLT, Int.reduceEq, Int.reduceAdd, Int.reduceSub, Int.reduceMul, Int.reduceNeg, Nat.reduceLeDiff, Nat.reduceLT, true_and, and_true, false_and, and_false, qcat_0, qcat_1, qcat_3, qcat_9, Nat.reduceEqDiff, if_true, if_false, ite_self, or_true, true_or, or_false, false_or, forall_const, not_true_eq_false, not_false_eq_true, false_implies, implies_true, qtK0, qtK1, qtK2, qtK3, qtK4, List.getD_cons_zero, List.getD_cons_succ, hx, Int.toNat_natCast, ne_eq, b1, e1, e2]
  exact hk
theorem r127_loop {tb : qTb} {C X F : XT} {L : LT} {R : Option qV → qM → Prop} (hR : RR C X L F) (h : Nat) (hh : h < 4) (a : Int)  (hk : R (some (0, b01 (a ∈ L 0 h))) (LAY, F)) : ∀ (n k : Nat), k + n = (L 0 h).length → qW tb 127 (119, 1262) 5 [(3, 69), (0, (h : Int)), (0, a), (0, b01 (a ∈ (L 0 h).take k)), (0, (k : Int))] [] (LAY, F) R := by
  have hr := Rf_k hR.rf
  have hx := hR.k
  have q := hR.2.2.2 h hh
  have b1 : (0 ≤ (h : Int) ∧ (h : Int) < 4) = True := eq_true (by omega)
  have e1 := q.2.1
  have e2 := q.2.2.2.2.1
  have hl := q.2.2.2.2.2
  intro n
  induction n with
  | zero =>
    intro k hkn
    have b2 : ¬ ((k : Int) < ((L 0 h).length : Int)) := by omega
    rw [h127_5]
    simp only [YK, c127, t127, tgK, lyK, rkK, wK, rfK, hr, qRes_eq, qNon_eq, qup_ap, vup_ap, vcpy_ap, kc8_0, kc8_1, kc8_2, lc_lt, lc_gt, lc_eq, Option.toList_some, Option.toList_none, List.cons_append, List.nil_append, lay_len, lay_sz, Nat.reduceAdd, Nat.reduceSub, Nat.reduceMul, Int.reduceToNat, Int.reduceLE, Int.reduceLT, Int.reduceEq, Int.reduceAdd, Int.reduceSub, Int.reduceMul, Int.reduceNeg, Nat.reduceLeDiff, Nat.reduceLT, true_and, and_true, false_and, and_false, qcat_0, qcat_1, qcat_3, qcat_9, Nat.reduceEqDiff, if_true, if_false, ite_self, or_true, true_or, or_false, false_or, forall_const, not_true_eq_false, not_false_eq_true, false_implies, implies_true, qtK0, qtK1, qtK2, qtK3, qtK4, List.getD_cons_zero, List.getD_cons_succ, hx, Int.toNat_natCast, ne_eq, b1, e1, e2, b2]
    rw [List.take_of_length_le (by omega)]
    exact ⟨b01_r, hk⟩
  | succ n ih =>
    intro k hkn
    have b2 : ((k : Int) < ((L 0 h).length : Int)) = True := eq_true (by omega)
    have w1 : w32 (16 * (h : Int)) = ((16 * h : Nat) : Int) := by rw [w32_id ⟨by omega, by omega⟩]; omega
    have w2 : w32 (((16 * h : Nat) : Int) + (k : Int)) = ((16 * h + k : Nat) : Int) := by rw [w32_id ⟨by omega, by omega⟩]; omega
    have w3 : w32 ((k : Int) + 1) = ((k + 1 : Nat) : Int) := by rw [w32_id ⟨by omega, by omega⟩]; omega
    have b3 : (0 ≤ ((16 * h + k : Nat) : Int) ∧ ((16 * h + k : Nat) : Int) < 64) = True := eq_true (by omega)
    have e3 : F 103 (16 * h + k) = (L 0 h).getD k 0 := q.1 k (by omega)
    have hi := ih (k + 1) (by omega)
    have hm := mem_take1 (a := a) (l := L 0 h) (k := k) (by omega)
    rw [h127_5]
    by_cases c1 : a ∈ (L 0 h).take k
    · have d1 := b01_t c1
      rw [b01_t (hm.mpr (Or.inl c1))] at hi
      simp only [YK, c127, t127, tgK, lyK, rkK, wK, rfK, hr, qRes_eq, qNon_eq, qup_ap, vup_ap, vcpy_ap, kc8_0, kc8_1, kc8_2, lc_lt, lc_gt, lc_eq, Option.toList_some, Option.toList_none, List.cons_append, List.nil_append, lay_len, lay_sz, Nat.reduceAdd, Nat.reduceSub, Nat.reduceMul, Int.reduceToNat, Int.reduceLE, Int.reduceLT, Int.reduceEq, Int.reduceAdd, Int.reduceSub, Int.reduceMul, Int.reduceNeg, Nat.reduceLeDiff, Nat.reduceLT, true_and, and_true, false_and, and_false, qcat_0, qcat_1, qcat_3, qcat_9, Nat.reduceEqDiff, if_true, if_false, ite_self, or_true, true_or, or_false, false_or, forall_const, not_true_eq_false, not_false_eq_true, false_implies, implies_true, qtK0, qtK1, qtK2, qtK3, qtK4, List.getD_cons_zero, List.getD_cons_succ, hx, Int.toNat_natCast, ne_eq, b1, e1, e2, b2, w1, w2, w3, b3, e3, d1]
      exact hi
    · have d1 := b01_f c1
      by_cases c2 : (L 0 h).getD k 0 = a
      · rw [b01_t (hm.mpr (Or.inr c2))] at hi
        simp only [YK, c127, t127, tgK, lyK, rkK, wK, rfK, hr, qRes_eq, qNon_eq, qup_ap, vup_ap, vcpy_ap, kc8_0, kc8_1, kc8_2, lc_lt, lc_gt, lc_eq, Option.toList_some, Option.toList_none, List.cons_append, List.nil_append, lay_len, lay_sz, Nat.reduceAdd, Nat.reduceSub, Nat.reduceMul, Int.reduceToNat, Int.reduceLE, Int.reduceLT, Int.reduceEq, Int.reduceAdd, Int.reduceSub, Int.reduceMul, Int.reduceNeg, Nat.reduceLeDiff, Nat.reduceLT, true_and, and_true, false_and, and_false, qcat_0, qcat_1, qcat_3, qcat_9, Nat.reduceEqDiff, if_true, if_false, ite_self, or_true, true_or, or_false, false_or, forall_const, not_true_eq_false, not_false_eq_true, false_implies, implies_true, qtK0, qtK1, qtK2, qtK3, qtK4, List.getD_cons_zero, List.getD_cons_succ, hx, Int.toNat_natCast, ne_eq, b1, e1, e2, b2, w1, w2, w3, b3, e3, d1, c2]
        exact hi
      · rw [b01_f (fun h => (hm.mp h).elim c1 c2)] at hi
        simp only [YK, c127, t127, tgK, lyK, rkK, wK, rfK, hr, qRes_eq, qNon_eq, qup_ap, vup_ap, vcpy_ap, kc8_0, kc8_1, kc8_2, lc_lt, lc_gt, lc_eq, Option.toList_some, Option.toList_none, List.cons_append, List.nil_append, lay_len, lay_sz, Nat.reduceAdd, Nat.reduceSub, Nat.reduceMul, Int.reduceToNat, Int.reduceLE, Int.reduceLT, Int.reduceEq, Int.reduceAdd, Int.reduceSub, Int.reduceMul, Int.reduceNeg, Nat.reduceLeDiff, Nat.reduceLT, true_and, and_true, false_and, and_false, qcat_0, qcat_1, qcat_3, qcat_9, Nat.reduceEqDiff, if_true, if_false, ite_self, or_true, true_or, or_false, false_or, forall_const, not_true_eq_false, not_false_eq_true, false_implies, implies_true, qtK0, qtK1, qtK2, qtK3, qtK4, List.getD_cons_zero, List.getD_cons_succ, hx, Int.toNat_natCast, ne_eq, b1, e1, e2, b2, w1, w2, w3, b3, e3, d1, c2]
        exact hi
theorem r127 {tb : qTb} {C X F : XT} {L : LT} {R : Option qV → qM → Prop} (hR : RR C X L F) (h : Nat) (hh : h < 4) (a : Int)  (hk : R (some (0, b01 (a ∈ L 0 h))) (LAY, F)) : qW tb 127 (119, 1262) 0 [(3, 69), (0, (h : Int)), (0, a), (9, 0), (9, 0)] [] (LAY, F) R := by
  have hr := Rf_k hR.rf
  have hx := hR.k
  simp only [YK, c127, t127, tgK, lyK, rkK, wK, rfK, hr, qRes_eq, qNon_eq, qup_ap, vup_ap, vcpy_ap, kc8_0, kc8_1, kc8_2, lc_lt, lc_gt, lc_eq, Option.toList_some, Option.toList_none, List.cons_append, List.nil_append, lay_len, lay_sz, Nat.reduceAdd, Nat.reduceSub, Nat.reduceMul, Int.reduceToNat, Int.reduceLE, Int.reduceLT, Int.reduceEq, Int.reduceAdd, Int.reduceSub, Int.reduceMul, Int.reduceNeg, Nat.reduceLeDiff, Nat.reduceLT, true_and, and_true, false_and, and_false, qcat_0, qcat_1, qcat_3, qcat_9, Nat.reduceEqDiff, if_true, if_false, ite_self, or_true, true_or, or_false, false_or, forall_const, not_true_eq_false, not_false_eq_true, false_implies, implies_true, qtK0, qtK1, qtK2, qtK3, qtK4, List.getD_cons_zero, List.getD_cons_succ, hx, Int.toNat_natCast, ne_eq]
  exact r127_loop hR h hh a hk (L 0 h).length 0 (by omega)
theorem r128_loop {tb : qTb} {C X F : XT} {L : LT} {R : Option qV → qM → Prop} (hR : RR C X L F) (h : Nat) (hh : h < 4) (a : Int)  (hk : R (some (0, b01 (a ∈ L 1 h))) (LAY, F)) : ∀ (n k : Nat), k + n = (L 1 h).length → qW tb 128 (119, 1262) 5 [(3, 69), (0, (h : Int)), (0, a), (0, b01 (a ∈ (L 1 h).take k)), (0, (k : Int))] [] (LAY, F) R := by
  have hr := Rf_k hR.rf
  have hx := hR.k
  have q := hR.2.2.2 h hh
  have b1 : (0 ≤ (h : Int) ∧ (h : Int) < 4) = True := eq_true (by omega)
  have e1 := q.2.1
  have e2 := q.2.2.2.2.1
  have hl := q.2.2.2.2.2
  intro n
  induction n with
  | zero =>
    intro k hkn
    have b2 : ¬ ((k : Int) < ((L 1 h).length : Int)) := by omega
    rw [h128_5]
    simp only [YK, c128, t128, tgK, lyK, rkK, wK, rfK, hr, qRes_eq, qNon_eq, qup_ap, vup_ap, vcpy_ap, kc8_0, kc8_1, kc8_2, lc_lt, lc_gt, lc_eq, Option.toList_some, Option.toList_none, List.cons_append, List.nil_append, lay_len, lay_sz, Nat.reduceAdd, Nat.reduceSub, Nat.reduceMul, Int.reduceToNat, Int.reduceLE, Int.reduceLT, Int.reduceEq, Int.reduceAdd, Int.reduceSub, Int.reduceMul, Int.reduceNeg, Nat.reduceLeDiff, Nat.reduceLT, true_and, and_true, false_and, and_false, qcat_0, qcat_1, qcat_3, qcat_9, Nat.reduceEqDiff, if_true, if_false, ite_self, or_true, true_or, or_false, false_or, forall_const, not_true_eq_false, not_false_eq_true, false_implies, implies_true, qtK0, qtK1, qtK2, qtK3, qtK4, List.getD_cons_zero, List.getD_cons_succ, hx, Int.toNat_natCast, ne_eq, b1, e1, e2, b2]
    rw [List.take_of_length_le (by omega)]
    exact ⟨b01_r, hk⟩
  | succ n ih =>
    intro k hkn
    have b2 : ((k : Int) < ((L 1 h).length : Int)) = True := eq_true (by omega)
    have w1 : w32 (3 * (h : Int)) = ((3 * h : Nat) : Int) := by rw [w32_id ⟨by omega, by omega⟩]; omega
    have w2 : w32 (((3 * h : Nat) : Int) + (k : Int)) = ((3 * h + k : Nat) : Int) := by rw [w32_id ⟨by omega, by omega⟩]; omega
    have w3 : w32 ((k : Int) + 1) = ((k + 1 : Nat) : Int) := by rw [w32_id ⟨by omega, by omega⟩]; omega
    have b3 : (0 ≤ ((3 * h + k : Nat) : Int) ∧ ((3 * h + k : Nat) : Int) < 12) = True := eq_true (by omega)
    have e3 : F 105 (3 * h + k) = (L 1 h).getD k 0 := q.2.2.1 k (by omega)
    have hi := ih (k + 1) (by omega)
    have hm := mem_take1 (a := a) (l := L 1 h) (k := k) (by omega)
    rw [h128_5]
    by_cases c1 : a ∈ (L 1 h).take k
    · have d1 := b01_t c1
      rw [b01_t (hm.mpr (Or.inl c1))] at hi
      simp only [YK, c128, t128, tgK, lyK, rkK, wK, rfK, hr, qRes_eq, qNon_eq, qup_ap, vup_ap, vcpy_ap, kc8_0, kc8_1, kc8_2, lc_lt, lc_gt, lc_eq, Option.toList_some, Option.toList_none, List.cons_append, List.nil_append, lay_len, lay_sz, Nat.reduceAdd, Nat.reduceSub, Nat.reduceMul, Int.reduceToNat, Int.reduceLE, Int.reduceLT, Int.reduceEq, Int.reduceAdd, Int.reduceSub, Int.reduceMul, Int.reduceNeg, Nat.reduceLeDiff, Nat.reduceLT, true_and, and_true, false_and, and_false, qcat_0, qcat_1, qcat_3, qcat_9, Nat.reduceEqDiff, if_true, if_false, ite_self, or_true, true_or, or_false, false_or, forall_const, not_true_eq_false, not_false_eq_true, false_implies, implies_true, qtK0, qtK1, qtK2, qtK3, qtK4, List.getD_cons_zero, List.getD_cons_succ, hx, Int.toNat_natCast, ne_eq, b1, e1, e2, b2, w1, w2, w3, b3, e3, d1]
      exact hi
    · have d1 := b01_f c1
      by_cases c2 : (L 1 h).getD k 0 = a
      · rw [b01_t (hm.mpr (Or.inr c2))] at hi
        simp only [YK, c128, t128, tgK, lyK, rkK, wK, rfK, hr, qRes_eq, qNon_eq, qup_ap, vup_ap, vcpy_ap, kc8_0, kc8_1, kc8_2, lc_lt, lc_gt, lc_eq, Option.toList_some, Option.toList_none, List.cons_append, List.nil_append, lay_len, lay_sz, Nat.reduceAdd, Nat.reduceSub, Nat.reduceMul, Int.reduceToNat, Int.reduceLE, Int.reduceLT, Int.reduceEq, Int.reduceAdd, Int.reduceSub, Int.reduceMul, Int.reduceNeg, Nat.reduceLeDiff, Nat.reduceLT, true_and, and_true, false_and, and_false, qcat_0, qcat_1, qcat_3, qcat_9, Nat.reduceEqDiff, if_true, if_false, ite_self, or_true, true_or, or_false, false_or, forall_const, not_true_eq_false, not_false_eq_true, false_implies, implies_true, qtK0, qtK1, qtK2, qtK3, qtK4, List.getD_cons_zero, List.getD_cons_succ, hx, Int.toNat_natCast, ne_eq, b1, e1, e2, b2, w1, w2, w3, b3, e3, d1, c2]
        exact hi
      · rw [b01_f (fun h => (hm.mp h).elim c1 c2)] at hi
        simp only [YK, c128, t128, tgK, lyK, rkK, wK, rfK, hr, qRes_eq, qNon_eq, qup_ap, vup_ap, vcpy_ap, kc8_0, kc8_1, kc8_2, lc_lt, lc_gt, lc_eq, Option.toList_some, Option.toList_none, List.cons_append, List.nil_append, lay_len, lay_sz, Nat.reduceAdd, Nat.reduceSub, Nat.reduceMul, Int.reduceToNat, Int.reduceLE, Int.reduceLT, Int.reduceEq, Int.reduceAdd, Int.reduceSub, Int.reduceMul, Int.reduceNeg, Nat.reduceLeDiff, Nat.reduceLT, true_and, and_true, false_and, and_false, qcat_0, qcat_1, qcat_3, qcat_9, Nat.reduceEqDiff, if_true, if_false, ite_self, or_true, true_or, or_false, false_or, forall_const, not_true_eq_false, not_false_eq_true, false_implies, implies_true, qtK0, qtK1, qtK2, qtK3, qtK4, List.getD_cons_zero, List.getD_cons_succ, hx, Int.toNat_natCast, ne_eq, b1, e1, e2, b2, w1, w2, w3, b3, e3, d1, c2]
        exact hi
theorem r128 {tb : qTb} {C X F : XT} {L : LT} {R : Option qV → qM → Prop} (hR : RR C X L F) (h : Nat) (hh : h < 4) (a : Int)  (hk : R (some (0, b01 (a ∈ L 1 h))) (LAY, F)) : qW tb 128 (119, 1262) 0 [(3, 69), (0, (h : Int)), (0, a), (9, 0), (9, 0)] [] (LAY, F) R := by
  have hr := Rf_k hR.rf
  have hx := hR.k
  simp only [YK, c128, t128, tgK, lyK, rkK, wK, rfK, hr, qRes_eq, qNon_eq, qup_ap, vup_ap, vcpy_ap, kc8_0, kc8_1, kc8_2, lc_lt, lc_gt, lc_eq, Option.toList_some, Option.toList_none, List.cons_append, List.nil_append, lay_len, lay_sz, Nat.reduceAdd, Nat.reduceSub, Nat.reduceMul, Int.reduceToNat, Int.reduceLE, Int.reduceLT, Int.reduceEq, Int.reduceAdd, Int.reduceSub, Int.reduceMul, Int.reduceNeg, Nat.reduceLeDiff, Nat.reduceLT, true_and, and_true, false_and, and_false, qcat_0, qcat_1, qcat_3, qcat_9, Nat.reduceEqDiff, if_true, if_false, ite_self, or_true, true_or, or_false, false_or, forall_const, not_true_eq_false, not_false_eq_true, false_implies, implies_true, qtK0, qtK1, qtK2, qtK3, qtK4, List.getD_cons_zero, List.getD_cons_succ, hx, Int.toNat_natCast, ne_eq]
  exact r128_loop hR h hh a hk (L 1 h).length 0 (by omega)
def shf (F : XT) (h k e : Nat) : XT := va_up F 103 (fun j => if 16 * h + k ≤ j ∧ j < 16 * h + e then F 103 (j + 1) else F 103 j)
theorem shf_step (F : XT) (h k e : Nat) (he : k ≤ e) : qup (shf F h k e) 103 (16 * h + e) (F 103 (16 * h + e + 1)) = shf F h k (e + 1) := by
  funext c j
  unfold shf
  rw [qup_ap, vup_ap, vup_ap]
  by_cases hc : c = 103
  · rw [if_pos hc, if_pos hc, if_pos hc]
    by_cases hj : j = 16 * h + e
    · rw [if_pos hj, if_pos (by omega), hj]
    · rw [if_neg hj]
      by_cases h2 : 16 * h + k ≤ j ∧ j < 16 * h + e
      · rw [if_pos h2, if_pos (by omega)]
      · rw [if_neg h2, if_neg (by omega)]
  · rw [if_neg hc, if_neg hc, if_neg hc]
theorem shf_zero (F : XT) (h k : Nat) : shf F h k k = F := by
  funext c j
  unfold shf
  rw [vup_ap]
  by_cases hc : c = 103
  · rw [if_pos hc, if_neg (by omega), hc]
  · rw [if_neg hc]
theorem RR_take {C X F : XT} {L : LT} (hR : RR C X L F) (h k : Nat) (hh : h < 4) (hk : k < (L 0 h).length) : RR C X (lset L 0 h ((L 0 h).eraseIdx k)) (shf (qup F 104 h (((L 0 h).length - 1 : Nat) : Int)) h k ((L 0 h).length - 1)) := by
  obtain ⟨h1, h2, h3, h4⟩ := hR
  have hlen : ((L 0 h).eraseIdx k).length = (L 0 h).length - 1 := List.length_eraseIdx_of_lt hk
  refine ⟨Rf_vup (h1.upA _ _ (by decide)) _ (by decide), ?_, ?_, ?_⟩
  · intro c hc
    funext j
    unfold shf
    rw [vup_ap, if_neg (by omega), qup_ap, if_neg (by omega), h2 c hc]
  · intro c hc
    funext j
    unfold shf
    unfold nl at hc
    rw [vup_ap, if_neg (by omega), qup_ap, if_neg (by omega), h3 c hc]
  · intro g hg
    obtain ⟨q1, q2, q3, q4, q5, q6, q7, q8⟩ := h4 g hg
    have e5 : shf (qup F 104 h (((L 0 h).length - 1 : Nat) : Int)) h k ((L 0 h).length - 1) 105 = F 105 := rfl
    have e6 : shf (qup F 104 h (((L 0 h).length - 1 : Nat) : Int)) h k ((L 0 h).length - 1) 106 = F 106 := rfl
    have e7 : shf (qup F 104 h (((L 0 h).length - 1 : Nat) : Int)) h k ((L 0 h).length - 1) 107 = F 107 := rfl
    have e4 : shf (qup F 104 h (((L 0 h).length - 1 : Nat) : Int)) h k ((L 0 h).length - 1) 104 = qup F 104 h (((L 0 h).length - 1 : Nat) : Int) 104 := rfl
    have e3 : ∀ j, shf (qup F 104 h (((L 0 h).length - 1 : Nat) : Int)) h k ((L 0 h).length - 1) 103 j = if 16 * h + k ≤ j ∧ j < 16 * h + ((L 0 h).length - 1) then F 103 (j + 1) else F 103 j := fun j => rfl
    by_cases hgh : g = h
    · subst hgh
      refine ⟨?_, ?_, ?_, ?_, ?_, ?_, ?_, ?_⟩
      · intro j hj
        rw [lset_self] at hj ⊢
        rw [hlen] at hj
        rw [e3, getD_erase]
        by_cases hjk : j < k
        · rw [if_neg (by omega), if_pos hjk, q1 j (by omega)]
        · rw [if_pos (by omega), if_neg hjk]
          exact q1 (j + 1) (by omega)
      · rw [e4, lset_self, hlen, qup_ap, if_pos rfl, if_pos rfl]
      · rw [e5, lset_ne (Or.inl (by decide))]; exact q3
      · rw [e6, lset_ne (Or.inl (by decide))]; exact q4
      · rw [e7, lset_ne (Or.inl (by decide))]; exact q5
      · rw [lset_self, hlen]; omega
      · rw [lset_ne (Or.inl (by decide))]; exact q7
      · rw [lset_ne (Or.inl (by decide)), lset_ne (Or.inl (by decide))]; exact q8
    · refine ⟨?_, ?_, ?_, ?_, ?_, ?_, ?_, ?_⟩
      · intro j hj
        rw [lset_ne (Or.inr hgh)] at hj ⊢
        rw [e3, if_neg (by have := (h4 h hh).2.2.2.2.2.1; omega)]
        exact q1 j hj
      · rw [e4, lset_ne (Or.inr hgh), qup_ap, if_pos rfl, if_neg hgh]; exact q2
      · rw [e5, lset_ne (Or.inl (by decide))]; exact q3
      · rw [e6, lset_ne (Or.inl (by decide))]; exact q4
      · rw [e7, lset_ne (Or.inl (by decide))]; exact q5
      · rw [lset_ne (Or.inr hgh)]; exact q6
      · rw [lset_ne (Or.inl (by decide))]; exact q7
      · rw [lset_ne (Or.inl (by decide)), lset_ne (Or.inl (by decide))]; exact q8
theorem r130 {tb : qTb} {C X F : XT} {L : LT} {R : Option qV → qM → Prop} (hR : RR C X L F) (h k : Nat) (hh : h < 4) (hkl : k < (L 0 h).length) (hk : ∀ F2, RR C X (lset L 0 h ((L 0 h).eraseIdx k)) F2 → R none (LAY, F2)) : qW tb 130 (119, 1262) 0 [(3, 69), (0, (h : Int)), (0, (k : Int)), (9, 0)] [] (LAY, F) R := by
  have hr := Rf_k hR.rf
  have hx := hR.k
  have q := hR.2.2.2 h hh
  have b1 : (0 ≤ (h : Int) ∧ (h : Int) < 4) = True := eq_true (by omega)
  have e1 := q.2.1
  have hl := q.2.2.2.2.2
  have w0 : w32 (((L 0 h).length : Int) - 1) = (((L 0 h).length - 1 : Nat) : Int) := by rw [w32_id ⟨by omega, by omega⟩]; omega
  have hloop : ∀ (n e : Nat), e + n = (L 0 h).length - 1 → k ≤ e → qW tb 130 (119, 1262) 12 [(3, 69), (0, (h : Int)), (0, (k : Int)), (0, (e : Int))] [] (LAY, shf (qup F 104 h (((L 0 h).length - 1 : Nat) : Int)) h k e) R := by
    intro n
    induction n with
    | zero =>
      intro e he hke
      have r1 := Rf_k (Rf_vup (hR.rf.upA h (((L 0 h).length - 1 : Nat) : Int) (c := 104) (by decide)) (c := 103) (fun j => if 16 * h + k ≤ j ∧ j < 16 * h + e then (qup F 104 h (((L 0 h).length - 1 : Nat) : Int)) 103 (j + 1) else (qup F 104 h (((L 0 h).length - 1 : Nat) : Int)) 103 j) (by decide))
      have b2 : ¬ ((e : Int) < (((L 0 h).length - 1 : Nat) : Int)) := by omega
      have hq := hk _ (RR_take hR h k hh hkl)
      have he2 : e = (L 0 h).length - 1 := by omega
      rw [← he2] at hq b2
      rw [← he2]
      rw [h130_12]
      unfold shf at hq ⊢
      simp only [YK, c130, t130, tgK, lyK, rkK, wK, rfK, hr, qRes_eq, qNon_eq, qup_ap, vup_ap, vcpy_ap, kc8_0, kc8_1, kc8_2, lc_lt, lc_gt, lc_eq, Option.toList_some, Option.toList_none, List.cons_append, List.nil_append, lay_len, lay_sz, Nat.reduceAdd, Nat.reduceSub, Nat.reduceMul, Int.reduceToNat, Int.reduceLE, Int.reduceLT, Int.reduceEq, Int.reduceAdd, Int.reduceSub, Int.reduceMul, Int.reduceNeg, Nat.reduceLeDiff, Nat.reduceLT, true_and, and_true, false_and, and_false, qcat_0, qcat_1, qcat_3, qcat_9, Nat.reduceEqDiff, if_true, if_false, ite_self, or_true, true_or, or_false, false_or, forall_const, not_true_eq_false, not_false_eq_true, false_implies, implies_true, qtK0, qtK1, qtK2, qtK3, qtK4, List.getD_cons_zero, List.getD_cons_succ, hx, Int.toNat_natCast, ne_eq, b1, e1, b2]
      exact hq
    | succ n ih =>
      intro e he hke
      have b2 : ((e : Int) < (((L 0 h).length - 1 : Nat) : Int)) = True := eq_true (by omega)
      have w1 : w32 (16 * (h : Int)) = ((16 * h : Nat) : Int) := by rw [w32_id ⟨by omega, by omega⟩]; omega
      have w2 : w32 (((16 * h : Nat) : Int) + (e : Int)) = ((16 * h + e : Nat) : Int) := by rw [w32_id ⟨by omega, by omega⟩]; omega
      have w3 : w32 (((16 * h + e : Nat) : Int) + 1) = ((16 * h + e + 1 : Nat) : Int) := by rw [w32_id ⟨by omega, by omega⟩]; omega
      have w4 : w32 ((e : Int) + 1) = ((e + 1 : Nat) : Int) := by rw [w32_id ⟨by omega, by omega⟩]; omega
      have b3 : (0 ≤ ((16 * h + e : Nat) : Int) ∧ ((16 * h + e : Nat) : Int) < 64) = True := eq_true (by omega)
      have b4 : (0 ≤ ((16 * h + e + 1 : Nat) : Int) ∧ ((16 * h + e + 1 : Nat) : Int) < 64) = True := eq_true (by omega)
      have hi := ih (e + 1) (by omega) (by omega)
      rw [← shf_step _ h k e hke] at hi
      have b5 : (16 * h + k ≤ 16 * h + e + 1 ∧ 16 * h + e + 1 < 16 * h + e) = False := eq_false (by omega)
      rw [h130_12]
      unfold shf at hi ⊢
      simp only [YK, c130, t130, tgK, lyK, rkK, wK, rfK, hr, qRes_eq, qNon_eq, qup_ap, vup_ap, vcpy_ap, kc8_0, kc8_1, kc8_2, lc_lt, lc_gt, lc_eq, Option.toList_some, Option.toList_none, List.cons_append, List.nil_append, lay_len, lay_sz, Nat.reduceAdd, Nat.reduceSub, Nat.reduceMul, Int.reduceToNat, Int.reduceLE, Int.reduceLT, Int.reduceEq, Int.reduceAdd, Int.reduceSub, Int.reduceMul, Int.reduceNeg, Nat.reduceLeDiff, Nat.reduceLT, true_and, and_true, false_and, and_false, qcat_0, qcat_1, qcat_3, qcat_9, Nat.reduceEqDiff, if_true, if_false, ite_self, or_true, true_or, or_false, false_or, forall_const, not_true_eq_false, not_false_eq_true, false_implies, implies_true, qtK0, qtK1, qtK2, qtK3, qtK4, List.getD_cons_zero, List.getD_cons_succ, hx, Int.toNat_natCast, ne_eq, b1, e1, b2, b3, b4, b5, w1, w2, w3, w4]
      simp only [qup_ap, Nat.reduceEqDiff, if_false] at hi
      exact hi
  simp only [YK, c130, t130, tgK, lyK, rkK, wK, rfK, hr, qRes_eq, qNon_eq, qup_ap, vup_ap, vcpy_ap, kc8_0, kc8_1, kc8_2, lc_lt, lc_gt, lc_eq, Option.toList_some, Option.toList_none, List.cons_append, List.nil_append, lay_len, lay_sz, Nat.reduceAdd, Nat.reduceSub, Nat.reduceMul, Int.reduceToNat, Int.reduceLE, Int.reduceLT, Int.reduceEq, Int.reduceAdd, Int.reduceSub, Int.reduceMul, Int.reduceNeg, Nat.reduceLeDiff, Nat.reduceLT, true_and, and_true, false_and, and_false, qcat_0, qcat_1, qcat_3, qcat_9, Nat.reduceEqDiff, if_true, if_false, ite_self, or_true, true_or, or_false, false_or, forall_const, not_true_eq_false, not_false_eq_true, false_implies, implies_true, qtK0, qtK1, qtK2, qtK3, qtK4, List.getD_cons_zero, List.getD_cons_succ, hx, Int.toNat_natCast, ne_eq, b1, e1, w0]
  have := hloop ((L 0 h).length - 1 - k) k (by omega) (Nat.le_refl k)
  rw [shf_zero] at this
  exact this
